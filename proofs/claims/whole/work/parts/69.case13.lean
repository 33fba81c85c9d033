/-! cases that add a line -/
theorem WFl.add {g : Mem} {n l : Nat} {k w a b c d : Int32} (h : WFl g l) (hl : ¬ l = n) : WFl (gadd g n k w a b c d) l := by
  unfold WFl at h ⊢
  rw [ga48, ga49, ga50, ga51, ga52, ga53, if_neg hl, if_neg hl, if_neg hl, if_neg hl, if_neg hl, if_neg hl]
  exact h
section ADD
variable {j n w : Nat} {m g : Mem} {k k' a b c ga gb gc d : Int32}
theorem Iv.add {m' : Mem} (h : Iv j m g n) (hn : n < 30) (hM : MC m' (gadd g n k (nI w) ga gb gc d) (n + 1)) (hC : CC m' (gadd g n k (nI w) ga gb gc d) (n + 1)) (hwf : ∀ l, l < n + 1 → WFl (gadd g n k (nI w) ga gb gc d) l) (hd : ∀ l, l < n + 1 → ∃ q : Nat, q ≤ 20 ∧ (gadd g n k (nI w) ga gb gc d) 53 l = nI q)
    (hs : ∀ i, (i = 9 ∨ i = 10 ∨ (23 ≤ i ∧ i ≤ 34) ∨ i = 60) → m' i = m i) (h1 : m' 1 6 = 0) (h11 : m' 47 11 = 0) (cf : CF m' (FL (gadd g n k (nI w) ga gb gc d) (n + 1))) (ci : CI_ m' (gadd g n k (nI w) ga gb gc d) (n + 1) (n + 1)) (c5 : m' 14 5 = (if (FLw (gadd g n k (nI w) ga gb gc d) (n + 1) 24).length = 0 then 0 else 1))
    (h20 : ∀ x, x < 24 → m' 20 x = AR (gadd g n k (nI w) ga gb gc d) (n + 1) ((gadd g n k (nI w) ga gb gc d) 53) x) : Iv (j + 1) m' (gadd g n k (nI w) ga gb gc d) (n + 1) := by
  obtain ⟨a1, a2, a3, a4, a5, a6, a7, a8, a9, a10, a11, a12, q, a13, a14⟩ := h
  refine ⟨hM, hC, hwf, hd, fun l hl => ?_, ?_, ?_, ⟨by rw [h1, h11], Or.inl h11⟩, cf, ci, c5, h20, q, by omega, ?_⟩
  · rw [hs 9 (by omega), hs 10 (by omega), ga54, ga55]; exact a5 l hl
  · rw [hs 60 (by omega)]
    exact ⟨a6.1, a6.2.1, fun l b1 b2 => a6.2.2 l (by omega) b2⟩
  · rw [hs 60 (by omega)]
    unfold RR at a7 ⊢
    rw [hs 23 (by omega), hs (23 + 1) (by omega), hs (23 + 2) (by omega), hs (23 + 3) (by omega), hs (23 + 4) (by omega), hs (23 + 5) (by omega), hs (23 + 6) (by omega), hs (23 + 7) (by omega), hs (23 + 8) (by omega), hs (23 + 9) (by omega), hs (23 + 10) (by omega), hs (23 + 11) (by omega)]
    exact a7
  · rw [hs 60 (by omega)]; exact a14
theorem add_both {A : Int32 → Mem → Prop} (h : Iv j m g n) (hn : n < 30) (hw : w < 24) (ha : isW0 a) (hb : isW0 b) (hc : isW0 c) (ea : a = ga) (hu : ∀ x, x < 24 → ((a = nI x ∨ b = nI x ∨ c = nI x) ↔ (ga = nI x ∨ gb = nI x ∨ gc = nI x)))
    (hk : (k = -1 ∧ k' = 8 ∧ b = -1 ∧ c = -1) ∨ (k = -2 ∧ k' = 9 ∧ b = gb ∧ c = gc) ∨ (∃ q : Nat, q < 8 ∧ k = nI q ∧ k' = nI q ∧ b = (if 2 ≤ q then gb else ga) ∧ c = (if q = 7 then gc else ga)))
    (hwf : WFl (gadd g n k (nI w) ga gb gc d) n) (hd : ∃ q : Nat, q ≤ 20 ∧ d = nI q)
    (hA : ∀ m1 : Mem, (∀ m2 : Mem, m2 = up2 m1 47 0 0 → MC m2 g n ∧ ∀ K' : Int32 → Mem → Prop, (∀ m' : Mem, Iv (j + 1) m' (gadd g n k (nI w) ga gb gc d) (n + 1) → m' 47 0 = 0 → K' (nI n) m') → w_M_add k (nI w) ga gb gc d m2 K') → A (nI n) m1) : w_N_addLine k' (nI w) a b c d m A := by
  have hwf' : ∀ l, l < n + 1 → WFl (gadd g n k (nI w) ga gb gc d) l := fun l hl => by
    by_cases e : l = n
    · rw [e]; exact hwf
    · exact (h.2.2.1 l (by omega)).add e
  have hd' : ∀ l, l < n + 1 → ∃ q : Nat, q ≤ 20 ∧ (gadd g n k (nI w) ga gb gc d) 53 l = nI q := fun l hl => by
    rw [ga53]
    by_cases e : l = n
    · rw [if_pos e]; exact hd
    · rw [if_neg e]; exact h.2.2.2.1 l (by omega)
  have h910 := h.2.2.2.2.1 n hn
  unfold w_N_addLine
  refine s_C_add h.2.1 hn hw ha hb hc fun m1 f f2 f3 f4 f5 f6 f7 f8 f11 f12 f13 => ?_
  intro m3 e3
  have cc1 := CC.add (k := k) (k' := k') (ga := ga) (gb := gb) (gc := gc) h.2.1 hn hw h910.1 h910.2 f f2 f3 f4 f5 f6 f7 f8 f11 f12 f13 ea hu hk
  have cc3 : CC m3 (gadd g n k (nI w) ga gb gc d) (n + 1) := cc1.same fun i b1 b2 => by rw [e3, up2_ne (by omega)]
  refine s_F_find cc3 hwf' fun m4 f4 cf ci c5 => ?_
  refine s_A_reckon (dl := (gadd g n k (nI w) ga gb gc d) 53) (by omega) (cc3.fx f4) ci hwf' hd' (fun q hq => by rw [if_neg (nI_m1 (by omega))]) fun m5 f5' A5 => ?_
  refine hA m5 fun m2 e2 => ?_
  have h5 : ∀ i, (i < 1 ∨ 20 < i ∨ i = 9 ∨ i = 10) → m5 i = m i := fun i hi => by rw [f5' i (by omega), f4 i (by omega), e3, up2_ne (by omega), f i (by omega)]
  have c2 : MC m2 g n := by rw [e2]; exact (h.1.out fun i b1 b2 => h5 i (by omega)).thr
  refine ⟨c2, fun K' hK' => ?_⟩
  refine s_M_add c2 hn fun m6 g1 g2 g3 g4 => ?_
  have h6 : ∀ i, (i < 47 ∨ 53 < i) → m6 i = m5 i := fun i hi => by rw [g1 i hi, e2, up2_ne (by omega)]
  refine hK' m6 (h.add hn g4 ?_ hwf' hd' (fun i hi => ?_) ?_ g2 ?_ (fun q hq => ?_) ?_ (fun x hx => ?_)) ?_
  · exact (cc3.fx f4).same fun i b1 b2 => by rw [h6 i (by omega), f5' i (by omega)]
  · rw [h6 i (by omega), h5 i (by omega)]
  · rw [h6 1 (by omega), f5' 1 (by omega), f4 1 (by omega), e3, up2_at, if_pos rfl]
  · unfold CF at cf ⊢
    rw [h6 14 (by omega), h6 15 (by omega), h6 16 (by omega), f5' 14 (by omega), f5' 15 (by omega), f5' 16 (by omega)]; exact cf
  · rw [h6 17 (by omega), f5' 17 (by omega)]; exact ci q hq
  · rw [h6 14 (by omega), f5' 14 (by omega)]; exact c5
  · rw [h6 20 (by omega)]; exact A5 x hx
  · rw [g3 0 (by omega) (by omega), e2]; exact up47_0
end ADD
section CASES13
variable {j : Nat} {m : Mem} {o : Nat → Int64}
theorem isW0_m1 : isW0 (-1) := Or.inl rfl
theorem nI_ne30 {n : Nat} (hn : n ≤ 30) : (nI n = (30 : Int32)) ↔ ¬ n < 30 := by
  constructor
  · intro e h
    exact absurd ((nI_eq (b := 30) (by omega) (by decide)).mp e) (by omega)
  · intro h
    have : n = 30 := by omega
    subst this
    rfl
theorem nI_lt30 {n : Nat} (hn : n ≤ 30) : (nI n < (30 : Int32)) ↔ n < 30 := nI_ltI (b := 30) (by omega) (by decide)
theorem case_0 {p1 : Int32} (h : Inv j m) : wc_0 p1 o m (fun _ m2 => Inv (j + 1) m2) := by
  obtain ⟨g, n, h⟩ := h
  have hn := h.1.1
  have c1 : MC (up2 m 47 0 0) g n := h.1.thr
  unfold wc_0 w_L_input w_N_input w_N_checkRoom w_M_input w_M_thrown
  refine s_N_checkWire (fun w hw ep => ?_) (fun hno => ⟨fun _ => ?_, fun e => absurd e (by decide), fun ne => absurd rfl ne⟩)
  · subst ep
    rw [h.2.1.2.1]
    refine ⟨fun lt => ?_, fun nlt => ⟨fun e => absurd e (by decide), fun _ => ?_, fun _ ne => absurd rfl ne⟩⟩
    · have hn30 := (nI_lt30 hn).mp lt
      refine add_both (k := -1) (ga := -1) (gb := -1) (gc := -1) h hn30 hw isW0_m1 isW0_m1 isW0_m1 rfl (fun x _ => Iff.rfl) (Or.inl ⟨rfl, rfl, rfl, rfl⟩) ?_ ⟨0, by omega, rfl⟩ fun m1 hh m2 e2 => ?_
      · unfold WFl
        rw [ga48, ga49, ga50, ga51, ga52, ga53, if_pos rfl, if_pos rfl, if_pos rfl, if_pos rfl, if_pos rfl, if_pos rfl]
        exact ⟨⟨w, hw, rfl⟩, Or.inl ⟨rfl, rfl, rfl, rfl, rfl⟩⟩
      · obtain ⟨c2, ad⟩ := hh m2 e2
        refine s_M_isWire (fun _ _ _ => ⟨fun _ => ⟨fun _ => ad _ fun m' i' t' => fin_ok t' updL_0 ⟨_, _, i'⟩, fun e => ?_⟩, fun e => absurd e (by decide)⟩) (fun no => absurd ⟨w, hw, rfl⟩ no)
        rw [c2.2.1] at e
        exact absurd hn30 ((nI_ne30 hn).mp e)
    · intro m1 em
      subst em
      refine s_M_isWire (fun _ _ _ => ⟨fun _ => ⟨fun ne => ?_, fun _ => end_no h SM.thrown (by decide)⟩, fun e => absurd e (by decide)⟩) (fun no => absurd ⟨w, hw, rfl⟩ no)
      rw [c1.2.1] at ne
      exact absurd ((nI_ne30 hn).mpr fun lt => nlt ((nI_lt30 hn).mpr lt)) ne
  · intro m1 em
    subst em
    exact s_M_isWire (fun w hw ep => absurd ⟨w, hw, ep⟩ hno) (fun _ => ⟨fun e => absurd rfl e, fun _ => end_no h SM.thrown (by decide)⟩)
theorem case_2 {p1 p2 p3 p4 p5 : Int32} (h : Inv j m) : wc_2 p1 p2 p3 p4 p5 o m (fun _ m2 => Inv (j + 1) m2) := by
  obtain ⟨g, n, h⟩ := h
  have hn := h.1.1
  have c1 : MC (up2 m 47 0 0) g n := h.1.thr
  -- an exception of the wires, in the reference
  have bad : ¬ (isW p1 ∧ isW p2 ∧ isW p3 ∧ isW0 p4) → ∀ o' : Nat → Int64, w_M_register p1 p2 p3 p4 p5 m (fun r5 m6 => ((m6 47 0 = 1 → ((¬ ((1 : Int32) = 0) → Inv (j + 1) m6) ∧ ((1 : Int32) = 0 → ((lg_cmp (o' 0) r5.toInt64 = 0 → Inv (j + 1) m6) ∧ (¬ (lg_cmp (o' 0) r5.toInt64 = 0) → False))))) ∧ (¬ (m6 47 0 = 1) → False))) := by
    intro hb o'
    unfold w_M_register
    intro m1 em
    subst em
    refine s_M_isWire (fun _ w1 e1 => ⟨fun e => absurd e (by decide), fun _ => ?_⟩) (fun _ => ⟨fun _ => end_no h SM.thrown (by decide), fun e => absurd rfl e⟩)
    refine s_M_isWire (fun _ w2 e2 => ⟨fun e => absurd e (by decide), fun _ => ?_⟩) (fun _ => ⟨fun _ => end_no h SM.thrown (by decide), fun e => absurd rfl e⟩)
    refine s_M_isWire (fun _ w3 e3 => ⟨fun e => absurd e (by decide), fun _ => ?_⟩) (fun _ => ⟨fun _ => end_no h SM.thrown (by decide), fun e => absurd rfl e⟩)
    intro J hJ
    refine ⟨fun e4 => absurd ⟨⟨_, w1, e1⟩, ⟨_, w2, e2⟩, ⟨_, w3, e3⟩, Or.inl e4⟩ hb, fun _ => ?_⟩
    exact s_M_isWire (fun _ w4 e4 => absurd ⟨⟨_, w1, e1⟩, ⟨_, w2, e2⟩, ⟨_, w3, e3⟩, Or.inr ⟨_, w4, e4⟩⟩ hb) (fun _ => ⟨fun e => absurd rfl e, fun _ => end_no h SM.thrown (by decide)⟩)
  -- the reference with good wires
  have good : ∀ (m2 : Mem) (K : Int32 → Mem → Prop), isW p1 → isW p2 → isW p3 → isW0 p4 → (w_M_isIn p5 (0 : Int32) (20 : Int32) m2 (fun r26 m25 => ((¬ (r26 = 0) → ((¬ ((m25 47 1) = (30 : Int32)) → w_M_add (-2 : Int32) p1 p2 p3 p4 p5 m25 (fun r30 m29 => K r30 m29)) ∧ ((m25 47 1) = (30 : Int32) → w_M_no (3 : Int32) m25 (fun r32 m31 => K r32 m31)))) ∧ (r26 = 0 → w_M_no (2 : Int32) m25 (fun r34 m33 => K r34 m33))))) →
      ∀ m1 : Mem, m2 = up2 m1 47 0 0 → w_M_register p1 p2 p3 p4 p5 m1 K := by
    intro m2 K i1 i2 i3 i4 hK m1 em
    unfold w_M_register
    intro m3 e3
    rw [← em] at e3
    subst e3
    refine s_M_isWire (fun _ _ _ => ⟨fun e => absurd e (by decide), fun _ => ?_⟩) (fun no => absurd i1 no)
    refine s_M_isWire (fun _ _ _ => ⟨fun e => absurd e (by decide), fun _ => ?_⟩) (fun no => absurd i2 no)
    refine s_M_isWire (fun _ _ _ => ⟨fun e => absurd e (by decide), fun _ => ?_⟩) (fun no => absurd i3 no)
    intro J hJ
    refine ⟨fun _ => hJ _ hK, fun ne => ?_⟩
    exact s_M_isWire (fun _ _ _ => ⟨fun _ => hJ _ hK, fun e => absurd e (by decide)⟩) (fun no => absurd (i4.resolve_left ne) no)
  unfold wc_2 w_L_register w_N_register w_N_checkDelay w_N_checkRoom w_M_thrown
  refine s_N_checkWire (fun w hw ep => ?_) (fun no => ⟨fun _ => bad (fun hh => no hh.1) _, fun e => absurd e (by decide), fun e => absurd e (by decide), fun ne => absurd rfl ne⟩)
  subst ep
  refine s_N_checkWire (fun w2 hw2 ep2 => ?_) (fun no => ⟨fun _ => bad (fun hh => no hh.2.1) _, fun e => absurd e (by decide), fun e => absurd e (by decide), fun ne => absurd rfl ne⟩)
  refine s_N_checkWire (fun w3 hw3 ep3 => ?_) (fun no => ⟨fun _ => bad (fun hh => no hh.2.2.1) _, fun e => absurd e (by decide), fun e => absurd e (by decide), fun ne => absurd rfl ne⟩)
  have i1 : isW (nI w) := ⟨w, hw, rfl⟩
  have i2 : isW p2 := ⟨w2, hw2, ep2⟩
  have i3 : isW p3 := ⟨w3, hw3, ep3⟩
  intro J hJ
  suffices hj : isW0 p4 → J m by
    refine ⟨fun e4 => hj (Or.inl e4), fun ne => ?_⟩
    exact s_N_checkWire (fun w4 hw4 ep4 => hj (Or.inr ⟨w4, hw4, ep4⟩)) (fun no => ⟨fun _ => bad (fun hh => no (hh.2.2.2.resolve_left ne)) _, fun e => absurd e (by decide), fun e => absurd e (by decide), fun ne => absurd rfl ne⟩)
  intro i4
  refine hJ m ?_
  refine s_within (fun a b => ⟨fun _ => ?_, fun e => absurd e (by decide)⟩) (fun hb => ⟨fun e => absurd rfl e, fun _ => ⟨fun e => absurd e (by decide), fun _ => ?_, fun e => absurd e (by decide), fun _ ne => absurd rfl ne⟩⟩)
  · show (m 2 11 < 30 → _) ∧ (¬ m 2 11 < 30 → _)
    rw [h.2.1.2.1]
    refine ⟨fun lt => ?_, fun nlt => ⟨fun e => absurd e (by decide), fun e => absurd e (by decide), fun _ => ?_, fun _ _ ne => absurd rfl ne⟩⟩
    · have hn30 := (nI_lt30 hn).mp lt
      refine add_both (k := -2) (ga := p2) (gb := p3) (gc := p4) h hn30 hw (Or.inr i2) (Or.inr i3) i4 rfl (fun x _ => Iff.rfl) (Or.inr (Or.inl ⟨rfl, rfl, rfl, rfl⟩)) ?_ (in0k (n := 20) rfl (by decide) a b) fun m1 hh => ?_
      · unfold WFl
        rw [ga48, ga49, ga50, ga51, ga52, ga53, if_pos rfl, if_pos rfl, if_pos rfl, if_pos rfl, if_pos rfl, if_pos rfl]
        exact ⟨i1, Or.inr (Or.inl ⟨rfl, i2, i3, i4⟩)⟩
      · refine good (up2 m1 47 0 0) _ i1 i2 i3 i4 ?_ m1 rfl
        obtain ⟨c2, ad⟩ := hh _ rfl
        refine s_isIn (fun _ _ => ⟨fun _ => ⟨fun _ => ad _ fun m' i' t' => fin_ok t' updL_0 ⟨_, _, i'⟩, fun e => ?_⟩, fun e => absurd e (by decide)⟩) (fun hb => absurd hb (fun hb => hb.elim a b))
        rw [c2.2.1] at e
        exact absurd hn30 ((nI_ne30 hn).mp e)
    · refine good (up2 m 47 0 0) _ i1 i2 i3 i4 ?_ m rfl
      refine s_isIn (fun _ _ => ⟨fun _ => ⟨fun ne => ?_, fun _ => end_no h SM.thrown (by decide)⟩, fun e => absurd e (by decide)⟩) (fun hb => absurd hb (fun hb => hb.elim a b))
      rw [c1.2.1] at ne
      exact absurd ((nI_ne30 hn).mpr fun lt => nlt ((nI_lt30 hn).mpr lt)) ne
  · refine good (up2 m 47 0 0) _ i1 i2 i3 i4 ?_ m rfl
    exact s_isIn (fun a b => absurd hb (fun hb => hb.elim a b)) (fun _ => ⟨fun e => absurd rfl e, fun _ => end_no h SM.thrown (by decide)⟩)
end CASES13
