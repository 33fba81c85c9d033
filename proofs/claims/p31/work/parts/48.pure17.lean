/-! the class's arrivals -/
def FA (r : Nat) (m m' : Mem) : Prop := ∀ i, i ≠ r + 1 → m' i = m i
theorem FA.refl (r : Nat) (m : Mem) : FA r m m := fun _ _ => rfl
theorem FA.trans {r : Nat} {a b c : Mem} (h1 : FA r a b) (h2 : FA r b c) : FA r a c := fun i hi => (h2 i hi).trans (h1 i hi)
theorem CC.fa {m m' g : Mem} {n r : Nat} (h : CC m g n) (hr : 19 ≤ r) (hm : FA r m m') : CC m' g n := h.same fun i h1 h2 => hm i (by omega)
/-- each entry is not yet told, or right -/
def AI (r : Nat) (m g : Mem) (n : Nat) (dl : Nat → Int32) : Prop := ∀ w, w < 24 → (m (r + 1) w = -2 ∨ m (r + 1) w = AR g n dl w)
theorem CL.pins {m g : Mem} {l : Nat} (h : CL m g l) (hw : WFl g l) (hk : ¬ g 48 l < 0) : m 6 l = pinB g l ∧ m 7 l = pinC g l := by
  obtain ⟨k, hk8, ek⟩ := hw.gate hk
  have n1 : ¬ nI k = -1 := nI_m1 (by omega)
  have n2 : ¬ nI k = -2 := by
    intro e
    have := congrArg Int32.toInt e
    rw [nI_toInt (by omega), show (-2 : Int32).toInt = -2 by decide] at this
    omega
  obtain ⟨g50, g51, g52⟩ : isW (g 50 l) ∧ (if 2 ≤ k then isW (g 51 l) else g 51 l = -1) ∧ (if k = 7 then isW (g 52 l) else g 52 l = -1) := by
    rcases hw.2 with hh | hh | ⟨k', hk', e', hh⟩
    · exact absurd (ek.symm.trans hh.1) n1
    · exact absurd (ek.symm.trans hh.1) n2
    · have : k' = k := (nI_eq (by omega) (by omega)).mp (e'.symm.trans ek)
      subst this; exact hh
  obtain ⟨c6, c7⟩ : m 6 l = (if 2 ≤ k then g 51 l else g 50 l) ∧ m 7 l = (if k = 7 then g 52 l else g 50 l) := by
    rcases h.2.2.2.2.2 with hh | hh | ⟨k', hk', e', hh⟩
    · exact absurd (ek.symm.trans hh.1) n1
    · exact absurd (ek.symm.trans hh.1) n2
    · have : k' = k := (nI_eq (by omega) (by omega)).mp (e'.symm.trans ek)
      subst this; exact hh.2
  have nW : ∀ x : Int32, isW x → ¬ x = -1 := by
    rintro x ⟨w, hw, rfl⟩; exact nI_m1 (by omega)
  constructor
  · rw [c6]; unfold pinB
    by_cases h2 : 2 ≤ k
    · rw [if_pos h2] at g51 ⊢; rw [if_neg (nW _ g51)]
    · rw [if_neg h2] at g51 ⊢; rw [if_pos g51]
  · rw [c7]; unfold pinC
    by_cases h2 : k = 7
    · rw [if_pos h2] at g52 ⊢; rw [if_neg (nW _ g52)]
    · rw [if_neg h2] at g52 ⊢; rw [if_pos g52]
section CA
variable {m g : Mem} {n r : Nat} {dl : Nat → Int32}
theorem s_A_arrivalOf {x : Int32} {K : Int32 → Mem → Prop} (hx : isW x) (hK : K (m (r + 1) (cl x)) m) : w_A_arrivalOf r x m K := by
  obtain ⟨w, hw, rfl⟩ := hx
  rw [cl_nI (by omega)] at hK
  unfold w_A_arrivalOf
  refine s_N_isWire hw ⟨fun e => absurd e (by decide), fun _ => ⟨vp_in_nI hw (by decide), ?_⟩⟩
  rw [nI_clamp (by omega)]; exact hK
theorem s_A_arrivalBy {w : Nat} {v : Int32} {K : Int32 → Mem → Prop} (hcc : CC m g n) (hwf : ∀ l, l < n → WFl g l) (hI : CI_ m g n n) (hA : AI r m g n dl) (hw : w < 24) (hd : ∀ l, l < n → ∃ d : Nat, d ≤ 20 ∧ dl l = nI d) (hv : ∀ q, q < n → S_drv g n w = nI q → v = dl q)
    (hK : ∀ x : Int32, (x = -2 ∨ x = AR g n dl w) → ((∀ p, p < 24 → rk g n p < rk g n w → ¬ m (r + 1) p = -2) → x = AR g n dl w) → K x m) : w_A_arrivalBy r (S_drv g n w) v m K := by
  have hn := hcc.1
  have eAR := AR_eq (dl := dl) hwf hn hw
  have fin : ∀ x : Int32, x = AR g n dl w → K x m := fun x e => hK x (Or.inr e) (fun _ => e)
  unfold w_A_arrivalBy
  rcases S_drv_spec (g := g) (n := n) (w := w) with ⟨e, -⟩ | ⟨q, hq, e, ew, -⟩
  · rw [e] at eAR ⊢
    rw [if_pos rfl] at eAR
    exact ⟨fun _ => fin 0 eAR.symm, fun h => absurd rfl h⟩
  · have hvq := hv q hq e
    rw [e] at eAR ⊢
    rw [if_neg (nI_m1 (by omega)), cl_nI (by omega)] at eAR
    have hin : vp_in (nI q) 30 := vp_in_nI (by omega) (by decide)
    have hCL := hcc.2.2.1 q hq
    have hwq := hwf q hq
    rw [nI_clamp (by omega)]
    refine ⟨fun h => absurd h (nI_m1 (by omega)), fun _ => ⟨hin, fun n8 => ⟨hin, fun n9 => ⟨hin, fun e0 => ⟨hin, ?_⟩, fun ne0 => fin _ ?_⟩, fun e9 => fin _ ?_⟩, fun e8 => fin _ ?_⟩⟩
    · have k1 : ¬ g 48 q = -1 := by
        intro k1
        rcases hCL.2.2.2.2.2 with hh | hh | ⟨k, hk, ek, -⟩
        · exact n8 hh.2.1
        · exact absurd (hh.1.symm.trans k1) (by decide)
        · exact nI_m1 (show k < 2 ^ 31 by omega) (ek.symm.trans k1)
      have k2 : ¬ g 48 q = -2 := fun k2 => n9 (hCL.reg k2)
      have hk := hwq.kinds k1 k2
      have hr : ¬ ringB g n q = true := by
        intro hr
        rw [hI q hq, if_pos ⟨hk, hr⟩] at e0
        exact absurd e0 (by decide)
      rw [if_neg k1, if_neg k2, if_neg hr] at eAR
      obtain ⟨⟨a1, a2, a3⟩, b1, b2, b3⟩ := hwq.pins hk
      obtain ⟨c6, c7⟩ := hCL.pins hwq hk
      have r1 := rk_lt hq hk hr hw ew a1.cl.2 b1
      have r2 := rk_lt hq hk hr hw ew a2.cl.2 b2
      have r3 := rk_lt hq hk hr hw ew a3.cl.2 b3
      rw [hCL.2.1]
      refine s_A_arrivalOf a1 ⟨hin, ?_⟩
      rw [c6]
      refine s_A_arrivalOf a2 ⟨hin, ?_⟩
      rw [c7]
      refine s_A_arrivalOf a3 ?_
      have A1 := hA _ a1.cl.2
      have A2 := hA _ a2.cl.2
      have A3 := hA _ a3.cl.2
      generalize ex : m (r + 1) (cl (g 50 q)) = x at A1 ⊢
      generalize ey : m (r + 1) (cl (pinB g q)) = y at A2 ⊢
      generalize ez : m (r + 1) (cl (pinC g q)) = z at A3 ⊢
      refine ⟨fun h => hK _ (Or.inl rfl) (fun hp => absurd (ex.trans h) (hp _ a1.cl.2 r1)), fun x2 => ⟨fun h => hK _ (Or.inl rfl) (fun hp => absurd (ey.trans h) (hp _ a2.cl.2 r2)), fun y2 => ⟨fun z2 => ?_, fun h => hK _ (Or.inl rfl) (fun hp => absurd (ez.trans h) (hp _ a3.cl.2 r3))⟩⟩⟩
      have ea := A1.resolve_left x2
      have eb := A2.resolve_left y2
      have ec := A3.resolve_left z2
      rw [← ea, ← eb, ← ec] at eAR
      unfold comb at eAR
      refine ⟨fun h => fin _ ?_, fun xn => ⟨fun h => fin _ ?_, fun yn => ⟨fun zn => fin _ ?_, fun h => fin _ ?_⟩⟩⟩
      · rw [eAR, if_pos (Or.inl h)]
      · rw [eAR, if_pos (Or.inr (Or.inl h))]
      · rw [eAR, if_neg (fun h => h.elim xn (fun h => h.elim yn zn)), hvq]
      · rw [eAR, if_pos (Or.inr (Or.inr h))]
    · have hh : ¬ g 48 q < 0 ∧ ringB g n q = true := by
        by_cases hc : ¬ g 48 q < 0 ∧ ringB g n q = true
        · exact hc
        · rw [hI q hq, if_neg hc] at ne0; exact absurd rfl ne0
      have k1 : ¬ g 48 q = -1 := fun k => hh.1 (by rw [k]; decide)
      have k2 : ¬ g 48 q = -2 := fun k => hh.1 (by rw [k]; decide)
      rw [if_neg k1, if_neg k2, if_pos hh.2] at eAR
      exact eAR.symm
    · have k2 : g 48 q = -2 := by
        rcases hCL.2.2.2.2.2 with hh | hh | ⟨k, hk, ek, ek3, -⟩
        · exact absurd (hh.2.1.symm.trans e9) (by decide)
        · exact hh.1
        · exact absurd ((nI_eq (b := 9) (by omega) (by decide)).mp (ek3.symm.trans e9)) (by omega)
      rw [if_neg (by rw [k2]; decide), if_pos k2] at eAR
      rw [hvq]; exact eAR.symm
    · have k1 : g 48 q = -1 := by
        rcases hCL.2.2.2.2.2 with hh | hh | ⟨k, hk, ek, ek3, -⟩
        · exact hh.1
        · exact absurd (hh.2.1.symm.trans e8) (by decide)
        · exact absurd ((nI_eq (b := 8) (by omega) (by decide)).mp (ek3.symm.trans e8)) (by omega)
      rw [if_pos k1] at eAR
      exact eAR.symm
theorem s_A_reckon_33 {x3 x4 x6 : Int32} {k : Nat} {E : Int32 → Int32 → Int32 → Int32 → Int32 → Mem → Prop} {K : Mem → Prop} (hr : 19 ≤ r) (hwf : ∀ l, l < n → WFl g l) (hd : ∀ l, l < n → ∃ d : Nat, d ≤ 20 ∧ dl l = nI d) (hdl : ∀ l, l < n → dl l = (if nI l = x3 then x4 else g 53 l)) : ∀ (q w f : Nat) (m : Mem) (x5 : Int32), w + q = 24 → q < f → r ≠ 16 → CC m g n → CI_ m g n n → AI r m g n dl →
    (∀ p, p < 24 → rk g n p ≤ k → ¬ m (r + 1) p = -2) → (∀ p, p < w → rk g n p ≤ k + 1 → ¬ m (r + 1) p = -2) → (x5 = 0 → ∀ p, p < w → ¬ m (r + 1) p = -2) →
    (∀ m' x5', FA r m m' → AI r m' g n dl → (∀ p, p < 24 → rk g n p ≤ k + 1 → ¬ m' (r + 1) p = -2) → (x5' = 0 → ∀ p, p < 24 → ¬ m' (r + 1) p = -2) → E x3 x4 x5' x6 (nI 24) m') → w_A_reckon_33 f r x3 x4 x5 x6 (nI w) m E K := by
  intro q
  induction q with
  | zero =>
    intro w f m x5 hw hf hr16 hcc hI hA h1 h2 h3 hE
    have e : w = 24 := by omega
    subst e
    obtain ⟨f, rfl⟩ : ∃ a, f = a + 1 := ⟨f - 1, by omega⟩
    unfold w_A_reckon_33
    exact ⟨fun _ => hE m x5 (FA.refl r m) hA h2 h3, fun h => absurd (show (24 : Int32) ≤ nI 24 by decide) h⟩
  | succ q ih =>
    intro w f m x5 hwq hf hr16 hcc hI hA h1 h2 h3 hE
    have hn := hcc.1
    have hw : w < 24 := by omega
    have hin : vp_in (nI w) 24 := vp_in_nI hw (by decide)
    obtain ⟨f, rfl⟩ : ∃ a, f = a + 1 := ⟨f - 1, by omega⟩
    unfold w_A_reckon_33
    rw [nI_clamp (by omega)]
    refine ⟨fun h => absurd ((nI_le24 (by omega)).mp h) (by omega), fun _ => ⟨hin, fun ne => ?_, fun e2 => s_C_firstLineOf hcc hw ?_⟩⟩
    · rw [nA1]
      refine ih (w + 1) f m x5 (by omega) (by omega) hr16 hcc hI hA h1 (fun p hp hk => ?_) (fun e0 p hp => ?_) hE
      · by_cases e : p = w
        · subst e; exact ne
        · exact h2 p (by omega) hk
      · by_cases e : p = w
        · subst e; exact ne
        · exact h3 e0 p (by omega)
    · intro J hJ
      have key : ∀ v : Int32, (∀ a, a < n → S_drv g n w = nI a → v = dl a) → J v m := by
        intro v hv
        refine hJ _ _ (s_A_arrivalBy hcc hwf hI hA hw hd hv fun x hx1 hx2 => ⟨hin, ?_⟩)
        intro m15 e15
        have f15 : FA r m m15 := fun i hi => by rw [e15]; unfold up2; rw [up_ne hi]
        have q15 : ∀ p, m15 (r + 1) p = if p = w then x else m (r + 1) p := by
          intro p
          rw [e15]; unfold up2; rw [up_same]
          by_cases e : p = w
          · rw [if_pos e, e, upd_same]
          · rw [if_neg e, upd_ne e]
        have still : ∀ p, ¬ m (r + 1) p = -2 → ¬ m15 (r + 1) p = -2 := by
          intro p hp
          rw [q15]
          by_cases e : p = w
          · subst e; exact absurd e2 hp
          · rw [if_neg e]; exact hp
        rw [nA1]
        refine ih (w + 1) f m15 1 (by omega) (by omega) hr16 (hcc.fa hr f15) (fun a ha => by rw [f15 17 (by omega)]; exact hI a ha) (fun p hp => ?_) (fun p hp hk => still p (h1 p hp hk)) (fun p hp hk => ?_) (fun e => absurd e (by decide)) fun m' x5' f' => hE m' x5' (f15.trans f')
        · rw [q15]
          by_cases e : p = w
          · rw [if_pos e, e]; exact hx1
          · rw [if_neg e]; exact hA p hp
        · by_cases e : p = w
          · subst e
            rw [q15, if_pos rfl, hx2 fun a ha hlt => h1 a ha (by omega)]
            exact AR_ne hd hn p
          · exact still p (h2 p (by omega) hk)
      refine ⟨fun ne => ⟨fun ne3 => ?_, fun e3 => key _ fun a ha hda => ?_⟩, fun e => key _ fun a ha hda => absurd (hda.symm.trans e) (nI_m1 (by omega))⟩
      · obtain ⟨a, ha, ea, -⟩ := (S_drv_spec (g := g) (n := n) (w := w)).resolve_left (fun hh => ne hh.1)
        rw [ea] at ne3 ⊢
        refine ⟨vp_in_nI (by omega) (by decide), key _ fun b hb hdb => ?_⟩
        have : b = a := (nI_eq (by omega) (by omega)).mp (hdb.symm.trans ea)
        subst this
        rw [nI_clamp (by omega), (hcc.2.2.1 b hb).2.2.1, hdl b hb, if_neg ne3]
      · rw [hdl a ha, if_pos (hda.symm.trans e3)]
theorem s_A_reckon_15 {x3 x4 : Int32} {E : Int32 → Int32 → Int32 → Int32 → Mem → Prop} {K : Mem → Prop} (hr : 19 ≤ r) (hwf : ∀ l, l < n → WFl g l) (hd : ∀ l, l < n → ∃ d : Nat, d ≤ 20 ∧ dl l = nI d) (hdl : ∀ l, l < n → dl l = (if nI l = x3 then x4 else g 53 l)) : ∀ (q k f : Nat) (m : Mem) (x5 : Int32), k + q = 24 → q < f → CC m g n → CI_ m g n n → AI r m g n dl →
    (∀ p, p < 24 → rk g n p ≤ k → ¬ m (r + 1) p = -2) → (x5 = 0 → ∀ p, p < 24 → ¬ m (r + 1) p = -2) →
    (∀ m' x5' x6', FA r m m' → (∀ p, p < 24 → m' (r + 1) p = AR g n dl p) → E x3 x4 x5' x6' m') → w_A_reckon_15 f r x3 x4 x5 (nI k) m E K := by
  intro q
  induction q with
  | zero =>
    intro k f m x5 hk hf hcc hI hA h1 h3 hE
    have e : k = 24 := by omega
    subst e
    obtain ⟨f, rfl⟩ : ∃ a, f = a + 1 := ⟨f - 1, by omega⟩
    unfold w_A_reckon_15
    have all : ∀ p, p < 24 → m (r + 1) p = AR g n dl p := fun p hp => (hA p hp).resolve_left (h1 p hp (rk_le g n p))
    exact ⟨fun _ => hE m _ _ (FA.refl r m) all, fun _ => ⟨fun _ => hE m _ _ (FA.refl r m) all, fun h => absurd (show (24 : Int32) ≤ nI 24 by decide) h⟩⟩
  | succ q ih =>
    intro k f m x5 hk hf hcc hI hA h1 h3 hE
    obtain ⟨f, rfl⟩ : ∃ a, f = a + 1 := ⟨f - 1, by omega⟩
    unfold w_A_reckon_15
    refine ⟨fun e => hE m _ _ (FA.refl r m) fun p hp => (hA p hp).resolve_left (h3 e p hp), fun _ => ⟨fun h => absurd ((nI_le24 (by omega)).mp h) (by omega), fun _ => ?_⟩⟩
    refine s_A_reckon_33 (k := k) hr hwf hd hdl 24 0 25 m 0 (by omega) (by omega) (by omega) hcc hI hA h1 (fun p hp => absurd hp (Nat.not_lt_zero p)) (fun _ p hp => absurd hp (Nat.not_lt_zero p)) fun m' x5' f' A' h1' h3' => ?_
    rw [nA1]
    exact ih (k + 1) f m' x5' (by omega) (by omega) (hcc.fa hr f') (fun a ha => by rw [f' 17 (by omega)]; exact hI a ha) A' h1' h3' fun m2 x5'' x6'' f2 => hE m2 x5'' x6'' (f'.trans f2)
theorem s_A_reckon {x3 x4 : Int32} {K : Mem → Prop} (hr : 19 ≤ r) (hcc : CC m g n) (hI : CI_ m g n n) (hwf : ∀ l, l < n → WFl g l) (hd : ∀ l, l < n → ∃ d : Nat, d ≤ 20 ∧ dl l = nI d) (hdl : ∀ l, l < n → dl l = (if nI l = x3 then x4 else g 53 l))
    (hK : ∀ m', FA r m m' → (∀ p, p < 24 → m' (r + 1) p = AR g n dl p) → K m') : w_A_reckon r x3 x4 m K := by
  unfold w_A_reckon
  intro m1 e1
  have f1 : FA r m m1 := fun i hi => by rw [e1, up_ne hi]
  have q1 : ∀ p, p < 24 → m1 (r + 1) p = -2 := fun p hp => by rw [e1, up_same, jfill_in hp]
  refine s_A_reckon_15 hr hwf hd hdl 24 0 25 m1 1 (by omega) (by omega) (hcc.fa hr f1) (fun a ha => by rw [f1 17 (by omega)]; exact hI a ha) (fun p hp => Or.inl (q1 p hp)) (fun p hp hk => ?_) (fun e => absurd e (by decide)) fun m' x5' x6' f' h' => hK m' (f1.trans f') h'
  have := rk_pos (g := g) (n := n) hp
  omega
end CA
