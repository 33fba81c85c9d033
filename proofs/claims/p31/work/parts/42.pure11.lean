/-! the class's run, on: rest, putting, clearing, copying, starting -/
theorem S_pend_low {g : Mem} {ρ : Rw} {l i : Nat} {v : Int32} (h : 5 < i ∧ i < 102) : S_pend g ρ l v i = ρ i := by
  simp (disch := omega) only [S_pend, upd_ne]
theorem S_ask1_low {g : Mem} {w l i : Nat} {was : Int32} {ρ : Rw} (h : 5 < i ∧ i < 102) : S_ask1 g w was l ρ i = ρ i := by
  have hz : ∀ (ρ' : Rw) (c x : Int32), S_haz ρ' c x i = ρ' i := fun ρ' c x => S_haz_low (by omega) (by omega)
  have h1 : S_reg1 g ρ l w i = ρ i := by
    unfold S_reg1; split
    · exact S_pend_low h
    · rfl
  have h2 : ∀ ρ' : Rw, S_reg2 g ρ' l w was i = ρ' i := by
    intro ρ'
    unfold S_reg2 S_reg2r S_rise
    repeat' split
    · rw [S_pend_low h, upd_ne (by omega), hz]
    · rw [S_pend_low h, upd_ne (by omega)]
    · rfl
  have h3 : ∀ ρ' : Rw, S_reg3 g ρ' l w i = ρ' i := by
    intro ρ'
    unfold S_reg3; split
    · rw [S_pend_low h, hz]
    · rfl
  have h4 : S_gate g ρ l i = ρ i := by
    have h5 : S_gate1 ρ l (S_reckon g ρ l) i = ρ i := by
      unfold S_gate1; split
      · rfl
      · rw [upd_ne (by omega), upd_ne (by omega)]
    unfold S_gate S_gate2; split
    · rw [S_pend_low h, h5]
    · exact h5
  unfold S_ask1
  split
  · split
    · unfold S_reg; rw [h3, h2, h1]
    · exact h4
  · rfl
theorem S_ask_low {g : Mem} {w i : Nat} {was : Int32} (h : 5 < i ∧ i < 102) : ∀ (r l : Nat) (ρ : Rw), S_ask g w was r l ρ i = ρ i
  | 0, _, _ => rfl
  | r + 1, l, ρ => by unfold S_ask; rw [S_ask_low h r (l + 1), S_ask1_low h]
theorem S_change_val {g : Mem} {n w x : Nat} {v : Int32} {ρ : Rw} (hx : x < 24) (hw : w < 24) : S_change g n w v ρ (6 + x) = if x = w then v else ρ (6 + x) := by
  unfold S_change
  rw [S_ask_low (by omega)]
  unfold S_chg0
  rw [upd_ne (by omega), upd_ne (by omega), upd_ne (by omega)]
  by_cases e : x = w
  · subst e; rw [upd_same, if_pos rfl]
  · rw [upd_ne (by omega), if_neg e]
def C_startL (g : Mem) (n : Nat) : Nat → Nat → Rw → Rw
  | 0, _, ρ => ρ
  | r + 1, l, ρ => C_startL g n r (l + 1) (if g 48 l = -1 then (if ρ (6 + cl (g 49 l)) = 0 then ρ else S_change g n (cl (g 49 l)) 0 ρ) else ρ)
/-- where no wire is driven twice the reference's start is the class's -/
theorem C_startL_eq {g : Mem} {n : Nat} (hwf : ∀ l, l < n → WFl g l) (hd : ∀ p q, p < q → q < n → ¬ g 49 p = g 49 q) : ∀ (r l : Nat) (ρ : Rw), l + r = n → (∀ q, l ≤ q → q < n → g 48 q = -1 → ρ (6 + cl (g 49 q)) = 2) → C_startL g n r l ρ = S_startL g n r l ρ
  | 0, _, _, _, _ => rfl
  | r + 1, l, ρ, hl, h2 => by
    unfold C_startL S_startL
    by_cases h : g 48 l = -1
    · rw [if_pos h, if_pos h]
      have e2 := h2 l (Nat.le_refl _) (by omega) h
      rw [if_neg (show ¬ ρ (6 + cl (g 49 l)) = 0 by rw [e2]; decide)]
      refine C_startL_eq hwf hd r (l + 1) _ (by omega) fun q hq1 hq2 hq => ?_
      have hwl := (hwf l (by omega)).1.cl
      have hwq := (hwf q hq2).1.cl
      rw [S_change_val hwq.2 hwl.2, if_neg]
      · exact h2 q (by omega) hq2 hq
      · intro e
        exact hd l q (by omega) hq2 (by rw [hwl.1, hwq.1, e])
    · rw [if_neg h, if_neg h]
      exact C_startL_eq hwf hd r (l + 1) _ (by omega) fun q hq1 hq2 hq => h2 q (by omega) hq2 hq
theorem RW.clear {g : Mem} {n : Nat} : RW g n S_clear := by
  refine ⟨S_clear_hz, ⟨fun w hw => ?_, fun l hl => ?_⟩, fun l h1 h2 => ?_⟩
  · unfold S_clear; rw [if_pos (by omega)]; exact isV2
  · unfold S_clear; rw [if_neg (by omega), if_neg (by omega), if_neg (by omega), if_pos (by omega)]; exact Or.inl rfl
  · unfold S_clear; rw [if_neg (by omega), if_neg (by omega), if_neg (by omega), if_pos (by omega)]
theorem S_clear_at {i : Nat} : S_clear i = (if 6 ≤ i ∧ i < 30 then 2 else if 30 ≤ i ∧ i < 54 then -1 else if 78 ≤ i ∧ i < 102 then 2 else if 102 ≤ i ∧ i < 132 then -1 else if 192 ≤ i ∧ i < 222 then -1 else 0) := rfl
section CR5
variable {m g : Mem} {n r : Nat} {ρ : Rw}
theorem s_R_comeToRest {K : Int32 → Mem → Prop} (hcc : CC m g n) (hr : 23 ≤ r) (hwf : ∀ l, l < n → WFl g l) (hrw : RW g n ρ) (h : RR r m ρ)
    (hK : ∀ m', FR r m m' → RR r m' (S_settle g n ρ) → K (S_pass g n 2147483647 ρ 3 - ρ 3) m') : w_R_comeToRest r m K := by
  unfold w_R_comeToRest
  refine s_R_letCome hcc hr hwf hrw h fun m1 f1 r1 => ?_
  have rw1 : RW g n (S_pass g n 2147483647 ρ) := hrw.pass hcc.1 hwf
  unfold w_R_noteHazardsOfGates
  refine s_R_noteHazardsOfGates_2 hr hwf 24 0 25 m1 _ (by omega) (by omega) (hcc.fr hr f1) rw1.1 r1 fun m2 f2 r2 => ?_
  exact s_R_begin r2 fun m3 f3 r3 => hK m3 ((f1.trans f2).trans f3) r3
theorem s_R_put {w : Nat} {v : Int32} {K : Mem → Prop} (hcc : CC m g n) (hr : 23 ≤ r) (hwf : ∀ l, l < n → WFl g l) (hw : w < 24) (hv : isV v) (hrw : RW g n ρ) (h : RR r m ρ)
    (hK : ∀ m', FR r m m' → RR r m' (S_set g n w v ρ) → K m') : w_R_put r (nI w) v m K := by
  unfold w_R_put
  refine s_R_begin h fun m1 f1 r1 => ?_
  refine s_R_change (hcc.fr hr f1) hr hw hv hwf hrw.begin r1 fun m2 f2 r2 => hK m2 (f1.trans f2) ?_
  unfold S_set
  rw [S_begin_lo (by omega)] at r2
  exact r2
theorem s_R_linesPending_4 {E : Int32 → Int32 → Mem → Prop} {K : Int32 → Mem → Prop} (hcc : CC m g n) (h : RR r m ρ) : ∀ (k l f a : Nat), l + k = n → k < f →
    (E (nI (a + S_cnt ρ k l)) (nI n) m) → w_R_linesPending_4 f r (nI a) (nI l) m E K := by
  intro k
  induction k with
  | zero =>
    intro l f a hl hf hE
    have hln : l = n := by omega
    subst hln
    obtain ⟨f, rfl⟩ : ∃ q, f = q + 1 := ⟨f - 1, by omega⟩
    unfold w_R_linesPending_4
    rw [hcc.2.1]
    exact ⟨fun _ => hE, fun hh => absurd (nI_le (Nat.le_refl _) (by have := hcc.1; omega)) hh⟩
  | succ k ih =>
    intro l f a hl hf hE
    have hn := hcc.1
    obtain ⟨f, rfl⟩ : ∃ q, f = q + 1 := ⟨f - 1, by omega⟩
    unfold w_R_linesPending_4
    rw [hcc.2.1, nI_clamp (by omega), h.2.2.2.2.1 l (by omega)]
    unfold S_cnt at hE
    refine ⟨fun hh => absurd hh (nI_ge (by omega) (by omega)), fun _ => ⟨vp_in_nI (by omega) (by decide), fun e => ?_, fun e => ?_⟩⟩
    · rw [if_pos e, Nat.zero_add] at hE
      rw [nA1]
      exact ih (l + 1) f a (by omega) (by omega) hE
    · rw [if_neg e, ← Nat.add_assoc] at hE
      rw [nA1, nA1]
      exact ih (l + 1) f (a + 1) (by omega) (by omega) hE
theorem s_R_linesPending {K : Int32 → Mem → Prop} (hcc : CC m g n) (h : RR r m ρ) (hK : K (nI (S_cnt ρ n 0)) m) : w_R_linesPending r m K := by
  unfold w_R_linesPending
  exact s_R_linesPending_4 hcc h n 0 31 0 (by omega) (by have := hcc.1; omega) (by rw [Nat.zero_add]; exact hK)
theorem max_nlt (x : Int32) : ¬ (2147483647 : Int32) < x := by
  rw [Int32.lt_iff_toInt_lt, show (2147483647 : Int32).toInt = 2147483647 by decide]
  have := Int32.toInt_lt x
  omega
theorem C_next_max {n : Nat} {ρ : Rw} (hn : n ≤ 30) : C_next n 2147483647 ρ = S_next n ρ := by
  rw [C_next_eq hn]
  unfold S_cut
  by_cases h : S_next n ρ = -1
  · rw [if_pos (Or.inl h), h]
  · rw [if_neg (fun hh => hh.elim h (max_nlt _))]
def S_due (n : Nat) (ρ : Rw) : Int32 := if S_next n ρ = -1 then -1 else ρ (132 + cl (S_next n ρ))
theorem s_R_nextTime {K : Int32 → Mem → Prop} (hcc : CC m g n) (h : RR r m ρ) (hK : K (S_due n ρ) m) : w_R_nextTime r m K := by
  have hn := hcc.1
  unfold w_R_nextTime
  refine s_R_nextLine hcc h ?_
  rw [C_next_max hn]
  unfold S_due at hK
  refine ⟨fun ne => ?_, fun e => ?_⟩
  · obtain ⟨q, hq, eq, hp⟩ := (S_next_spec (n := n) (ρ := ρ)).resolve_left ne
    rw [if_neg ne, eq, cl_nI (by omega)] at hK
    rw [eq, nI_clamp (by omega), (h.2.2.2.2.2.1 q (by omega) hp).1]
    exact ⟨vp_in_nI (by omega) (by decide), hK⟩
  · rw [if_pos e] at hK; exact hK
theorem s_R_clear {K : Mem → Prop} (hK : ∀ m', FR r m m' → RR r m' S_clear → K m') : w_R_clear r m K := by
  unfold w_R_clear w_R_giveUpAll w_R_beginCounting
  intro m1 e1 m2 e2 m3 e3 m4 e4 m5 e5 m6 e6 m7 e7 m8 e8 m9 e9 m10 e10 m11 e11 m12 e12
  refine hK m12 ?_ ?_
  · rw [e12, e11, e10, e9, e8, e7, e6, e5, e4, e3, e2, e1]
    unfold up2
    repeat' first | exact FR.refl r m | refine FR.up ?_ (by omega)
  · have c1 : ∀ w, w < 24 → m12 (r + 1) w = 2 := fun w hw => by
      rw [e12, e11, e10, e9, e8, e7, e6, e5, e4, e3, e2, e1]; simp (disch := omega) only [up2, up_ne, up_same, jfill_in]
    refine ⟨fun w hw => ?_, fun w hw => ?_, fun w hw => ?_, fun w hw => ?_, fun l hl => ?_, fun l hl hp => ?_, fun l hl => ?_, ?_, ?_, ?_, ?_, ?_, ?_, fun q hq hlt => ?_⟩
    · rw [c1 w hw, S_clear_at, if_pos (by omega)]
    · rw [e12, e11, e10, e9, e8, e7, e6, e5, e4, e3, e2, e1, S_clear_at, if_neg (by omega), if_pos (by omega)]; simp (disch := omega) only [up2, up_ne, up_same, jfill_in]
    · rw [e12, e11, e10, e9, e8, e7, e6, e5, e4, e3, e2, e1, S_clear_at, if_neg (by omega), if_neg (by omega), if_neg (by omega), if_neg (by omega), if_neg (by omega)]; simp (disch := omega) only [up2, up_ne, up_same, jfill_in]
    · rw [e12, e11, e10, e9, e8, e7, e6, e5, e4, e3, e2, e1, S_clear_at, if_neg (by omega), if_neg (by omega), if_pos (by omega)]; simp (disch := omega) only [up2, up_ne, up_same, jfill_in, cpy_in]
    · rw [e12, e11, e10, e9, e8, e7, e6, e5, e4, e3, e2, e1, S_clear_at, if_neg (by omega), if_neg (by omega), if_neg (by omega), if_pos (by omega)]; simp (disch := omega) only [up2, up_ne, up_same, jfill_in]
    · rw [S_clear_at, if_neg (by omega), if_neg (by omega), if_neg (by omega), if_pos (by omega)] at hp; exact absurd rfl hp
    · rw [e12, e11, e10, e9, e8, e7, e6, e5, e4, e3, e2, e1, S_clear_at, if_neg (by omega), if_neg (by omega), if_neg (by omega), if_neg (by omega), if_pos (by omega)]; simp (disch := omega) only [up2, up_ne, up_same, jfill_in]
    · rw [e12, e11, e10, e9, e8, e7]; simp (disch := omega) only [up2, up_ne, up_same, upd_ne, upd_same]; rfl
    · rw [e12, e11, e10, e9, e8]; simp (disch := omega) only [up2, up_ne, up_same, upd_ne, upd_same]; rfl
    · rw [e12, e11, e10, e9]; simp (disch := omega) only [up2, up_ne, up_same, upd_ne, upd_same]; rfl
    · rw [e12, e11, e10]; simp (disch := omega) only [up2, up_ne, up_same, upd_ne, upd_same]; rfl
    · rw [e12, e11]; simp (disch := omega) only [up2, up_ne, up_same, upd_ne, upd_same]; rfl
    · rw [e12]; simp (disch := omega) only [up2, up_ne, up_same, upd_ne, upd_same]; rfl
    · rw [show cl (S_clear 5) = 0 by decide] at hlt; omega
theorem s_R_begin_6 {E : Int32 → Mem → Prop} {K : Mem → Prop} (hr : 23 ≤ r) (hwf : ∀ l, l < n → WFl g l) : ∀ (k l f : Nat) (m : Mem) (ρ : Rw), l + k = n → k < f → CC m g n → RW g n ρ → RR r m ρ →
    (∀ m', FR r m m' → RR r m' (C_startL g n k l ρ) → E (nI n) m') → w_R_begin_6 f r (nI l) m E K := by
  intro k
  induction k with
  | zero =>
    intro l f m ρ hl hf hcc hrw h hE
    have hln : l = n := by omega
    subst hln
    obtain ⟨f, rfl⟩ : ∃ q, f = q + 1 := ⟨f - 1, by omega⟩
    unfold w_R_begin_6
    rw [hcc.2.1]
    exact ⟨fun _ => hE m (FR.refl r m) h, fun hh => absurd (nI_le (Nat.le_refl _) (by have := hcc.1; omega)) hh⟩
  | succ k ih =>
    intro l f m ρ hl hf hcc hrw h hE
    have hn := hcc.1
    obtain ⟨f, rfl⟩ : ∃ q, f = q + 1 := ⟨f - 1, by omega⟩
    have hin : vp_in (nI l) 30 := vp_in_nI (by omega) (by decide)
    have hCL := hcc.2.2.1 l (by omega)
    have hw := (hwf l (by omega)).1.cl
    unfold w_R_begin_6
    rw [hcc.2.1, nI_clamp (by omega)]
    unfold C_startL at hE
    refine ⟨fun hh => absurd hh (nI_ge (by omega) (by omega)), fun _ => ⟨hin, fun ne => ?_, fun e => ⟨hin, ?_⟩⟩⟩
    · have : ¬ g 48 l = -1 := by
        intro e
        rcases hCL.2.2.2.2.2 with hh | hh | ⟨q, hq, eq, -⟩
        · exact ne hh.2.1
        · exact absurd (hh.1.symm.trans e) (by decide)
        · exact nI_m1 (show q < 2 ^ 31 by omega) (eq.symm.trans e)
      rw [if_neg this] at hE
      rw [nA1]
      exact ih (l + 1) f m ρ (by omega) (by omega) hcc hrw h hE
    · have : g 48 l = -1 := by
        rcases hCL.2.2.2.2.2 with hh | hh | ⟨q, hq, eq, eq2, -⟩
        · exact hh.1
        · exact absurd (hh.2.1.symm.trans e) (by decide)
        · exact absurd ((nI_eq (b := 8) (by omega) (by decide)).mp (eq2.symm.trans e)) (by omega)
      rw [if_pos this] at hE
      rw [hCL.1, hw.1]
      refine s_R_change hcc hr hw.2 isV0 hwf hrw h fun m2 f2 r2 => ?_
      rw [nA1]
      refine ih (l + 1) f m2 _ (by omega) (by omega) (hcc.fr hr f2) ?_ r2 fun m3 f3 r3 => hE m3 (f2.trans f3) r3
      split
      · exact hrw
      · exact hrw.change hn hwf hw.2 isV0
theorem s_R_beginRun {K : Mem → Prop} (hcc : CC m g n) (hr : 23 ≤ r) (hwf : ∀ l, l < n → WFl g l) (hK : ∀ m', FR r m m' → RR r m' (C_startL g n n 0 S_clear) → K m') : w_R_begin r m K := by
  unfold w_R_begin
  refine s_R_clear fun m1 f1 r1 => ?_
  exact s_R_begin_6 hr hwf n 0 31 m1 S_clear (by omega) (by have := hcc.1; omega) (hcc.fr hr f1) RW.clear r1 fun m2 f2 r2 => hK m2 (f1.trans f2) r2
/-- the trial begins as the run stands -/
theorem s_R_copyFrom {K : Mem → Prop} (h : RR 23 m ρ) (hK : ∀ m', FR 35 m m' → RR 35 m' ρ → K m') : w_R_copyFrom 35 m K := by
  unfold w_R_copyFrom
  intro m1 e1 m2 e2 m3 e3 m4 e4 m5 e5 m6 e6 m7 e7 m8 e8 m9 e9 m10 e10 m11 e11 m12 e12 m13 e13 m14 e14 m15 e15 m16 e16 m17 e17
  have eall : m17 = _ := e17
  refine hK m17 ?_ ?_
  · rw [e17, e16, e15, e14, e13, e12, e11, e10, e9, e8, e7, e6, e5, e4, e3, e2, e1]
    unfold up2
    repeat' first | exact FR.refl 35 m | refine FR.up ?_ (by omega)
  · obtain ⟨a0, a1, a2, a3, a4, a5, a6, a7, a8, a9, a10, a11, a12, a13⟩ := h
    refine ⟨fun w hw => ?_, fun w hw => ?_, fun w hw => ?_, fun w hw => ?_, fun l hl => ?_, fun l hl hp => ?_, fun l hl => ?_, ?_, ?_, ?_, ?_, ?_, ?_, fun q hq hlt => ?_⟩
    · rw [← a0 w hw, e17, e16, e15, e14, e13, e12, e11, e10, e9, e8, e7, e6, e5, e4, e3, e2, e1]; simp (disch := omega) only [up2, up_ne, up_same, cpy_in]
    · rw [← a1 w hw, e17, e16, e15, e14, e13, e12, e11, e10, e9, e8, e7, e6, e5, e4, e3, e2, e1]; simp (disch := omega) only [up2, up_ne, up_same, cpy_in]
    · rw [← a2 w hw, e17, e16, e15, e14, e13, e12, e11, e10, e9, e8, e7, e6, e5, e4, e3, e2, e1]; simp (disch := omega) only [up2, up_ne, up_same, cpy_in]
    · rw [← a3 w hw, e17, e16, e15, e14, e13, e12, e11, e10, e9, e8, e7, e6, e5, e4, e3, e2, e1]; simp (disch := omega) only [up2, up_ne, up_same, cpy_in]
    · rw [← a4 l hl, e17, e16, e15, e14, e13, e12, e11, e10, e9, e8, e7, e6, e5, e4, e3, e2, e1]; simp (disch := omega) only [up2, up_ne, up_same, cpy_in]
    · obtain ⟨b1, b2⟩ := a5 l hl hp
      rw [← b1, ← b2, e17, e16, e15, e14, e13, e12, e11, e10, e9, e8, e7, e6, e5, e4, e3, e2, e1]; simp (disch := omega) only [up2, up_ne, up_same, cpy_in, and_self]
    · rw [← a6 l hl, e17, e16, e15, e14, e13, e12, e11, e10, e9, e8, e7, e6, e5, e4, e3, e2, e1]; simp (disch := omega) only [up2, up_ne, up_same, cpy_in]
    · rw [← a7, e17, e16, e15, e14, e13, e12, e11, e10, e9, e8, e7, e6, e5, e4, e3, e2, e1]; simp (disch := omega) only [up2, up_ne, up_same, upd_same, upd_ne]
    · rw [← a8, e17, e16, e15, e14, e13, e12, e11, e10, e9, e8, e7, e6, e5, e4, e3, e2, e1]; simp (disch := omega) only [up2, up_ne, up_same, upd_same, upd_ne]
    · rw [← a9, e17, e16, e15, e14, e13, e12, e11, e10, e9, e8, e7, e6, e5, e4, e3, e2, e1]; simp (disch := omega) only [up2, up_ne, up_same, upd_same, upd_ne]
    · rw [← a10, e17, e16, e15, e14, e13, e12, e11, e10, e9, e8, e7, e6, e5, e4, e3, e2, e1]; simp (disch := omega) only [up2, up_ne, up_same, upd_same, upd_ne]
    · rw [← a11, e17, e16, e15, e14, e13, e12, e11, e10, e9, e8, e7, e6, e5, e4, e3, e2, e1]; simp (disch := omega) only [up2, up_ne, up_same, upd_same, upd_ne]
    · rw [← a12, e17, e16, e15, e14, e13, e12, e11, e10, e9, e8, e7, e6, e5, e4, e3, e2, e1]; simp (disch := omega) only [up2, up_ne, up_same, upd_same, upd_ne]
    · obtain ⟨b1, b2, b3⟩ := a13 q hq hlt
      rw [← b1, ← b2, ← b3, e17, e16, e15, e14, e13, e12, e11, e10, e9, e8, e7, e6, e5, e4, e3, e2, e1]; simp (disch := omega) only [up2, up_ne, up_same, cpy_in, and_self]
end CR5
