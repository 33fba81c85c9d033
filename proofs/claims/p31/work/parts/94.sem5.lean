/-! the start: no flaw forbids it, as much is pending as the bench tells -/
theorem GD.of {g m : Mem} {n j : Nat} {T : Nat → Nat → Int32} (hT : gT T n) (hG : TG T g n) (hI : Iv j m g n) (h4 : 4 ≤ n) : GD g n := by
  refine ⟨⟨h4, hT.1⟩, fun l hl => ?_⟩
  obtain ⟨e0, e1, e2, e3, e4, e5⟩ := hG.1 l hl
  refine ⟨hI.2.2.1 l hl, e1.trans (hT.2 l hl).1, hG.2 l (by have := hT.1; omega), hI.2.2.2.1 l hl, ?_, fun w hw hu => ?_⟩
  · rw [e0]; exact hT.inp hl
  · unfold S_uses at hu
    rw [e2, e3, e4] at hu
    exact hT.uses hl hw hu
theorem GD.ndr {g : Mem} {n w : Nat} (hn : n ≤ 30) (hw : w < 24) (h : ∀ l, l < n → g 49 l = nI l) : S_ndr g w n = if w < n then 1 else 0 := by
  induction n with
  | zero => rfl
  | succ n ih =>
    unfold S_ndr
    rw [ih (by omega) fun l hl => h l (by omega), h n (by omega)]
    by_cases e : n = w
    · subst e; rw [if_neg (by omega), if_pos rfl, if_pos (by omega)]
    · have : ¬ nI n = nI w := fun q => e ((nI_eq (by omega) (by omega)).mp q)
      rw [if_neg this]
      by_cases q : w < n
      · rw [if_pos q, if_pos (by omega)]
      · rw [if_neg q, if_neg (by omega)]
theorem GD.noflaw {g : Mem} {n : Nat} (hG : GD g n) : ∀ w, w ≤ 24 → FLw g n w = []
  | 0, _ => rfl
  | w + 1, hw => by
    have hn := hG.le30
    unfold FLw
    rw [GD.noflaw hG w (by omega), List.nil_append]
    unfold FLw1
    rw [GD.ndr hn (by omega) fun l hl => (hG.2 l hl).2.1]
    by_cases c : w < n
    · rw [if_pos c, if_neg (by omega), if_neg (by omega)]
    · rw [if_neg c, if_neg (by omega)]
      have : S_nus g w n = 0 := (S_nus_0 g w n).mpr fun l hl hu => by
        have := (hG.2 l hl).2.2.2.2.2 w (by omega) hu
        omega
      rw [if_neg (by omega)]
theorem GD.may {g m : Mem} {n j : Nat} (hG : GD g n) (hI : Iv j m g n) : m 14 5 = 0 := by
  rw [hI.2.2.2.2.2.2.2.2.2.2.1, hG.noflaw 24 (Nat.le_refl _)]; rfl
theorem ask_st {g : Mem} {n w : Nat} (hG : GD g n) (hw : w < 24) : ∀ (r l : Nat) (ρ : Rw), l + r = n → ρ (6 + w) = 0 → (∀ q, q < n → g 48 q = -2 → ρ (102 + q) = -1 ∧ ρ (192 + q) = -1) → ∀ q, q < n → g 48 q = -2 → S_ask g w 2 r l ρ (102 + q) = -1 ∧ S_ask g w 2 r l ρ (192 + q) = -1
  | 0, l, ρ, hr, h0, h, q, hq, hk => h q hq hk
  | r + 1, l, ρ, hr, h0, h, q, hq, hk => by
    have hn := hG.le30
    refine ask_st hG hw r (l + 1) _ (by omega) ((S_ask1_low (by omega)).trans h0) (fun p hp hpk => ?_) q hq hk
    obtain ⟨a1, a2⟩ := h p hp hpk
    unfold S_ask1
    split
    · rename_i hu
      split
      · rename_i hk2
        have er : ∀ l, l < n → g 48 l = -2 → S_reg g ρ l w 2 = ρ := fun l hl hlk => by
          have e1 : S_reg1 g ρ l w = ρ := by unfold S_reg1; rw [h0]; exact if_neg fun q => absurd q.2 (by decide)
          have e2 : S_reg2 g ρ l w 2 = ρ := by unfold S_reg2; exact if_neg fun q => absurd q.2.1 (by decide)
          unfold S_reg
          rw [e1, e2]
          unfold S_reg3
          exact if_neg fun q => q.2.1 (h l hl hlk).2
        rcases hG.kind (l := l) (by omega) hk2 with e | e
        · exact absurd hu (hG.inp (by omega) hw e)
        · rw [er l (by omega) e]; exact ⟨a1, a2⟩
      · rename_i hk2
        have hpl : p ≠ l := fun e => hk2 (by rw [← e, hpk]; decide)
        rw [gate_lo (by omega) (by omega) (by omega), gate_lo (by omega) (by omega) (by omega)]
        exact ⟨a1, a2⟩
    · exact ⟨a1, a2⟩
theorem startL_ok {g : Mem} {n : Nat} (hG : GD g n) : ∀ (r l : Nat) (ρ : Rw), l + r = n → SI g n 0 l ρ → GCo g n ρ → (∀ w, w < 24 → ρ (6 + w) = Vj l w) → (∀ q, q < n → g 48 q = -2 → ρ (102 + q) = -1 ∧ ρ (192 + q) = -1) →
    SI g n 0 n (S_startL g n r l ρ) ∧ GCo g n (S_startL g n r l ρ) ∧ (∀ w, w < 24 → S_startL g n r l ρ (6 + w) = Vj n w) ∧ ∀ q, q < n → g 48 q = -2 → S_startL g n r l ρ (102 + q) = -1
  | 0, l, ρ, hr, h, hgs, hv, hreg => by
    have e : l = n := by omega
    subst e
    exact ⟨h, hgs, hv, fun q hq hk => (hreg q hq hk).1⟩
  | r + 1, l, ρ, hr, h, hgs, hv, hreg => by
    have hn := hG.le30
    have h17 := hG.1
    obtain ⟨-, e49, -, -, hin, -⟩ := hG.2 l (by omega)
    unfold S_startL
    by_cases c : g 48 l = -1
    · rw [if_pos c, e49, cl_nI (show l < 2 ^ 31 by omega)]
      have hl4 := hin.mp c
      have h6 : ρ (6 + l) = 2 := by rw [hv l (by omega)]; exact if_neg (by omega)
      obtain ⟨s1, s2, -⟩ := h.change (w := l) (v := 0) hG (by decide) (by omega) isV0 (fun q hq hk _ => hgs q hq hk) (fun _ hk => absurd (show g 48 l < 0 by rw [c]; decide) hk)
      refine startL_ok hG r (l + 1) _ (by omega) s1 s2 (fun w hw => ?_) ?_
      · rw [S_change_val hw (by omega), hv w hw]
        unfold Vj
        by_cases e : w = l
        · rw [if_pos e, if_pos (by omega)]
        · rw [if_neg e]
          by_cases q : w < l ∧ w < 4
          · rw [if_pos q, if_pos (by omega)]
          · rw [if_neg q, if_neg (by omega)]
      · unfold S_change
        rw [h6]
        have lo : ∀ i, 102 ≤ i → S_chg0 l 0 ρ i = ρ i := fun i hi => by
          unfold S_chg0
          rw [upd_ne (by omega), upd_ne (by omega), upd_ne (by omega), upd_ne (by omega)]
        exact ask_st hG (by omega) n 0 _ (by omega) (by rw [chg0_val (by omega) (by omega), if_pos rfl]) fun q hq hk => by
          rw [lo _ (by omega), lo _ (by omega)]; exact hreg q hq hk
    · rw [if_neg c]
      have hl4 : ¬ l < 4 := fun q => c (hin.mpr q)
      refine startL_ok hG r (l + 1) _ (by omega) (h.le (by omega)) hgs (fun w hw => ?_) hreg
      rw [hv w hw]
      unfold Vj
      by_cases q : w < l ∧ w < 4
      · rw [if_pos q, if_pos (by omega)]
      · rw [if_neg q, if_neg (by omega)]
theorem clear_ok {g : Mem} {n : Nat} (hG : GD g n) : SI g n 0 0 S_clear ∧ GCo g n S_clear := by
  have hn := hG.le30
  have c6 : ∀ w, w < 24 → S_clear (6 + w) = 2 := fun w hw => by rw [S_clear_at, if_pos (by omega)]
  have c102 : ∀ l, l < 30 → S_clear (102 + l) = -1 := fun l hl => by rw [S_clear_at, if_neg (by omega), if_neg (by omega), if_neg (by omega), if_pos (by omega)]
  refine ⟨⟨⟨rfl, rfl⟩, fun l hl _ => c102 l (by omega), fun l hl q => absurd (c102 l (by omega)) q, fun w hw => Or.inl (by rw [S_clear_at, if_neg (by omega), if_pos (by omega)]), fun l hl => Or.inl (by rw [S_clear_at, if_neg (by omega), if_neg (by omega), if_neg (by omega), if_neg (by omega), if_pos (by omega)]), fun w hw => ⟨0, Nat.le_refl _, by rw [S_clear_at, if_neg (by omega), if_neg (by omega), if_neg (by omega), if_neg (by omega), if_neg (by omega)]; rfl⟩, ⟨0, fun _ => 0, by decide, rfl, fun k hk => absurd hk (Nat.not_lt_zero k)⟩, (RW.clear (g := g) (n := n)).2.1⟩, fun l hl hk => ?_⟩
  have hv : ∀ x, isW0 x → S_val S_clear x = 2 := fun x hx => by
    rcases hx with rfl | ⟨w, hw, rfl⟩
    · rfl
    · rw [S_val, cl_nI (by omega)]; exact c6 w hw
  obtain ⟨k, hk8, ek⟩ := (hG.wf l hl).gate hk
  obtain ⟨g50, g51, g52⟩ := (hG.wf l hl).gpins hk8 ek
  have e : S_reckon g S_clear l = 2 := by
    unfold S_reckon
    rw [ek, hv _ (Or.inr g50)]
    have h3 : S_work (nI k) 2 (if g 51 l = -1 then 0 else S_val S_clear (g 51 l)) (S_val S_clear (g 52 l)) = S_work (nI k) 2 2 2 := S_work_irr hk8 (by
        by_cases q : 2 ≤ k
        · rw [if_pos q] at g51
          right
          rw [if_neg (fun e => by obtain ⟨w, hw, e2⟩ := g51; exact nI_m1 (l := w) (by omega) (e2.symm.trans e))]
          exact hv _ (Or.inr g51)
        · exact Or.inl (by omega)) (by
        by_cases q : k = 7
        · rw [if_pos q] at g52
          exact Or.inr (hv _ (Or.inr g52))
        · exact Or.inl q)
    rw [h3]
    have h8 : k = 0 ∨ k = 1 ∨ k = 2 ∨ k = 3 ∨ k = 4 ∨ k = 5 ∨ k = 6 ∨ k = 7 := by omega
    rcases h8 with rfl | rfl | rfl | rfl | rfl | rfl | rfl | rfl <;> decide
  unfold GS1
  rw [c102 l (by omega), c6 l (by have := hG.1; omega), e, if_pos rfl]
theorem start_ok {g : Mem} {n : Nat} (hG : GD g n) : SI g n 0 n (S_startL g n n 0 S_clear) ∧ GCo g n (S_startL g n n 0 S_clear) ∧ (∀ w, w < 24 → S_startL g n n 0 S_clear (6 + w) = V0 w) ∧ ∀ q, q < n → g 48 q = -2 → S_startL g n n 0 S_clear (102 + q) = -1 := by
  have hn := hG.le30
  have h4 := hG.1
  obtain ⟨s1, s2⟩ := clear_ok hG
  obtain ⟨b1, b2, b3, b4⟩ := startL_ok hG n 0 S_clear (by omega) s1 s2 (fun w hw => by rw [S_clear_at, if_pos (by omega)]; exact (if_neg (by omega)).symm) (fun q hq _ => ⟨by rw [S_clear_at, if_neg (by omega), if_neg (by omega), if_neg (by omega), if_pos (by omega)], by rw [S_clear_at, if_neg (by omega), if_neg (by omega), if_neg (by omega), if_neg (by omega), if_pos (by omega)]⟩)
  refine ⟨b1, b2, fun w hw => ?_, b4⟩
  rw [b3 w hw]
  unfold Vj V0
  by_cases q : w < 4
  · rw [if_pos (by omega), if_pos q]
  · rw [if_neg (by omega), if_neg q]
theorem cnt_cntB {ρ : Rw} {p : Nat → Bool} {n : Nat} (hp : ∀ l, l < n → (p l = true ↔ ¬ ρ (102 + l) = -1)) : ∀ r l, l + r = n → S_cnt ρ r l + cntB p l = cntB p n
  | 0, l, hr => by
    have e : l = n := by omega
    subst e; unfold S_cnt; omega
  | r + 1, l, hr => by
    have ih : S_cnt ρ r (l + 1) + (cntB p l + (if p l = true then 1 else 0)) = cntB p n := cnt_cntB hp r (l + 1) (by omega)
    show (if ρ (102 + l) = -1 then 0 else 1) + S_cnt ρ r (l + 1) + cntB p l = cntB p n
    have hl := hp l (by omega)
    by_cases c : ρ (102 + l) = -1
    · rw [if_pos c]
      rw [if_neg (fun q => hl.mp q c)] at ih
      omega
    · rw [if_neg c]
      rw [if_pos (hl.mpr c)] at ih
      omega
theorem start_cnt {g : Mem} {n : Nat} {T : Nat → Nat → Int32} (hG : GD g n) (hT : TG T g n) (hg : gT T n) : S_cnt (S_startL g n n 0 S_clear) n 0 = cntB (fun l => decide (¬ pmf T V0 l = -1)) n := by
  have hn := hG.le30
  have h4 := hG.1
  obtain ⟨s1, s2, s3, s4⟩ := start_ok hG
  generalize S_startL g n n 0 S_clear = ρ at *
  have := cnt_cntB (ρ := ρ) (p := fun l => decide (¬ pmf T V0 l = -1)) (n := n) (fun l hl => ?_) n 0 (by omega)
  · show S_cnt ρ n 0 = _
    exact this
  · rw [decide_eq_true_eq]
    refine not_congr ?_
    obtain ⟨e0, e1, e2, e3, e4, e5⟩ := hT.1 l hl
    unfold pmf
    by_cases hk : T l 0 < 0
    · rw [if_pos hk]
      refine ⟨fun _ => ?_, fun _ => rfl⟩
      rw [← e0] at hk
      rcases hG.kind hl hk with e | e
      · exact s1.2.1 l hl e
      · exact s4 l hl e
    · rw [if_neg hk]
      rw [← e0] at hk
      obtain ⟨k, hk8, ek⟩ := (hG.wf l hl).gate hk
      obtain ⟨g50, g51, g52⟩ := (hG.wf l hl).gpins hk8 ek
      have hl4 : ¬ l < 4 := fun q => by
        have := (hG.2 l hl).2.2.2.2.1.mpr q
        exact hk (by rw [this]; decide)
      have hv : ∀ x, isW x → S_val ρ x = V0 (cl x) := fun x hx => by
        obtain ⟨w, hw, rfl⟩ := hx
        rw [S_val, cl_nI (by omega)]; exact s3 w hw
      have er : S_reckon g ρ l = wkb T V0 l := by
        unfold S_reckon wkb
        rw [← e0, ← e2, ← e3, ← e4, ek, hv _ g50]
        refine S_work_irr hk8 ?_ ?_
        · by_cases q : 2 ≤ k
          · rw [if_pos q] at g51
            right
            rw [hv _ g51]
            obtain ⟨w, hw, e2⟩ := g51
            rw [e2, if_neg (nI_m1 (by omega)), if_neg (nI_pos (by omega))]
          · exact Or.inl (by omega)
        · by_cases q : k = 7
          · rw [if_pos q] at g52
            right
            rw [hv _ g52]
            obtain ⟨w, hw, e2⟩ := g52
            rw [e2, if_neg (nI_pos (by omega))]
          · exact Or.inl q
      have hs := s2 l hl hk
      unfold GS1 at hs
      rw [er, s3 l (by omega), V0, if_neg hl4] at hs
      rw [hs]
      by_cases c : wkb T V0 l = 2
      · rw [if_pos c, if_pos c.symm]
      · rw [if_neg c, if_neg (fun e => c e.symm)]
