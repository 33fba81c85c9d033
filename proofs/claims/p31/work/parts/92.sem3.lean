/-! what is pending comes in its time; passing, settling, setting, starting -/
theorem nI_lt_iff {a b : Nat} (ha : a < 2 ^ 31) (hb : b < 2 ^ 31) : nI a < nI b ↔ a < b := nI_ltI ha hb
/-- the next line has the least time -/
theorem nextL_min {ρ : Rw} {n : Nat} (hn : n ≤ 30) (hT : ∀ l, l < n → ¬ ρ (102 + l) = -1 → ∃ t : Nat, t < 2 ^ 31 ∧ ρ (132 + l) = nI t) : ∀ (r l : Nat) (b : Int32), l + r = n → ((b = -1 ∧ ∀ q, q < l → ρ (102 + q) = -1) ∨ ∃ q, q < l ∧ b = nI q ∧ ¬ ρ (102 + q) = -1 ∧ ∀ p, p < l → ¬ ρ (102 + p) = -1 → ρ (132 + q) ≤ ρ (132 + p)) →
    ((S_nextL ρ r l b = -1 ∧ ∀ q, q < n → ρ (102 + q) = -1) ∨ ∃ q, q < n ∧ S_nextL ρ r l b = nI q ∧ ¬ ρ (102 + q) = -1 ∧ ∀ p, p < n → ¬ ρ (102 + p) = -1 → ρ (132 + q) ≤ ρ (132 + p))
  | 0, l, b, hr, h => by
    have e : l = n := by omega
    subst e
    exact h
  | r + 1, l, b, hr, h => by
    unfold S_nextL
    refine nextL_min hn hT r (l + 1) _ (by omega) ?_
    by_cases c : ρ (102 + l) = -1
    · rw [if_pos c]
      rcases h with ⟨h1, h2⟩ | ⟨q, q1, q2, q3, q4⟩
      · exact Or.inl ⟨h1, fun q hq => by
          by_cases e : q = l
          · rw [e]; exact c
          · exact h2 q (by omega)⟩
      · exact Or.inr ⟨q, by omega, q2, q3, fun p hp hpp => by
          by_cases e : p = l
          · exact absurd (e ▸ c) hpp
          · exact q4 p (by omega) hpp⟩
    · rw [if_neg c]
      obtain ⟨tl, htl, etl⟩ := hT l (by omega) c
      rcases h with ⟨h1, h2⟩ | ⟨q, q1, q2, q3, q4⟩
      · rw [if_pos (Or.inl h1)]
        exact Or.inr ⟨l, by omega, rfl, c, fun p hp hpp => by
          by_cases e : p = l
          · rw [e]; exact Int32.le_refl _
          · exact absurd (h2 p (by omega)) hpp⟩
      · obtain ⟨tq, htq, etq⟩ := hT q (by omega) q3
        have hq1 : ¬ b = -1 := fun e => nI_m1 (l := q) (by omega) (q2.symm.trans e)
        have ecl : cl b = q := by rw [q2, cl_nI (by omega)]
        by_cases d : b = -1 ∨ ρ (132 + l) < ρ (132 + cl b) ∨ (ρ (132 + l) = ρ (132 + cl b) ∧ ¬ ρ (162 + cl b) ≤ ρ (162 + l))
        · rw [if_pos d]
          have hle : ρ (132 + l) ≤ ρ (132 + q) := by
            rcases d.resolve_left hq1 with d | d
            · rw [ecl] at d
              exact Int32.le_of_lt d
            · rw [d.1, ecl]; exact Int32.le_refl _
          exact Or.inr ⟨l, by omega, rfl, c, fun p hp hpp => by
            by_cases e : p = l
            · rw [e]; exact Int32.le_refl _
            · exact Int32.le_trans hle (q4 p (by omega) hpp)⟩
        · rw [if_neg d]
          have hle : ρ (132 + q) ≤ ρ (132 + l) := by
            have d2 : ¬ ρ (132 + l) < ρ (132 + q) := fun e => d (Or.inr (Or.inl (by rw [ecl]; exact e)))
            exact Int32.not_lt.mp d2
          exact Or.inr ⟨q, by omega, q2, q3, fun p hp hpp => by
            by_cases e : p = l
            · rw [e]; exact hle
            · exact q4 p (by omega) hpp⟩
theorem next_min {ρ : Rw} {n : Nat} (hn : n ≤ 30) (hT : ∀ l, l < n → ¬ ρ (102 + l) = -1 → ∃ t : Nat, t < 2 ^ 31 ∧ ρ (132 + l) = nI t) : (S_next n ρ = -1 ∧ ∀ q, q < n → ρ (102 + q) = -1) ∨ ∃ q, q < n ∧ S_next n ρ = nI q ∧ ¬ ρ (102 + q) = -1 ∧ ∀ p, p < n → ¬ ρ (102 + p) = -1 → ρ (132 + q) ≤ ρ (132 + p) :=
  nextL_min hn hT n 0 (-1) (by omega) (Or.inl ⟨rfl, fun q hq => absurd hq (Nat.not_lt_zero q)⟩)
theorem next_no {ρ : Rw} {n : Nat} (h : ∀ q, q < n → ρ (102 + q) = -1) : S_next n ρ = -1 := by
  rcases S_next_spec (n := n) (ρ := ρ) with e | ⟨q, hq, -, h2⟩
  · exact e
  · exact absurd (h q hq) h2
/-- the time goes on to a line that comes, whose pending is gone -/
theorem SI.time {g : Mem} {n now B l t : Nat} {ρ : Rw} (hn : n ≤ 30) (h : SI g n now B ρ) (hl : l < n) (ht : now ≤ t) (ht20 : t ≤ now + 20) (htb : t + 20 < 2 ^ 31) (et : ρ (132 + l) = nI t) (hmin : ∀ p, p < n → ¬ ρ (102 + p) = -1 → ρ (132 + l) ≤ ρ (132 + p)) : SI g n t B (upd (upd ρ (102 + l) (-1)) 0 (ρ (132 + l))) := by
  obtain ⟨a1, a2, a3, a4, a5, a6, a7, a8⟩ := h
  have lo : ∀ i, i ≠ 0 → i ≠ 102 + l → (upd (upd ρ (102 + l) (-1)) 0 (ρ (132 + l))) i = ρ i := fun i h0 hi => by rw [upd_ne h0, upd_ne hi]
  have lol : (upd (upd ρ (102 + l) (-1)) 0 (ρ (132 + l))) (102 + l) = -1 := by rw [upd_ne (by omega), upd_same]
  refine ⟨⟨upd_same.trans et, (lo 2 (by omega) (by omega)).trans a1.2⟩, fun q hq e => ?_, fun q hq e => ?_, fun x hx => ?_, fun q hq => ?_, fun x hx => ?_, a7.cg ht (lo _ (by omega) (by omega)) fun i hi => lo _ (by omega) (by omega), VR.upd_out (VR.upd_pend a8 (Or.inl rfl)) (by omega)⟩
  · by_cases d : q = l
    · rw [d]; exact lol
    · rw [lo _ (by omega) (by omega)]; exact a2 q hq e
  · by_cases d : q = l
    · rw [d] at e; exact absurd lol e
    · rw [lo _ (by omega) (by omega)] at e
      rw [lo _ (by omega) (by omega)]
      obtain ⟨t2, b1, b2, b3⟩ := a3 q hq e
      have := hmin q hq e
      rw [et, b3] at this
      have := (nI_leI (a := t) (b := t2) (by omega) (by omega)).mp this
      exact ⟨t2, this, by omega, b3⟩
  · rw [lo _ (by omega) (by omega)]; exact (a4 x hx).le ht
  · rw [lo _ (by omega) (by omega)]; exact (a5 q hq).le ht
  · rw [lo _ (by omega) (by omega)]; exact a6 x hx
theorem come_ok {g : Mem} {n now B l t : Nat} {ρ : Rw} (hG : GD g n) (h : SI g n now B ρ) (hgs : GCo g n ρ) (hl : l < n) (hp : ¬ ρ (102 + l) = -1) (ht : now ≤ t) (ht20 : t ≤ now + 20) (htb : t + 20 < 2 ^ 31) (et : ρ (132 + l) = nI t) (hmin : ∀ p, p < n → ¬ ρ (102 + p) = -1 → ρ (132 + l) ≤ ρ (132 + p)) :
    SI g n t (B + 1) (S_come g n l ρ) ∧ GCo g n (S_come g n l ρ) ∧ ∀ w, w < 4 → S_come g n l ρ (6 + w) = ρ (6 + w) := by
  have hn := hG.le30
  have hn24 : n < 24 := by have := hG.1; omega
  have h1 := h.time hn hl ht ht20 htb et hmin
  have e49 := (hG.2 l hl).2.1
  have hl4 : ¬ l < 4 := fun q => hp (h.2.1 l hl ((hG.2 l hl).2.2.2.2.1.mpr q))
  have lo : ∀ i, i ≠ 0 → i ≠ 102 + l → (upd (upd ρ (102 + l) (-1)) 0 (ρ (132 + l))) i = ρ i := fun i h0 hi => by rw [upd_ne h0, upd_ne hi]
  have lol : (upd (upd ρ (102 + l) (-1)) 0 (ρ (132 + l))) (102 + l) = -1 := by rw [upd_ne (by omega), upd_same]
  have hcg : ∀ q, q < n → ¬ g 48 q < 0 → q ≠ l → GS1 g (upd (upd ρ (102 + l) (-1)) 0 (ρ (132 + l))) q := fun q hq hk e => (hgs q hq hk).cg (lo _ (by omega) (by omega)) (lo _ (by omega) (by omega)) (reckon_same (hG.wf q hq) hk fun x hx _ => lo _ (by omega) (by omega))
  have hvl : isV (ρ (102 + l)) := (h.2.2.2.2.2.2.2.2 l (by omega)).resolve_left hp
  unfold S_come
  have ev : S_val (upd (upd ρ (102 + l) (-1)) 0 (ρ (132 + l))) (g 49 l) = ρ (6 + l) := by rw [S_val, e49, cl_nI (by omega), lo _ (by omega) (by omega)]
  rw [ev, e49, cl_nI (show l < 2 ^ 31 by omega)]
  by_cases c : ρ (6 + l) = ρ (102 + l)
  · rw [if_pos c]
    refine ⟨h1.le (by omega), fun q hq hk => ?_, fun w hw => lo _ (by omega) (by omega)⟩
    by_cases e : q = l
    · subst e
      exact absurd c.symm ((hgs q hq hk).wk.resolve_left hp)
    · exact hcg q hq hk e
  · rw [if_neg c]
    obtain ⟨g1, g2, -⟩ := h1.change (w := l) (v := ρ (102 + l)) hG (by omega) (by omega) hvl hcg (fun hln hk => ⟨lol, by
      have hs := hgs l hln hk
      rw [reckon_same (ρ := ρ) (hG.wf l hl) hk fun x hx _ => lo _ (by omega) (by omega)]
      unfold GS1 at hs
      split at hs
      · exact absurd hs hp
      · exact hs⟩)
    refine ⟨g1, g2, fun w hw => ?_⟩
    rw [S_change_val (by omega) (by omega), if_neg (by omega)]
    exact lo _ (by omega) (by omega)
/-- behind a pass: all is well, or all was given up -/
def PW (g : Mem) (n now U B : Nat) (r : Nat) (ρ ρ' : Rw) : Prop := (∀ w, w < 4 → ρ' (6 + w) = ρ (6 + w)) ∧
  ((∃ t : Nat, now ≤ t ∧ t ≤ now + 20 * r ∧ (t ≤ U ∨ t = now) ∧ SI g n t (B + r) ρ' ∧ GCo g n ρ' ∧ (S_next n ρ' = -1 ∨ nI U < ρ' (132 + cl (S_next n ρ')))) ∨ (ρ' 2 = 1 ∧ ∀ l, l < n → ρ' (102 + l) = -1))
theorem passL_ok {g : Mem} {n U : Nat} (hG : GD g n) (hU : U < 2 ^ 31) : ∀ (r now B : Nat) (ρ : Rw), now + 20 * r + 20 < 2 ^ 31 → SI g n now B ρ → GCo g n ρ → PW g n now U B r ρ (S_passL g n (nI U) r ρ)
  | 0, now, B, ρ, hb, h, hgs => by
    have hn := hG.le30
    have hn24 : n < 24 := by have := hG.1; omega
    unfold S_passL
    split
    · rename_i c
      exact ⟨fun _ _ => rfl, Or.inl ⟨now, Nat.le_refl _, by omega, Or.inr rfl, h, hgs, c⟩⟩
    · refine ⟨fun w hw => ?_, Or.inr ⟨?_, fun l hl => ?_⟩⟩
      · rw [S_give_lo hn (by omega), upd_ne (by omega)]
      · rw [S_give_lo hn (by omega), upd_same, h.1.2]; rfl
      · rw [S_give, S_giveL_at, if_pos (by omega)]
  | r + 1, now, B, ρ, hb, h, hgs => by
    have hn := hG.le30
    unfold S_passL
    split
    · rename_i c
      exact ⟨fun _ _ => rfl, Or.inl ⟨now, Nat.le_refl _, by omega, Or.inr rfl, h.le (by omega), hgs, c⟩⟩
    · rename_i c
      rcases next_min hn (fun l hl e => by obtain ⟨t, -, b, e⟩ := h.2.2.1 l hl e; exact ⟨t, by omega, e⟩) with ⟨e, -⟩ | ⟨q, hq, e, hp, hmin⟩
      · exact absurd (Or.inl e) c
      · obtain ⟨t, t1, t2, et⟩ := h.2.2.1 q hq hp
        have ecl : cl (S_next n ρ) = q := by rw [e, cl_nI (by omega)]
        rw [ecl] at c ⊢
        have htU : t ≤ U := by
          have : ¬ nI U < ρ (132 + q) := fun d => c (Or.inr d)
          rw [et, nI_ltI hU (by omega)] at this
          omega
        obtain ⟨s1, s2, s3⟩ := come_ok hG h hgs hq hp t1 t2 (by omega) et hmin
        obtain ⟨i1, i2⟩ := passL_ok hG hU r t (B + 1) (S_come g n q ρ) (by omega) s1 s2
        refine ⟨fun w hw => (i1 w hw).trans (s3 w hw), ?_⟩
        rcases i2 with ⟨t3, b1, b2, b3, b4, b5, b6⟩ | i2
        · exact Or.inl ⟨t3, by omega, by omega, by omega, b4.le (by omega), b5, b6⟩
        · exact Or.inr i2
