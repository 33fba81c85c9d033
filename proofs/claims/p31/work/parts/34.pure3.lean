/-! the reference's run, on: passing, settling, counting -/
def S_giveL : Nat → Nat → Rw → Rw
  | 0, _, ρ => ρ
  | r + 1, l, ρ => S_giveL r (l + 1) (upd ρ (102 + l) (-1))
def S_give (n : Nat) (ρ : Rw) : Rw := S_giveL n 0 ρ
theorem S_giveL_at : ∀ (r l : Nat) (ρ : Rw) (i : Nat), S_giveL r l ρ i = if 102 + l ≤ i ∧ i < 102 + l + r then -1 else ρ i
  | 0, l, ρ, i => by rw [if_neg (by omega)]; rfl
  | r + 1, l, ρ, i => by
    unfold S_giveL
    rw [S_giveL_at r (l + 1) _ i]
    by_cases h1 : i = 102 + l
    · subst h1
      rw [if_neg (by omega), upd_same, if_pos (by omega)]
    · by_cases h2 : 102 + (l + 1) ≤ i ∧ i < 102 + (l + 1) + r
      · rw [if_pos h2, if_pos (by omega)]
      · rw [if_neg h2, upd_ne h1, if_neg (by omega)]
theorem S_give_hz {n : Nat} {ρ : Rw} (h : HZ ρ) : HZ (S_give n ρ) := by
  obtain ⟨k, h1, h2⟩ := h
  exact ⟨k, h1, by rw [S_give, S_giveL_at, if_neg (by omega)]; exact h2⟩
/-- one that comes: line l -/
def S_come (g : Mem) (n l : Nat) (ρ : Rw) : Rw :=
  if S_val (upd (upd ρ (102 + l) (-1)) 0 (ρ (132 + l))) (g 49 l) = ρ (102 + l) then upd (upd ρ (102 + l) (-1)) 0 (ρ (132 + l)) else S_change g n (cl (g 49 l)) (ρ (102 + l)) (upd (upd ρ (102 + l) (-1)) 0 (ρ (132 + l)))
def S_passL (g : Mem) (n : Nat) (until_ : Int32) : Nat → Rw → Rw
  | 0, ρ => if S_next n ρ = -1 ∨ until_ < ρ (132 + cl (S_next n ρ)) then ρ else S_give n (upd ρ 2 (ρ 2 + 1))
  | r + 1, ρ => if S_next n ρ = -1 ∨ until_ < ρ (132 + cl (S_next n ρ)) then ρ else S_passL g n until_ r (S_come g n (cl (S_next n ρ)) ρ)
def S_pass (g : Mem) (n : Nat) (until_ : Int32) (ρ : Rw) : Rw := S_passL g n until_ 300 ρ
theorem S_come_hz {g : Mem} {n l : Nat} {ρ : Rw} (h : HZ ρ) : HZ (S_come g n l ρ) := by
  unfold S_come
  have h1 : HZ (upd (upd ρ (102 + l) (-1)) 0 (ρ (132 + l))) := upd_hz (upd_hz h (by omega)) (by omega)
  split
  · exact h1
  · exact S_change_hz h1
theorem S_passL_hz {g : Mem} {n : Nat} {u : Int32} : ∀ (r : Nat) {ρ : Rw}, HZ ρ → HZ (S_passL g n u r ρ)
  | 0, ρ, h => by
    unfold S_passL
    split
    · exact h
    · exact S_give_hz (upd_hz h (by omega))
  | r + 1, ρ, h => by
    unfold S_passL
    split
    · exact h
    · exact S_passL_hz r (S_come_hz h)
def S_begin (ρ : Rw) : Rw := fun i => if 54 ≤ i ∧ i < 78 then 0 else if 78 ≤ i ∧ i < 102 then ρ (i - 72) else ρ i
theorem S_begin_hz {ρ : Rw} (h : HZ ρ) : HZ (S_begin ρ) := by
  obtain ⟨k, h1, h2⟩ := h
  exact ⟨k, h1, by rw [S_begin, if_neg (by omega), if_neg (by omega)]; exact h2⟩
def S_beginL : Nat → Nat → Rw → Rw
  | 0, _, ρ => ρ
  | r + 1, w, ρ => S_beginL r (w + 1) (upd (upd ρ (54 + w) 0) (78 + w) (ρ (6 + w)))
theorem S_beginL_at : ∀ (r w : Nat) (ρ : Rw) (i : Nat), w + r ≤ 24 → S_beginL r w ρ i = if 54 + w ≤ i ∧ i < 54 + w + r then 0 else if 78 + w ≤ i ∧ i < 78 + w + r then ρ (i - 72) else ρ i
  | 0, w, ρ, i, _ => by rw [if_neg (by omega), if_neg (by omega)]; rfl
  | r + 1, w, ρ, i, hw => by
    unfold S_beginL
    rw [S_beginL_at r (w + 1) _ i (by omega)]
    by_cases h1 : i = 54 + w
    · subst h1
      rw [if_neg (by omega), if_neg (by omega), upd_ne (by omega), upd_same, if_pos (by omega)]
    · by_cases h2 : i = 78 + w
      · subst h2
        rw [if_neg (by omega), if_neg (by omega), upd_same, if_neg (by omega), if_pos (by omega), show 78 + w - 72 = 6 + w by omega]
      · rw [upd_ne h2, upd_ne h1]
        by_cases h3 : 54 + (w + 1) ≤ i ∧ i < 54 + (w + 1) + r
        · rw [if_pos h3, if_pos (by omega)]
        · have b1 : ¬ (54 + w ≤ i ∧ i < 54 + w + (r + 1)) := by omega
          rw [if_neg h3, if_neg b1]
          by_cases h4 : 78 + (w + 1) ≤ i ∧ i < 78 + (w + 1) + r
          · have b2 : 78 + w ≤ i ∧ i < 78 + w + (r + 1) := by omega
            rw [if_pos h4, if_pos b2, upd_ne (by omega), upd_ne (by omega)]
          · have b2 : ¬ (78 + w ≤ i ∧ i < 78 + w + (r + 1)) := by omega
            rw [if_neg h4, if_neg b2]
theorem S_beginL_all (ρ : Rw) : S_beginL 24 0 ρ = S_begin ρ := by
  funext i
  rw [S_beginL_at 24 0 ρ i (by omega)]
  rfl
section ML3
variable {m g : Mem} {n : Nat} {ρ : Rw}
end ML3
/-! counting what is pending -/
def S_cnt (ρ : Rw) : Nat → Nat → Nat
  | 0, _ => 0
  | r + 1, l => (if ρ (102 + l) = -1 then 0 else 1) + S_cnt ρ r (l + 1)
theorem S_cnt_le (ρ : Rw) : ∀ (r l : Nat), S_cnt ρ r l ≤ r
  | 0, _ => Nat.le_refl _
  | r + 1, l => by
    have := S_cnt_le ρ r (l + 1)
    unfold S_cnt; split <;> omega
/-- the first line of l on that drives w -/
def S_drvL (g : Mem) (x : Int32) : Nat → Nat → Int32
  | 0, _ => -1
  | r + 1, l => if g 49 l = x then nI l else S_drvL g x r (l + 1)
def S_drv (g : Mem) (n w : Nat) : Int32 := S_drvL g (nI w) n 0
theorem S_drvL_spec {g : Mem} {x : Int32} {n : Nat} : ∀ (r l : Nat), l + r = n → (S_drvL g x r l = -1 ∧ (∀ q, l ≤ q → q < n → ¬ g 49 q = x)) ∨ ∃ q, l ≤ q ∧ q < n ∧ S_drvL g x r l = nI q ∧ g 49 q = x ∧ ∀ p, l ≤ p → p < q → ¬ g 49 p = x
  | 0, l, hl => Or.inl ⟨rfl, fun q h1 h2 => by omega⟩
  | r + 1, l, hl => by
    unfold S_drvL
    by_cases h : g 49 l = x
    · rw [if_pos h]
      exact Or.inr ⟨l, Nat.le_refl _, by omega, rfl, h, fun p h1 h2 => by omega⟩
    · rw [if_neg h]
      rcases S_drvL_spec (g := g) (x := x) (n := n) r (l + 1) (by omega) with ⟨h1, h2⟩ | ⟨q, h1, h2, h3, h4, h5⟩
      · refine Or.inl ⟨h1, fun q hq1 hq2 => ?_⟩
        by_cases e : q = l
        · subst e; exact h
        · exact h2 q (by omega) hq2
      · refine Or.inr ⟨q, by omega, h2, h3, h4, fun p hp1 hp2 => ?_⟩
        by_cases e : p = l
        · subst e; exact h
        · exact h5 p (by omega) hp2
theorem S_drv_spec {g : Mem} {n w : Nat} : (S_drv g n w = -1 ∧ (∀ q, q < n → ¬ g 49 q = nI w)) ∨ ∃ q, q < n ∧ S_drv g n w = nI q ∧ g 49 q = nI w ∧ ∀ p, p < q → ¬ g 49 p = nI w := by
  rcases S_drvL_spec (g := g) (x := nI w) (n := n) n 0 (by omega) with ⟨h1, h2⟩ | ⟨q, h1, h2, h3, h4, h5⟩
  · exact Or.inl ⟨h1, fun q hq => h2 q (Nat.zero_le _) hq⟩
  · exact Or.inr ⟨q, h2, h3, h4, fun p hp => h5 p (Nat.zero_le _) hp⟩
section ML4
variable {m g : Mem} {n : Nat} {ρ : Rw}
end ML4
