/-! the reference's run, on: settling, setting, clearing, starting; small questions -/
def S_hz1 (g : Mem) (n : Nat) (ρ : Rw) (w : Nat) : Rw :=
  if S_drv g n w = -1 ∨ g 48 (cl (S_drv g n w)) < 0 then ρ else if ρ (78 + w) = 2 ∨ ρ (6 + w) = 2 then ρ else
  if ρ (78 + w) = ρ (6 + w) then (if ρ (54 + w) ≤ 0 then ρ else S_haz ρ 1 (nI w)) else (if ρ (54 + w) ≤ 2 then ρ else S_haz ρ 2 (nI w))
def S_hzL (g : Mem) (n : Nat) : Nat → Nat → Rw → Rw
  | 0, _, ρ => ρ
  | r + 1, w, ρ => S_hzL g n r (w + 1) (S_hz1 g n ρ w)
def S_settle (g : Mem) (n : Nat) (ρ : Rw) : Rw := S_begin (S_hzL g n 24 0 (S_pass g n 2147483647 ρ))
theorem S_hz1_hz {g : Mem} {n w : Nat} {ρ : Rw} (h : HZ ρ) : HZ (S_hz1 g n ρ w) := by
  unfold S_hz1
  repeat' split
  all_goals first | exact h | exact S_haz_hz h
theorem S_hzL_hz {g : Mem} {n : Nat} : ∀ (r w : Nat) {ρ : Rw}, HZ ρ → HZ (S_hzL g n r w ρ)
  | 0, _, _, h => h
  | r + 1, w, _, h => S_hzL_hz r (w + 1) (S_hz1_hz h)
theorem S_settle_hz {g : Mem} {n : Nat} {ρ : Rw} (h : HZ ρ) : HZ (S_settle g n ρ) := S_begin_hz (S_hzL_hz _ _ (S_passL_hz _ h))
theorem S_haz_low {ρ : Rw} {c w : Int32} {i : Nat} (hi : i < 222) (h5 : i ≠ 5) : S_haz ρ c w i = ρ i := by
  unfold S_haz
  split
  · rfl
  · rw [upd_ne (by omega), upd_ne (by omega), upd_ne (by omega), upd_ne h5]
section ML5
variable {m g : Mem} {n : Nat} {ρ : Rw}
theorem S_drv_lt {g : Mem} {n w : Nat} (hn : n ≤ 30) : S_drv g n w = -1 ∨ ∃ q, q < 30 ∧ S_drv g n w = nI q := by
  rcases S_drv_spec (g := g) (n := n) (w := w) with ⟨h, -⟩ | ⟨q, h1, h2, -⟩
  · exact Or.inl h
  · exact Or.inr ⟨q, by omega, h2⟩
def S_set (g : Mem) (n w : Nat) (v : Int32) (ρ : Rw) : Rw := if ρ (6 + w) = v then S_begin ρ else S_change g n w v (S_begin ρ)
theorem S_set_hz {g : Mem} {n w : Nat} {v : Int32} {ρ : Rw} (h : HZ ρ) : HZ (S_set g n w v ρ) := by
  unfold S_set
  split
  · exact S_begin_hz h
  · exact S_change_hz (S_begin_hz h)
/-! clearing -/
def S_clear : Rw := fun i => if 6 ≤ i ∧ i < 30 then 2 else if 30 ≤ i ∧ i < 54 then -1 else if 78 ≤ i ∧ i < 102 then 2 else if 102 ≤ i ∧ i < 132 then -1 else if 192 ≤ i ∧ i < 222 then -1 else 0
def S_clA (w : Nat) : Rw := fun i => if 6 ≤ i ∧ i < 6 + w then 2 else if 30 ≤ i ∧ i < 30 + w then -1 else if 78 ≤ i ∧ i < 78 + w then 2 else 0
def S_clB (l : Nat) : Rw := fun i => if 102 ≤ i ∧ i < 102 + l then -1 else if 192 ≤ i ∧ i < 192 + l then -1 else S_clA 24 i
theorem S_clA_s {w : Nat} (hw : w < 24) : upd (upd (upd (S_clA w) (6 + w) 2) (30 + w) (-1)) (78 + w) 2 = S_clA (w + 1) := by
  funext i
  simp only [upd, S_clA]
  by_cases h1 : i = 78 + w
  · subst h1
    rw [if_pos rfl, if_neg (by omega), if_neg (by omega), if_pos (by omega)]
  · by_cases h2 : i = 30 + w
    · subst h2
      rw [if_neg h1, if_pos rfl, if_neg (by omega), if_pos (by omega)]
    · by_cases h3 : i = 6 + w
      · subst h3
        rw [if_neg h1, if_neg h2, if_pos rfl, if_pos (by omega)]
      · rw [if_neg h1, if_neg h2, if_neg h3]
        by_cases a : 6 ≤ i ∧ i < 6 + w
        · rw [if_pos a, if_pos (show 6 ≤ i ∧ i < 6 + (w + 1) by omega)]
        · rw [if_neg a, if_neg (show ¬ (6 ≤ i ∧ i < 6 + (w + 1)) by omega)]
          by_cases b : 30 ≤ i ∧ i < 30 + w
          · rw [if_pos b, if_pos (show 30 ≤ i ∧ i < 30 + (w + 1) by omega)]
          · rw [if_neg b, if_neg (show ¬ (30 ≤ i ∧ i < 30 + (w + 1)) by omega)]
            by_cases c : 78 ≤ i ∧ i < 78 + w
            · rw [if_pos c, if_pos (show 78 ≤ i ∧ i < 78 + (w + 1) by omega)]
            · rw [if_neg c, if_neg (show ¬ (78 ≤ i ∧ i < 78 + (w + 1)) by omega)]
theorem S_clB_s {l : Nat} (hl : l < 30) : upd (upd (S_clB l) (102 + l) (-1)) (192 + l) (-1) = S_clB (l + 1) := by
  funext i
  simp only [upd, S_clB]
  by_cases h1 : i = 192 + l
  · subst h1
    rw [if_pos rfl, if_neg (by omega), if_pos (by omega)]
  · by_cases h2 : i = 102 + l
    · subst h2
      rw [if_neg h1, if_pos rfl, if_pos (by omega)]
    · rw [if_neg h1, if_neg h2]
      by_cases a : 102 ≤ i ∧ i < 102 + l
      · rw [if_pos a, if_pos (show 102 ≤ i ∧ i < 102 + (l + 1) by omega)]
      · rw [if_neg a, if_neg (show ¬ (102 ≤ i ∧ i < 102 + (l + 1)) by omega)]
        by_cases b : 192 ≤ i ∧ i < 192 + l
        · rw [if_pos b, if_pos (show 192 ≤ i ∧ i < 192 + (l + 1) by omega)]
        · rw [if_neg b, if_neg (show ¬ (192 ≤ i ∧ i < 192 + (l + 1)) by omega)]
theorem S_clA_0 : S_clA 0 = fun _ => 0 := by
  funext i
  unfold S_clA
  rw [if_neg (by omega), if_neg (by omega), if_neg (by omega)]
theorem S_clB_0 : S_clB 0 = S_clA 24 := by
  funext i
  unfold S_clB
  rw [if_neg (by omega), if_neg (by omega)]
theorem S_clB_30 : S_clB 30 = S_clear := by
  funext i
  unfold S_clB S_clA S_clear
  by_cases a : 102 ≤ i ∧ i < 132
  · rw [if_pos (show 102 ≤ i ∧ i < 102 + 30 by omega), if_neg (show ¬ (6 ≤ i ∧ i < 30) by omega), if_neg (show ¬ (30 ≤ i ∧ i < 54) by omega), if_neg (show ¬ (78 ≤ i ∧ i < 102) by omega), if_pos a]
  · rw [if_neg (show ¬ (102 ≤ i ∧ i < 102 + 30) by omega), if_neg a]
    by_cases b : 192 ≤ i ∧ i < 222
    · rw [if_pos (show 192 ≤ i ∧ i < 192 + 30 by omega), if_neg (show ¬ (6 ≤ i ∧ i < 30) by omega), if_neg (show ¬ (30 ≤ i ∧ i < 54) by omega), if_neg (show ¬ (78 ≤ i ∧ i < 102) by omega), if_pos b]
    · rw [if_neg (show ¬ (192 ≤ i ∧ i < 192 + 30) by omega), if_neg b]
theorem S_clear_hz : HZ S_clear := ⟨0, by omega, by decide⟩
def S_startL (g : Mem) (n : Nat) : Nat → Nat → Rw → Rw
  | 0, _, ρ => ρ
  | r + 1, l, ρ => S_startL g n r (l + 1) (if g 48 l = -1 then S_change g n (cl (g 49 l)) 0 ρ else ρ)
theorem S_startL_hz {g : Mem} {n : Nat} : ∀ (r l : Nat) {ρ : Rw}, HZ ρ → HZ (S_startL g n r l ρ)
  | 0, _, _, h => h
  | r + 1, l, _, h => by
    unfold S_startL
    refine S_startL_hz r (l + 1) ?_
    split
    · exact S_change_hz h
    · exact h
end ML5
