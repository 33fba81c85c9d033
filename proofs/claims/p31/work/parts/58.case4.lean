/-! cases that only ask -/
section CASES5
variable {j : Nat} {m : Mem} {o : Nat → Int64}
/-- what is told, by the row -/
def S_told (n : Nat) (ρ : Rw) (p : Int32) : Int32 := if p = 0 then ρ 0 else if p = 1 then nI (S_cnt ρ n 0) else if p = 2 then S_due n ρ else if p = 3 then ρ 1 else if p = 4 then ρ 2 else ρ 3
theorem s_N_told {g : Mem} {n : Nat} {p : Int32} {K : Int32 → Mem → Prop} {X : String → Mem → Prop} (hcc : CC m g n) (h : RR 23 m (m 60)) (hp : p = 0 ∨ p = 1 ∨ p = 2 ∨ p = 3 ∨ p = 4 ∨ p = 5) (hK : K (S_told n (m 60) p) m) : w_N_told p m K X := by
  obtain ⟨a0, a1, a2, a3, a4, a5, a6, a7, a8, a9, a10, a11, a12, a13⟩ := h
  have h' : RR 23 m (m 60) := ⟨a0, a1, a2, a3, a4, a5, a6, a7, a8, a9, a10, a11, a12, a13⟩
  unfold w_N_told
  unfold S_told at hK
  refine ⟨fun e => ?_, fun e => ?_, fun e => ?_, fun e => ?_, fun e => ?_, fun e => ?_, fun n0 n1 n2 n3 n4 n5 => ?_⟩
  · subst e; rw [if_pos rfl] at hK; rw [a8]; exact hK
  · subst e; rw [if_neg (by decide), if_pos rfl] at hK; exact s_R_linesPending hcc h' hK
  · subst e; rw [if_neg (by decide), if_neg (by decide), if_pos rfl] at hK; exact s_R_nextTime hcc h' hK
  · subst e; rw [if_neg (by decide), if_neg (by decide), if_neg (by decide), if_pos rfl] at hK; rw [a10]; exact hK
  · subst e; rw [if_neg (by decide), if_neg (by decide), if_neg (by decide), if_neg (by decide), if_pos rfl] at hK; rw [a11]; exact hK
  · subst e; rw [if_neg (by decide), if_neg (by decide), if_neg (by decide), if_neg (by decide), if_neg (by decide)] at hK; rw [a12]; exact hK
  · rcases hp with e | e | e | e | e | e
    · exact absurd e n0
    · exact absurd e n1
    · exact absurd e n2
    · exact absurd e n3
    · exact absurd e n4
    · exact absurd e n5
theorem in05 {p : Int32} (h1 : ¬ p < 0) (h2 : ¬ (5 : Int32) < p) : p = 0 ∨ p = 1 ∨ p = 2 ∨ p = 3 ∨ p = 4 ∨ p = 5 := by
  obtain ⟨k, hk, rfl⟩ := nI_of h1
  have hk5 : k ≤ 5 := by
    rcases Nat.lt_or_ge 5 k with h | h
    · exact absurd ((nI_ltI (a := 5) (by decide) hk).mpr h) h2
    · exact h
  have : k = 0 ∨ k = 1 ∨ k = 2 ∨ k = 3 ∨ k = 4 ∨ k = 5 := by omega
  rcases this with rfl | rfl | rfl | rfl | rfl | rfl
  · exact Or.inl rfl
  · exact Or.inr (Or.inl rfl)
  · exact Or.inr (Or.inr (Or.inl rfl))
  · exact Or.inr (Or.inr (Or.inr (Or.inl rfl)))
  · exact Or.inr (Or.inr (Or.inr (Or.inr (Or.inl rfl))))
  · exact Or.inr (Or.inr (Or.inr (Or.inr (Or.inr rfl))))
end CASES5
