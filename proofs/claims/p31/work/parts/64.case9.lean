/-! cases that ask by two numbers -/
theorem up47_ne {m : Mem} {v : Int32} {i : Nat} (hi : i ≠ 47) : (up2 m 47 0 v) i = m i := by
  unfold up2
  exact up_ne hi
theorem up47_0 {m : Mem} {v : Int32} : (up2 m 47 0 v) 47 0 = v := by simp only [up2, up_same, upd_same]
theorem cnt_lt {n k : Nat} (hn : n < 2 ^ 31) (hk : k < 2 ^ 31) : (nI n - 1 < nI k) ↔ ¬ nI k < nI n := by
  have h2 : (nI n - 1).toInt = (n : Int) - 1 := by
    rw [Int32.toInt_sub, nI_toInt hn, show (1 : Int32).toInt = 1 by decide]
    exact Int.bmod_eq_of_le (by omega) (by omega)
  rw [Int32.lt_iff_toInt_lt, Int32.lt_iff_toInt_lt, h2, nI_toInt hk, nI_toInt hn]
  omega
theorem c_ix {N : Nat} {p : Int32} {A B : Prop} (hN : N < 2 ^ 31) (h1 : ∀ k, k < N → p = nI k → A) (h0 : (∀ k, k < N → ¬ p = nI k) → B) : ((p < 0 → B) ∧ (¬ (p < 0) → ((p < nI N → A) ∧ (¬ (p < nI N) → B)))) :=
  ⟨fun e => h0 fun l hl ep => by rw [ep] at e; exact nI_pos (show l < 2 ^ 31 by omega) e, fun ne => by
    obtain ⟨k, hk, rfl⟩ := nI_of ne
    exact ⟨fun e => h1 k ((nI_ltI hk hN).mp e) rfl, fun e => h0 fun l hl ep => by
      rw [ep] at e; exact e ((nI_ltI (by omega) hN).mpr hl)⟩⟩
theorem in0k {p M : Int32} {n : Nat} (hM : M = nI n) (hn : n < 2 ^ 31) (h1 : ¬ p < 0) (h2 : ¬ M < p) : ∃ k, k ≤ n ∧ p = nI k := by
  obtain ⟨k, hk, rfl⟩ := nI_of h1
  refine ⟨k, ?_, rfl⟩
  rcases Nat.lt_or_ge n k with h | h
  · rw [hM] at h2; exact absurd ((nI_ltI hn hk).mpr h) h2
  · exact h
theorem in01 {p : Int32} (h1 : ¬ p < 0) (h2 : ¬ (1 : Int32) < p) : p = 0 ∨ p = 1 := by
  obtain ⟨k, hk, rfl⟩ := in0k (n := 1) rfl (by decide) h1 h2
  have : k = 0 ∨ k = 1 := by omega
  rcases this with rfl | rfl
  · exact Or.inl rfl
  · exact Or.inr rfl
theorem in02 {p : Int32} (h1 : ¬ p < 0) (h2 : ¬ (2 : Int32) < p) : p = 0 ∨ p = 1 ∨ p = 2 := by
  obtain ⟨k, hk, rfl⟩ := in0k (n := 2) rfl (by decide) h1 h2
  have : k = 0 ∨ k = 1 ∨ k = 2 := by omega
  rcases this with rfl | rfl | rfl
  · exact Or.inl rfl
  · exact Or.inr (Or.inl rfl)
  · exact Or.inr (Or.inr rfl)
theorem in03 {p : Int32} (h1 : ¬ p < 0) (h2 : ¬ (3 : Int32) < p) : p = 0 ∨ p = 1 ∨ p = 2 ∨ p = 3 := by
  obtain ⟨k, hk, rfl⟩ := in0k (n := 3) rfl (by decide) h1 h2
  have : k = 0 ∨ k = 1 ∨ k = 2 ∨ k = 3 := by omega
  rcases this with rfl | rfl | rfl | rfl
  · exact Or.inl rfl
  · exact Or.inr (Or.inl rfl)
  · exact Or.inr (Or.inr (Or.inl rfl))
  · exact Or.inr (Or.inr (Or.inr rfl))
theorem out_hi {M : Int32} {n q : Nat} (hM : M = nI n) (hn : n < 2 ^ 31) (hq : q ≤ n) : ¬ (nI q < 0 ∨ M < nI q) := by
  rintro (hb | hb)
  · exact nI_pos (show q < 2 ^ 31 by omega) hb
  · rw [hM] at hb; exact absurd ((nI_ltI hn (by omega)).mp hb) (by omega)
theorem FL_le {g : Mem} {n : Nat} : (FL g n).length ≤ 24 + n := by
  unfold FL
  rw [List.length_append]
  have h1 := FLw_le (g := g) (n := n) 24
  have h2 := FLl_le (g := g) (n := n) n
  omega
section CASES9
variable {j : Nat} {m : Mem} {o : Nat → Int64}
end CASES9
