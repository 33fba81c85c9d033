/-! cases that ask for a line -/
theorem line_lt {n k : Nat} (hn : n ≤ 30) (hk : k < 2 ^ 31) : (nI n - 1 < nI k) ↔ ¬ nI k < nI n := by
  have h2 : (nI n - 1).toInt = (n : Int) - 1 := by
    rw [Int32.toInt_sub, nI_toInt (by omega), show (1 : Int32).toInt = 1 by decide]
    exact Int.bmod_eq_of_le (by omega) (by omega)
  rw [Int32.lt_iff_toInt_lt, Int32.lt_iff_toInt_lt, h2, nI_toInt hk, nI_toInt (by omega)]
  omega
section CASES6
variable {j : Nat} {m : Mem} {o : Nat → Int64}
theorem s_N_checkLine {g : Mem} {n : Nat} {p : Int32} {K : Mem → Prop} {X : String → Mem → Prop} (hcc : CC m g n) (h1 : ∀ l, l < n → p = nI l → K m) (h0 : (∀ l, l < n → ¬ p = nI l) → X "java/lang/IndexOutOfBoundsException" m) : w_N_checkLine p m K X := by
  have hn := hcc.1
  unfold w_N_checkLine
  rw [hcc.2.1]
  refine ⟨fun e => h0 fun l hl ep => ?_, fun ne => ⟨fun e => ?_, fun e => h0 fun l hl ep => ?_⟩⟩
  · rw [ep] at e; exact absurd e (nI_pos (by omega))
  · obtain ⟨k, hk, rfl⟩ := nI_of ne
    exact h1 k ((nI_ltI hk (by omega)).mp e) rfl
  · rw [ep] at e; exact e ((nI_ltI (by omega) (by omega)).mpr hl)
end CASES6
