/-! the reference's arrivals, told -/
section MT2
variable {g : Mem} {n : Nat}
theorem okA_B {x : Int32} (h : okA 24 x) : okB x := h.imp id fun ⟨k, h1, h2⟩ => ⟨k, by omega, h2⟩
theorem comb_eq {d A Bv Cv x51 x52 b0 c0 B' C' : Int32} (hA : okA 24 A) (hB : okA 24 B') (hC : okA 24 C') (eB : if x51 = -1 then (B' = A ∧ Bv = 999 ∧ b0 = 0) else (Bv = B' ∧ b0 = B')) (eC : if x52 = -1 then (C' = A ∧ Cv = 999 ∧ c0 = 0) else (Cv = C' ∧ c0 = C')) :
    ((jmin A (jmin Bv Cv) = -1) → comb d A B' C' = -1) ∧ (¬ jmin A (jmin Bv Cv) = -1 → comb d A B' C' = d + jmax A (jmax b0 c0)) := by
  have n9 : ¬ (999 : Int32) = -1 := by decide
  have oB : okB Bv := by
    by_cases h : x51 = -1
    · rw [if_pos h] at eB; rw [eB.2.1]; exact Or.inr ⟨999, by omega, rfl⟩
    · rw [if_neg h] at eB; rw [eB.1]; exact okA_B hB
  have oC : okB Cv := by
    by_cases h : x52 = -1
    · rw [if_pos h] at eC; rw [eC.2.1]; exact Or.inr ⟨999, by omega, rfl⟩
    · rw [if_neg h] at eC; rw [eC.1]; exact okA_B hC
  have q1 := okB_min oB oC
  have q2 := okB_min (okA_B hA) q1.1
  have hiff : jmin A (jmin Bv Cv) = -1 ↔ (A = -1 ∨ B' = -1 ∨ C' = -1) := by
    rw [q2.2, q1.2]
    by_cases h : x51 = -1
    · rw [if_pos h] at eB
      rw [eB.2.1, eB.1]
      by_cases h' : x52 = -1
      · rw [if_pos h'] at eC
        rw [eC.2.1, eC.1]
        exact ⟨fun h => h.elim Or.inl (fun h => h.elim (fun h => absurd h n9) (fun h => absurd h n9)), fun h => Or.inl (h.elim id (fun h => h.elim id id))⟩
      · rw [if_neg h'] at eC
        rw [eC.1]
        exact ⟨fun h => h.elim Or.inl (fun h => h.elim (fun h => absurd h n9) (fun h => Or.inr (Or.inr h))), fun h => h.elim Or.inl (fun h => h.elim Or.inl (fun h => Or.inr (Or.inr h)))⟩
    · rw [if_neg h] at eB
      rw [eB.1]
      by_cases h' : x52 = -1
      · rw [if_pos h'] at eC
        rw [eC.2.1, eC.1]
        exact ⟨fun h => h.elim Or.inl (fun h => h.elim (fun h => Or.inr (Or.inl h)) (fun h => absurd h n9)), fun h => h.elim Or.inl (fun h => h.elim (fun h => Or.inr (Or.inl h)) Or.inl)⟩
      · rw [if_neg h'] at eC
        rw [eC.1]
  unfold comb
  refine ⟨fun h => if_pos (hiff.mp h), fun h => ?_⟩
  have hno : ¬ (A = -1 ∨ B' = -1 ∨ C' = -1) := fun hh => h (hiff.mpr hh)
  rw [if_neg hno]
  obtain ⟨ka, a1, a2⟩ := hA.resolve_left (fun e => hno (Or.inl e))
  obtain ⟨kb, b1, b2⟩ := hB.resolve_left (fun e => hno (Or.inr (Or.inl e)))
  obtain ⟨kc, c1, c2⟩ := hC.resolve_left (fun e => hno (Or.inr (Or.inr e)))
  have z : (0 : Int32) = nI 0 := rfl
  have hb0 : ∃ j : Nat, b0 = nI j ∧ j ≤ 480 ∧ (x51 = -1 → j = 0 ∧ kb = ka) ∧ (¬ x51 = -1 → j = kb) := by
    by_cases h : x51 = -1
    · rw [if_pos h] at eB
      refine ⟨0, eB.2.2, by omega, fun _ => ⟨rfl, ?_⟩, fun hh => absurd h hh⟩
      exact (nI_eq (by omega) (by omega)).mp (b2.symm.trans (eB.1.trans a2))
    · rw [if_neg h] at eB
      exact ⟨kb, eB.2.trans b2, by omega, fun hh => absurd hh h, fun _ => rfl⟩
  have hc0 : ∃ j : Nat, c0 = nI j ∧ j ≤ 480 ∧ (x52 = -1 → j = 0 ∧ kc = ka) ∧ (¬ x52 = -1 → j = kc) := by
    by_cases h : x52 = -1
    · rw [if_pos h] at eC
      refine ⟨0, eC.2.2, by omega, fun _ => ⟨rfl, ?_⟩, fun hh => absurd h hh⟩
      exact (nI_eq (by omega) (by omega)).mp (c2.symm.trans (eC.1.trans a2))
    · rw [if_neg h] at eC
      exact ⟨kc, eC.2.trans c2, by omega, fun hh => absurd hh h, fun _ => rfl⟩
  obtain ⟨jb, e1, e2, e3, e4⟩ := hb0
  obtain ⟨jc, f1, f2, f3, f4⟩ := hc0
  rw [a2, b2, c2, e1, f1, jmax_nI (by omega) (by omega), jmax_nI (by omega) (by omega), jmax_nI (by omega) (by omega), jmax_nI (by omega) (by omega)]
  congr 2
  by_cases h : x51 = -1 <;> by_cases h' : x52 = -1
  · have := e3 h; have := f3 h'; omega
  · have := e3 h; have := f4 h'; omega
  · have := e4 h; have := f3 h'; omega
  · have := e4 h; have := f4 h'; omega
end MT2
