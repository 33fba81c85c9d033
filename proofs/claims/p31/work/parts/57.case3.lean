/-! cases that let the run go on: pass -/
theorem RR.now {r : Nat} {m g : Mem} {n : Nat} {ρ : Rw} {v : Int32} (h : RR r m ρ) : RR r (up2 m r 13 v) (upd ρ 0 v) := by
  obtain ⟨a0, a1, a2, a3, a4, a5, a6, a7, a8, a9, a10, a11, a12, a13⟩ := h
  refine ⟨?_, ?_, ?_, ?_, ?_, ?_, ?_, ?_, ?_, ?_, ?_, ?_, ?_, ?_⟩
  · intro w hw; simp (disch := omega) only [up2, up_same, up_ne, upd_same, upd_ne]; exact a0 w hw
  · intro w hw; simp (disch := omega) only [up2, up_same, up_ne, upd_same, upd_ne]; exact a1 w hw
  · intro w hw; simp (disch := omega) only [up2, up_same, up_ne, upd_same, upd_ne]; exact a2 w hw
  · intro w hw; simp (disch := omega) only [up2, up_same, up_ne, upd_same, upd_ne]; exact a3 w hw
  · intro w hw; simp (disch := omega) only [up2, up_same, up_ne, upd_same, upd_ne]; exact a4 w hw
  · intro w hw; simp (disch := omega) only [up2, up_same, up_ne, upd_same, upd_ne]; exact a5 w hw
  · intro w hw; simp (disch := omega) only [up2, up_same, up_ne, upd_same, upd_ne]; exact a6 w hw
  · first | (simp (disch := omega) only [up2, up_same, up_ne, upd_same, upd_ne]; exact a7) | (simp (disch := omega) only [up2, up_same, up_ne, upd_same, upd_ne]; rw [a7]) | (simp (disch := omega) only [up2, up_same, up_ne, upd_same, upd_ne]; simp only [*])
  · simp only [up2, up_same, upd_same]
  · first | (simp (disch := omega) only [up2, up_same, up_ne, upd_same, upd_ne]; exact a9) | (simp (disch := omega) only [up2, up_same, up_ne, upd_same, upd_ne]; rw [a9]) | (simp (disch := omega) only [up2, up_same, up_ne, upd_same, upd_ne]; simp only [*])
  · first | (simp (disch := omega) only [up2, up_same, up_ne, upd_same, upd_ne]; exact a10) | (simp (disch := omega) only [up2, up_same, up_ne, upd_same, upd_ne]; rw [a10]) | (simp (disch := omega) only [up2, up_same, up_ne, upd_same, upd_ne]; simp only [*])
  · first | (simp (disch := omega) only [up2, up_same, up_ne, upd_same, upd_ne]; exact a11) | (simp (disch := omega) only [up2, up_same, up_ne, upd_same, upd_ne]; rw [a11]) | (simp (disch := omega) only [up2, up_same, up_ne, upd_same, upd_ne]; simp only [*])
  · first | (simp (disch := omega) only [up2, up_same, up_ne, upd_same, upd_ne]; exact a12) | (simp (disch := omega) only [up2, up_same, up_ne, upd_same, upd_ne]; rw [a12]) | (simp (disch := omega) only [up2, up_same, up_ne, upd_same, upd_ne]; simp only [*])
  · intro q hq; simp (disch := omega) only [up2, up_same, up_ne, upd_same, upd_ne]; exact a13 q hq
theorem RW.now {g : Mem} {n : Nat} {ρ : Rw} {v : Int32} (h : RW g n ρ) : RW g n (upd ρ 0 v) := ⟨upd_hz h.1 (by omega), VR.upd_out h.2.1 (by omega), PN.upd_out h.2.2 (by omega)⟩
theorem s_within {p M : Int32} {m : Mem} {K : Int32 → Mem → Prop} (h1 : ¬ p < 0 → ¬ M < p → K 1 m) (h0 : (p < 0 ∨ M < p) → K 0 m) : w_N_isWithin p M m K := ⟨fun h => h0 (Or.inl h), fun a => ⟨fun h => h0 (Or.inr h), fun b => h1 a b⟩⟩
section CASES4
variable {j : Nat} {m : Mem} {o : Nat → Int64}
end CASES4
