/-! the trial: the row copied -/
theorem cpy342 {ρ : Rw} {i : Nat} (h : i < 342) : va_cpy ρ (fun _ => 0) 0 0 342 i = ρ i := cpy_in h
theorem RR.cpy {r : Nat} {m : Mem} {ρ : Rw} (h : RR r m ρ) : RR r m (va_cpy ρ (fun _ => 0) 0 0 342) := by
  obtain ⟨a0, a1, a2, a3, a4, a5, a6, a7, a8, a9, a10, a11, a12, a13⟩ := h
  refine ⟨fun w hw => ?_, fun w hw => ?_, fun w hw => ?_, fun w hw => ?_, fun l hl => ?_, fun l hl hp => ?_, fun l hl => ?_, ?_, ?_, ?_, ?_, ?_, ?_, fun q hq hlt => ?_⟩
  · rw [cpy342 (by omega)]; exact a0 w hw
  · rw [cpy342 (by omega)]; exact a1 w hw
  · rw [cpy342 (by omega)]; exact a2 w hw
  · rw [cpy342 (by omega)]; exact a3 w hw
  · rw [cpy342 (by omega)]; exact a4 l hl
  · rw [cpy342 (by omega)] at hp; rw [cpy342 (by omega), cpy342 (by omega)]; exact a5 l hl hp
  · rw [cpy342 (by omega)]; exact a6 l hl
  · rw [cpy342 (by omega)]; exact a7
  · rw [cpy342 (by omega)]; exact a8
  · rw [cpy342 (by omega)]; exact a9
  · rw [cpy342 (by omega)]; exact a10
  · rw [cpy342 (by omega)]; exact a11
  · rw [cpy342 (by omega)]; exact a12
  · rw [cpy342 (by omega)] at hlt; rw [cpy342 (by omega), cpy342 (by omega), cpy342 (by omega)]; exact a13 q hq hlt
theorem RW.cpy {g : Mem} {n : Nat} {ρ : Rw} (h : RW g n ρ) : RW g n (va_cpy ρ (fun _ => 0) 0 0 342) := by
  obtain ⟨⟨k, h1, h2⟩, ⟨h3, h4⟩, h5⟩ := h
  refine ⟨⟨k, h1, by rw [cpy342 (by omega)]; exact h2⟩, ⟨fun w hw => by rw [cpy342 (by omega)]; exact h3 w hw, fun l hl => by rw [cpy342 (by omega)]; exact h4 l hl⟩, fun l a b => by rw [cpy342 (by omega)]; exact h5 l a b⟩
theorem SM.trial {m m' : Mem} (h : FR 35 m m') : SM m m' := ⟨fun i hi => h i (by omega), by rw [h 47 (by omega)], by rw [h 47 (by omega)]⟩
section CASES8
variable {j : Nat} {m : Mem} {o : Nat → Int64}
end CASES8
