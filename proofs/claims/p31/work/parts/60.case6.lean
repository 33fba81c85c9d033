/-! cases that ask for a wire -/
section CASES7
variable {j : Nat} {m : Mem} {o : Nat → Int64}
theorem s_N_isWire2 {p : Int32} {K : Int32 → Mem → Prop} (h1 : ∀ w, w < 24 → p = nI w → K 1 m) (h0 : ¬ isW p → K 0 m) : w_N_isWire p m K := by
  unfold w_N_isWire
  refine ⟨fun e => h0 ?_, fun ne => ⟨fun e => h0 ?_, fun e => ?_⟩⟩
  · rintro ⟨w, hw, rfl⟩; exact nI_pos (show w < 2 ^ 31 by omega) e
  · rintro ⟨w, hw, rfl⟩; exact absurd ((nI_le24 (by omega)).mp e) (by omega)
  · obtain ⟨k, hk, rfl⟩ := nI_of ne
    have : k < 24 := by
      rcases Nat.lt_or_ge k 24 with h | h
      · exact h
      · exact absurd ((nI_le24 hk).mpr h) e
    exact h1 k this rfl
theorem s_N_checkWire {p : Int32} {K : Mem → Prop} {X : String → Mem → Prop} (h1 : ∀ w, w < 24 → p = nI w → K m) (h0 : ¬ isW p → X "java/lang/IndexOutOfBoundsException" m) : w_N_checkWire p m K X := by
  unfold w_N_checkWire
  exact s_N_isWire2 (fun w hw e => ⟨fun _ => h1 w hw e, fun e => absurd e (by decide)⟩) (fun hno => ⟨fun e => absurd rfl e, fun _ => h0 hno⟩)
end CASES7
