/-! the reference's flaws -/
def FN (m m' : Mem) : Prop := (∀ i, i ≠ 47 → i ≠ 57 → m' i = m i) ∧ ∀ j, j ≠ 12 → m' 47 j = m 47 j
theorem FN.refl (m : Mem) : FN m m := ⟨fun _ _ _ => rfl, fun _ _ => rfl⟩
theorem FN.trans {a b c : Mem} (h1 : FN a b) (h2 : FN b c) : FN a c := ⟨fun i hi hj => (h2.1 i hi hj).trans (h1.1 i hi hj), fun j hj => (h2.2 j hj).trans (h1.2 j hj)⟩
theorem MC.fn {m m' g : Mem} {n : Nat} (h : MC m g n) (hm : FN m m') : MC m' g n := by
  obtain ⟨h0, h1, h2, h3, h4, h5, h6, h7, h8, h9⟩ := h
  unfold MC
  rw [hm.2 1 (by omega), hm.1 48 (by omega) (by omega), hm.1 49 (by omega) (by omega), hm.1 50 (by omega) (by omega), hm.1 51 (by omega) (by omega), hm.1 52 (by omega) (by omega), hm.1 53 (by omega) (by omega), hm.1 54 (by omega) (by omega), hm.1 55 (by omega) (by omega)]
  exact ⟨h0, h1, h2, h3, h4, h5, h6, h7, h8, h9⟩
section MF1
variable {m g : Mem} {n : Nat}
end MF1
