/-! all arrivals told; the longest; the way -/
section MT3
variable {g : Mem} {n : Nat}
end MT3
/-- the greatest of the arrivals from w on -/
def S_lng (A : Nat → Int32) : Nat → Nat → Int32 → Int32
  | 0, _, x => x
  | r + 1, w, x => S_lng A r (w + 1) (jmax x (A w))
theorem p_A_greatest {m : Mem} {r : Nat} {A : Nat → Int32} {K : Int32 → Mem → Prop} (hA : ∀ w, w < 24 → m (r + 1) w = A w) (hK : K (S_lng A 24 0 0) m) : w_A_greatest r m K := by
  have go : ∀ (q w f : Nat) (x : Int32), w + q = 24 → q < f → K (S_lng A q w x) m → w_A_greatest_4 f r x (nI w) m (fun y2 y3 m4 => K y2 m4) K := by
    intro q
    induction q with
    | zero =>
      intro w f x hw hf hk
      have e : w = 24 := by omega
      subst e
      obtain ⟨f, rfl⟩ : ∃ a, f = a + 1 := ⟨f - 1, by omega⟩
      unfold w_A_greatest_4
      exact ⟨fun _ => hk, fun h => absurd (show (24 : Int32) ≤ nI 24 by decide) h⟩
    | succ q ih =>
      intro w f x hw hf hk
      obtain ⟨f, rfl⟩ : ∃ a, f = a + 1 := ⟨f - 1, by omega⟩
      unfold w_A_greatest_4
      rw [nI_clamp (by omega), hA w (by omega), nA1]
      exact ⟨fun h => absurd ((nI_le24 (by omega)).mp h) (by omega), fun _ => ⟨vp_in_nI (by omega) (by decide), ih (w + 1) f _ (by omega) (by omega) hk⟩⟩
  unfold w_A_greatest
  exact go 24 0 25 0 (by omega) (by omega) hK
