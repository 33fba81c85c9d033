/-! cases that let the run go on -/
theorem fin_ok {o3 : Nat → Int64} {r5 thr : Int32} {P : Prop} (ht : thr = 0) (ho : o3 0 = r5.toInt64) (hP : P) : ((thr = (0 : Int32) → ((¬ ((0 : Int32) = 0) → P) ∧ ((0 : Int32) = 0 → ((lg_cmp (o3 0) r5.toInt64 = 0 → P) ∧ (¬ (lg_cmp (o3 0) r5.toInt64 = 0) → False))))) ∧ (¬ (thr = (0 : Int32)) → False)) :=
  ⟨fun _ => ⟨fun _ => hP, fun _ => ⟨fun _ => hP, fun ne => ne (by rw [ho]; exact lg_self _)⟩⟩, fun ne => ne ht⟩
theorem fin_no {o3 : Nat → Int64} {r5 thr c : Int32} {P : Prop} (ht : thr = c) (hc : ¬ c = 0) (hP : P) : ((thr = c → ((¬ (c = 0) → P) ∧ (c = 0 → ((lg_cmp (o3 0) r5.toInt64 = 0 → P) ∧ (¬ (lg_cmp (o3 0) r5.toInt64 = 0) → False))))) ∧ (¬ (thr = c) → False)) :=
  ⟨fun _ => ⟨fun _ => hP, fun e => absurd e hc⟩, fun ne => ne ht⟩
theorem updL_0 {o : Nat → Int64} {v : Int64} : vp_updL o 0 v 0 = v := by simp [vp_updL]
theorem thr_fr {m m1 : Mem} {v : Int32} (h : FR 23 m m1) : FR 23 (up2 m 47 0 v) (up2 m1 47 0 v) := fun i hi => by
  unfold up2
  by_cases e : i = 47
  · subst e; rw [up_same, up_same, h 47 (by omega)]
  · rw [up_ne e, up_ne e]; exact h i hi
theorem thr_rr {m : Mem} {ρ : Rw} {v : Int32} (h : RR 23 m ρ) : RR 23 (up2 m 47 0 v) ρ := by
  unfold RR at h ⊢
  simp (disch := omega) only [up2, up_ne]
  exact h
section CASES3
variable {j : Nat} {m : Mem} {o : Nat → Int64}
end CASES3
