/-! cases that let the run go on -/
theorem fin_ok {o3 : Nat → Int64} {r5 thr : Int32} {P : Prop} (ht : thr = 0) (ho : o3 0 = r5.toInt64) (hP : P) : ((thr = (0 : Int32) → ((¬ ((0 : Int32) = 0) → P) ∧ ((0 : Int32) = 0 → ((lg_cmp (o3 0) r5.toInt64 = 0 → P) ∧ (¬ (lg_cmp (o3 0) r5.toInt64 = 0) → False))))) ∧ (¬ (thr = (0 : Int32)) → False)) :=
  ⟨fun _ => ⟨fun _ => hP, fun _ => ⟨fun _ => hP, fun ne => ne (by rw [ho]; exact lg_self _)⟩⟩, fun ne => ne ht⟩
theorem fin_no {o3 : Nat → Int64} {r5 thr c : Int32} {P : Prop} (ht : thr = c) (hc : ¬ c = 0) (hP : P) : ((thr = c → ((¬ (c = 0) → P) ∧ (c = 0 → ((lg_cmp (o3 0) r5.toInt64 = 0 → P) ∧ (¬ (lg_cmp (o3 0) r5.toInt64 = 0) → False))))) ∧ (¬ (thr = c) → False)) :=
  ⟨fun _ => ⟨fun _ => hP, fun e => absurd e hc⟩, fun ne => ne ht⟩
theorem updL_0 {o : Nat → Int64} {v : Int64} : vp_updL o 0 v 0 = v := by simp [vp_updL]
theorem thr_fr {m m1 : Mem} {v : Int32} (h : FR 23 m m1) : FR 23 (up2 m 47 0 v) (up2 m1 47 0 v) := fun i hi => by
  unfold up2
  by_cases e : i = 47
  · subst e; rw [up_same, up_same, h 47 (by omega)]
  · rw [up_ne e, up_ne e]; exact h i hi
theorem thr_rr {m : Mem} {ρ : Rw} {v : Int32} (h : RR 23 m ρ) : RR 23 (up2 m 47 0 v) ρ := by
  unfold RR at h ⊢
  simp (disch := omega) only [up2, up_ne]
  exact h
section CASES3
variable {j : Nat} {m : Mem} {o : Nat → Int64}
theorem case_15 (h : Inv j m) : wc_15 o m (fun _ m2 => Inv (j + 1) m2) := by
  obtain ⟨g, n, h⟩ := h
  obtain ⟨e1, e2⟩ := h.2.2.2.2.2.2.2.1
  have hn := h.1.1
  unfold wc_15 w_L_settle w_N_settle w_N_checkRunning w_M_settle w_M_thrown
  refine ⟨fun run => ?_, fun off => ⟨fun _ => ?_, fun ne => absurd rfl ne⟩⟩
  · refine s_R_comeToRest h.2.1 (by omega) h.2.2.1 h.2.2.2.2.2.1 h.2.2.2.2.2.2.1 fun m1 f1 r1 => ?_
    intro m2 em
    have q11 : m2 47 11 = m 47 11 := by rw [em, SM.thrown.2.2, f1 47 (by omega)]
    have q60 : m2 60 = m 60 := by rw [em]; unfold up2; rw [up_ne (by omega)]; exact f1 60 (by omega)
    have hM := h.same (Nat.le_refl j) (SM.thrown (v := 0))
    have fM : FR 23 (up2 m 47 0 0) m2 := by rw [em]; exact thr_fr f1
    have rM : RR 23 m2 (S_settle g n (m 60)) := by rw [em]; exact thr_rr r1
    have MM : (up2 m 47 0 0) 60 = m 60 := by unfold up2; rw [up_ne (by omega)]
    have hfin := hM.run fM rM (h.2.2.2.2.2.1.settle hn h.2.2.1) (by rw [MM]; exact S_settle_2 hn)
    have hc2 : MC m2 g n := by
      have := hfin.1
      unfold MC at this ⊢
      simp (disch := omega) only [up_ne] at this
      exact this
    refine ⟨fun e => absurd (q11.symm.trans e) (by rw [← e1]; exact run), fun _ => ?_⟩
    have hz : HZ (m2 60) := by rw [q60]; exact h.2.2.2.2.2.1.1
    have key := s_M_settleNow (m := m2) (ρ := m2 60) (K := fun r5 m4 => ((m4 47 0 = (0 : Int32) → ((¬ ((0 : Int32) = 0) → Inv (j + 1) m4) ∧ ((0 : Int32) = 0 → (((lg_cmp ((vp_updL o 0 (S_pass g n 2147483647 (m 60) 3 - (m 60) 3).toInt64) 0) r5.toInt64) = 0 → Inv (j + 1) m4) ∧ (¬ ((lg_cmp ((vp_updL o 0 (S_pass g n 2147483647 (m 60) 3 - (m 60) 3).toInt64) 0) r5.toInt64) = 0) → False))))) ∧ (¬ (m4 47 0 = (0 : Int32)) → False))) hc2 h.2.2.1 hz ?_
    · rw [up_self] at key; exact key
    · rw [q60]
      refine fin_ok ?_ updL_0 ⟨g, n, hfin⟩
      rw [up_ne (by omega), em]; simp only [up2, up_same, upd_same]
  · intro m1 em
    have q11 : m1 47 11 = 0 := by rw [em, SM.thrown.2.2, ← e1]; exact off
    refine ⟨fun _ => ?_, fun ne => absurd q11 ne⟩
    unfold w_M_no
    intro m3 e3
    have s3 : SM m m3 := by rw [e3, em]; exact SM.thrown.trans SM.thrown
    exact fin_no (by rw [e3]; simp only [up2, up_same, upd_same]) (by decide) ⟨g, n, h.same (by omega) s3⟩
end CASES3
