/-! the digest: the reference's part -/
section DGM
variable {m g : Mem} {n : Nat} {K : Int64 → Mem → Prop}
theorem S_way_lo {A : Nat → Int32} {i : Nat} (hi : i < 24) : S_way g n A (nI i) = S_wayL g n A i (S_lat g n A) := by
  have c24 : (nI i < (24 : Int32)) ↔ i < 24 := nI_ltI (b := 24) (by omega) (by decide)
  unfold S_way
  rw [if_neg (nI_pos (by omega)), if_pos (c24.mpr hi), cl_nI (by omega)]
end DGM
section CASES18
variable {j : Nat} {m g : Mem} {n : Nat} {o : Nat → Int64}
theorem s_N_settlesIn {K : Int32 → Mem → Prop} {X : String → Mem → Prop} (hj : j < 512) (h : Iv j m g n) (run : ¬ m 1 6 = 0) (hK : ∀ m', SM m m' → K (S_in g n (m 60)) m') : w_N_settlesIn m K X := by
  have hn := h.1.1
  have hrr := h.2.2.2.2.2.2.1
  have hrw := h.2.2.2.2.2.1
  obtain ⟨k, hk, ek⟩ := h.2.2.2.2.2.2.2.2.2.2.2.2
  unfold w_N_settlesIn w_N_checkRunning
  refine ⟨fun _ => ?_, fun e => absurd e run⟩
  refine s_R_copyFrom hrr fun m2 f2 r2 => ?_
  have i2 := h.same (Nat.le_refl j) (SM.trial f2)
  refine s_R_letCome i2.2.1 (by omega) h.2.2.1 hrw.cpy r2.cpy fun m3 f3 r3 => ?_
  have hK' := hK m3 ((SM.trial f2).trans (SM.trial f3))
  have c16 : m3 23 16 = (m 60) 2 := by rw [f3 23 (by omega), f2 23 (by omega)]; exact hrr.2.2.2.2.2.2.2.2.2.2.2.1
  have c13 : m3 23 13 = (m 60) 0 := by rw [f3 23 (by omega), f2 23 (by omega)]; exact hrr.2.2.2.2.2.2.2.2.1
  have d16 : m3 35 16 = S_pass g n 2147483647 (va_cpy (m 60) (fun _ => 0) 0 0 342) 2 := r3.2.2.2.2.2.2.2.2.2.2.2.1
  have d13 : m3 35 13 = S_pass g n 2147483647 (va_cpy (m 60) (fun _ => 0) 0 0 342) 0 := r3.2.2.2.2.2.2.2.2.1
  have h2 := S_passL_2 (g := g) (u := 2147483647) hn 300 (va_cpy (m 60) (fun _ => 0) 0 0 342)
  rw [cpy342 (by omega), ek, nA1] at h2
  have h2' : S_pass g n 2147483647 (va_cpy (m 60) (fun _ => 0) 0 0 342) 2 = nI k ∨ S_pass g n 2147483647 (va_cpy (m 60) (fun _ => 0) 0 0 342) 2 = nI (k + 1) := h2
  unfold S_in at hK'
  rw [c16, c13, d16, d13]
  refine ⟨fun ne => ?_, fun e => ?_⟩
  · have hle : ¬ S_pass g n 2147483647 (va_cpy (m 60) (fun _ => 0) 0 0 342) 2 ≤ (m 60) 2 := by
      rw [ek] at ne ⊢
      have e' := h2'.resolve_left ne
      rw [e', nI_leI (by omega) (by omega)]; omega
    rw [if_neg hle] at hK'; exact hK'
  · have hle : S_pass g n 2147483647 (va_cpy (m 60) (fun _ => 0) 0 0 342) 2 ≤ (m 60) 2 := by rw [e]; exact Int32.le_refl _
    rw [if_pos hle] at hK'; exact hK'
theorem s_N_digest {K : Int64 → Mem → Prop} {X : String → Mem → Prop} (hj : j < 512) (h : Iv j m g n) (hK : ∀ m', SM m m' → K (S_dig g n (AR g n (g 53)) (m 60) (m 47 11)) m') : w_N_digest m K X := by
  have hn := h.1.1
  have hA := h.2.2.2.2.2.2.2.2.2.2.2.1
  have hF := h.2.2.2.2.2.2.2.2.1
  have hrr := h.2.2.2.2.2.2.1
  obtain ⟨e1, e01⟩ := h.2.2.2.2.2.2.2.1
  have nb : narrow .boolean (.int (m 1 6)) = .int (m 1 6) := by
    rw [e1]
    rcases e01 with e | e <;> rw [e] <;> rfl
  unfold w_N_digest w_N_lines w_N_flaws w_N_longest w_N_isRunning
  refine p_A_greatest hA ⟨nb, ?_⟩
  rw [h.2.1.2.1, hF.1, e1]
  intro J hJ
  suffices hj : ∀ v : Int32, v = m 47 11 → J v m by
    exact ⟨fun e => hj 0 e.symm, fun ne => hj 1 (e01.resolve_left ne).symm⟩
  intro v hv
  refine hJ v m ?_
  refine s_N_dTimes h.2.1 hrr ?_
  refine s_N_dCircuit h.2.1 h.2.2.1 hF hA (AR_okN h.2.2.2.1 hn) ?_
  refine s_N_dWires h.2.1 hrr hA ?_
  refine s_N_dRun h.2.1 hrr h.2.2.2.2.2.1.1 ?_
  subst hv
  unfold S_dig at hK
  refine ⟨fun e => ?_, fun ne => ?_⟩
  · have hK' := hK m (SM.refl m)
    rw [if_pos (e1.symm.trans e)] at hK'
    exact hK'
  · refine s_N_settlesIn hj h ne fun m' s' => ?_
    have hK' := hK m' s'
    rw [if_neg (fun e => ne (e1.trans e))] at hK'
    exact hK'
end CASES18
