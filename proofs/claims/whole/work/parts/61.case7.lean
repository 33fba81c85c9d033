/-! the trial: the row copied -/
theorem cpy342 {ρ : Rw} {i : Nat} (h : i < 342) : va_cpy ρ (fun _ => 0) 0 0 342 i = ρ i := cpy_in h
theorem RR.cpy {r : Nat} {m : Mem} {ρ : Rw} (h : RR r m ρ) : RR r m (va_cpy ρ (fun _ => 0) 0 0 342) := by
  obtain ⟨a0, a1, a2, a3, a4, a5, a6, a7, a8, a9, a10, a11, a12, a13⟩ := h
  refine ⟨fun w hw => ?_, fun w hw => ?_, fun w hw => ?_, fun w hw => ?_, fun l hl => ?_, fun l hl hp => ?_, fun l hl => ?_, ?_, ?_, ?_, ?_, ?_, ?_, fun q hq hlt => ?_⟩
  · rw [cpy342 (by omega)]; exact a0 w hw
  · rw [cpy342 (by omega)]; exact a1 w hw
  · rw [cpy342 (by omega)]; exact a2 w hw
  · rw [cpy342 (by omega)]; exact a3 w hw
  · rw [cpy342 (by omega)]; exact a4 l hl
  · rw [cpy342 (by omega)] at hp; rw [cpy342 (by omega), cpy342 (by omega)]; exact a5 l hl hp
  · rw [cpy342 (by omega)]; exact a6 l hl
  · rw [cpy342 (by omega)]; exact a7
  · rw [cpy342 (by omega)]; exact a8
  · rw [cpy342 (by omega)]; exact a9
  · rw [cpy342 (by omega)]; exact a10
  · rw [cpy342 (by omega)]; exact a11
  · rw [cpy342 (by omega)]; exact a12
  · rw [cpy342 (by omega)] at hlt; rw [cpy342 (by omega), cpy342 (by omega), cpy342 (by omega)]; exact a13 q hq hlt
theorem RW.cpy {g : Mem} {n : Nat} {ρ : Rw} (h : RW g n ρ) : RW g n (va_cpy ρ (fun _ => 0) 0 0 342) := by
  obtain ⟨⟨k, h1, h2⟩, ⟨h3, h4⟩, h5⟩ := h
  refine ⟨⟨k, h1, by rw [cpy342 (by omega)]; exact h2⟩, ⟨fun w hw => by rw [cpy342 (by omega)]; exact h3 w hw, fun l hl => by rw [cpy342 (by omega)]; exact h4 l hl⟩, fun l a b => by rw [cpy342 (by omega)]; exact h5 l a b⟩
theorem SM.trial {m m' : Mem} (h : FR 35 m m') : SM m m' := ⟨fun i hi => h i (by omega), by rw [h 47 (by omega)], by rw [h 47 (by omega)]⟩
section CASES8
variable {j : Nat} {m : Mem} {o : Nat → Int64}
theorem case_24 (hj : j < 512) (h : Inv j m) : wc_24 o m (fun _ m2 => Inv (j + 1) m2) := by
  obtain ⟨g, n, h⟩ := h
  obtain ⟨e1, e2⟩ := h.2.2.2.2.2.2.2.1
  have hn := h.1.1
  have hrr := h.2.2.2.2.2.2.1
  have hrw := h.2.2.2.2.2.1
  obtain ⟨k, hk, ek⟩ := h.2.2.2.2.2.2.2.2.2.2.2.2
  unfold wc_24 w_L_settlesIn w_N_settlesIn w_N_checkRunning w_M_settlesIn w_M_thrown
  refine ⟨fun run => ?_, fun off => ⟨fun _ => ?_, fun ne => absurd rfl ne⟩⟩
  · refine s_R_copyFrom hrr fun m2 f2 r2 => ?_
    have i2 := h.same (Nat.le_refl j) (SM.trial f2)
    refine s_R_letCome i2.2.1 (by omega) h.2.2.1 hrw.cpy r2.cpy fun m3 f3 r3 => ?_
    have i3 := h.same (Nat.le_refl j) ((SM.trial f2).trans (SM.trial f3))
    have q60 : m3 60 = m 60 := by rw [f3 60 (by omega), f2 60 (by omega)]
    have c16 : m3 23 16 = (m 60) 2 := by rw [f3 23 (by omega), f2 23 (by omega)]; exact hrr.2.2.2.2.2.2.2.2.2.2.2.1
    have c13 : m3 23 13 = (m 60) 0 := by rw [f3 23 (by omega), f2 23 (by omega)]; exact hrr.2.2.2.2.2.2.2.2.1
    have d16 : m3 35 16 = S_pass g n 2147483647 (va_cpy (m 60) (fun _ => 0) 0 0 342) 2 := r3.2.2.2.2.2.2.2.2.2.2.2.1
    have d13 : m3 35 13 = S_pass g n 2147483647 (va_cpy (m 60) (fun _ => 0) 0 0 342) 0 := r3.2.2.2.2.2.2.2.2.1
    have h2 := S_passL_2 (g := g) (u := 2147483647) hn 300 (va_cpy (m 60) (fun _ => 0) 0 0 342)
    rw [cpy342 (by omega), ek, nA1] at h2
    have h2' : S_pass g n 2147483647 (va_cpy (m 60) (fun _ => 0) 0 0 342) 2 = nI k ∨ S_pass g n 2147483647 (va_cpy (m 60) (fun _ => 0) 0 0 342) 2 = nI (k + 1) := h2
    -- the reference's part, for any answer of the class that is the same
    have model : ∀ v : Int32, v = (if S_pass g n 2147483647 (va_cpy (m 60) (fun _ => 0) 0 0 342) 2 ≤ (m 60) 2 then S_pass g n 2147483647 (va_cpy (m 60) (fun _ => 0) 0 0 342) 0 - (m 60) 0 else -1) →
        ∀ (K : Int32 → Mem → Prop), (∀ M, SM m M → M 47 0 = 0 → K v M) → (∀ m1 : Mem, m1 = up2 m3 47 0 (0 : Int32) → (((m1 47 11) = 0 → w_M_no (1 : Int32) m1 (fun r4 m3 => K r4 m3)) ∧ (¬ ((m1 47 11) = 0) → w_M_settlesNow m1 (fun r6 m5 => K r6 m5)))) := by
      intro v hv K hK m1 em
      have i1 := i3.same (Nat.le_refl j) (SM.thrown (v := 0))
      rw [← em] at i1
      have s1 : SM m m1 := by rw [em]; exact ((SM.trial f2).trans (SM.trial f3)).trans SM.thrown
      have p60 : m1 60 = m 60 := s1.1 60 (by omega)
      refine ⟨fun e => absurd (s1.2.2.symm.trans e) (by rw [← e1]; exact run), fun _ => ?_⟩
      unfold w_M_settlesNow
      intro mm emm
      unfold w_M_settlesNow_4
      rw [emm, p60]
      refine s_M_passTo i1.1 h.2.2.1 hrw.cpy.1 ?_
      have t0 : ∀ X : Rw, (va_up m1 60 X) 47 0 = 0 := fun X => by rw [up_ne (by omega), em]; simp only [up2, up_same, upd_same]
      have back : ∀ X : Rw, va_up (va_up m1 60 X) 60 (m 60) = m1 := fun X => by rw [va_up_up, ← p60, up_self]
      rw [up_same]
      refine ⟨fun hle => ?_, fun hle => ?_⟩
      · intro m4 e4
        rw [back] at e4
        rw [if_pos hle] at hv
        rw [← hv, e4]
        exact hK m1 s1 (by rw [em]; simp only [up2, up_same, upd_same])
      · intro m4 e4
        rw [back] at e4
        rw [if_neg hle] at hv
        rw [← hv, e4]
        exact hK m1 s1 (by rw [em]; simp only [up2, up_same, upd_same])
    rw [c16, c13, d16, d13]
    refine ⟨fun ne => ?_, fun e => ?_⟩
    · have hle : ¬ S_pass g n 2147483647 (va_cpy (m 60) (fun _ => 0) 0 0 342) 2 ≤ (m 60) 2 := by
        rw [ek] at ne ⊢
        have e' := h2'.resolve_left ne
        rw [e', nI_leI (by omega) (by omega)]; omega
      exact model (-1) (by rw [if_neg hle]) _ fun M sM tM => fin_ok tM updL_0 ⟨g, n, h.same (by omega) sM⟩
    · have hle : S_pass g n 2147483647 (va_cpy (m 60) (fun _ => 0) 0 0 342) 2 ≤ (m 60) 2 := by rw [e]; exact Int32.le_refl _
      exact model _ (by rw [if_pos hle]) _ fun M sM tM => fin_ok tM updL_0 ⟨g, n, h.same (by omega) sM⟩
  · intro m1 em
    have q11 : m1 47 11 = 0 := by rw [em, SM.thrown.2.2, ← e1]; exact off
    refine ⟨fun _ => ?_, fun ne => absurd q11 ne⟩
    unfold w_M_no
    intro m3 e3
    have s3 : SM m m3 := by rw [e3, em]; exact SM.thrown.trans SM.thrown
    exact fin_no (by rw [e3]; simp only [up2, up_same, upd_same]) (by decide) ⟨g, n, h.same (by omega) s3⟩
end CASES8
