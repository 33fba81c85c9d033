/-! cases that let the run go on: pass -/
theorem RR.now {r : Nat} {m g : Mem} {n : Nat} {ρ : Rw} {v : Int32} (h : RR r m ρ) : RR r (up2 m r 13 v) (upd ρ 0 v) := by
  obtain ⟨a0, a1, a2, a3, a4, a5, a6, a7, a8, a9, a10, a11, a12, a13⟩ := h
  refine ⟨?_, ?_, ?_, ?_, ?_, ?_, ?_, ?_, ?_, ?_, ?_, ?_, ?_, ?_⟩
  · intro w hw; simp (disch := omega) only [up2, up_same, up_ne, upd_same, upd_ne]; exact a0 w hw
  · intro w hw; simp (disch := omega) only [up2, up_same, up_ne, upd_same, upd_ne]; exact a1 w hw
  · intro w hw; simp (disch := omega) only [up2, up_same, up_ne, upd_same, upd_ne]; exact a2 w hw
  · intro w hw; simp (disch := omega) only [up2, up_same, up_ne, upd_same, upd_ne]; exact a3 w hw
  · intro w hw; simp (disch := omega) only [up2, up_same, up_ne, upd_same, upd_ne]; exact a4 w hw
  · intro w hw; simp (disch := omega) only [up2, up_same, up_ne, upd_same, upd_ne]; exact a5 w hw
  · intro w hw; simp (disch := omega) only [up2, up_same, up_ne, upd_same, upd_ne]; exact a6 w hw
  · first | (simp (disch := omega) only [up2, up_same, up_ne, upd_same, upd_ne]; exact a7) | (simp (disch := omega) only [up2, up_same, up_ne, upd_same, upd_ne]; rw [a7]) | (simp (disch := omega) only [up2, up_same, up_ne, upd_same, upd_ne]; simp only [*])
  · simp only [up2, up_same, upd_same]
  · first | (simp (disch := omega) only [up2, up_same, up_ne, upd_same, upd_ne]; exact a9) | (simp (disch := omega) only [up2, up_same, up_ne, upd_same, upd_ne]; rw [a9]) | (simp (disch := omega) only [up2, up_same, up_ne, upd_same, upd_ne]; simp only [*])
  · first | (simp (disch := omega) only [up2, up_same, up_ne, upd_same, upd_ne]; exact a10) | (simp (disch := omega) only [up2, up_same, up_ne, upd_same, upd_ne]; rw [a10]) | (simp (disch := omega) only [up2, up_same, up_ne, upd_same, upd_ne]; simp only [*])
  · first | (simp (disch := omega) only [up2, up_same, up_ne, upd_same, upd_ne]; exact a11) | (simp (disch := omega) only [up2, up_same, up_ne, upd_same, upd_ne]; rw [a11]) | (simp (disch := omega) only [up2, up_same, up_ne, upd_same, upd_ne]; simp only [*])
  · first | (simp (disch := omega) only [up2, up_same, up_ne, upd_same, upd_ne]; exact a12) | (simp (disch := omega) only [up2, up_same, up_ne, upd_same, upd_ne]; rw [a12]) | (simp (disch := omega) only [up2, up_same, up_ne, upd_same, upd_ne]; simp only [*])
  · intro q hq; simp (disch := omega) only [up2, up_same, up_ne, upd_same, upd_ne]; exact a13 q hq
theorem RW.now {g : Mem} {n : Nat} {ρ : Rw} {v : Int32} (h : RW g n ρ) : RW g n (upd ρ 0 v) := ⟨upd_hz h.1 (by omega), VR.upd_out h.2.1 (by omega), PN.upd_out h.2.2 (by omega)⟩
theorem s_within {p M : Int32} {m : Mem} {K : Int32 → Mem → Prop} (h1 : ¬ p < 0 → ¬ M < p → K 1 m) (h0 : (p < 0 ∨ M < p) → K 0 m) : w_N_isWithin p M m K := ⟨fun h => h0 (Or.inl h), fun a => ⟨fun h => h0 (Or.inr h), fun b => h1 a b⟩⟩
theorem s_isIn {p L M : Int32} {m : Mem} {K : Int32 → Mem → Prop} (h1 : ¬ p < L → ¬ M < p → K 1 m) (h0 : (p < L ∨ M < p) → K 0 m) : w_M_isIn p L M m K := ⟨fun h => h0 (Or.inl h), fun a => ⟨fun h => h0 (Or.inr h), fun b => h1 a b⟩⟩
section CASES4
variable {j : Nat} {m : Mem} {o : Nat → Int64}
theorem case_14 {p1 : Int32} (h : Inv j m) : wc_14 p1 o m (fun _ m2 => Inv (j + 1) m2) := by
  obtain ⟨g, n, h⟩ := h
  obtain ⟨e1, e2⟩ := h.2.2.2.2.2.2.2.1
  have hn := h.1.1
  have hrr := h.2.2.2.2.2.2.1
  have hrw := h.2.2.2.2.2.1
  have e13 : m 23 13 = (m 60) 0 := hrr.2.2.2.2.2.2.2.2.1
  unfold wc_14 w_L_pass w_N_pass w_N_checkRunning w_M_pass w_M_thrown
  refine ⟨fun run => s_within (fun a b => ⟨fun _ => ?_, fun e => absurd e (by decide)⟩) (fun hb => ⟨fun e => absurd rfl e, fun _ => ⟨fun e => absurd e (by decide), fun _ => ?_, fun _ ne => absurd rfl ne⟩⟩), fun off => ⟨fun _ => ?_, fun e => absurd e (by decide), fun ne => absurd rfl ne⟩⟩
  · rw [e13]
    refine s_R_letCome h.2.1 (by omega) h.2.2.1 hrw hrr fun m1 f1 r1 => ?_
    intro m7 e7
    have f7 : FR 23 m m7 := by rw [e7]; exact f1.trans (FR.up (FR.refl 23 m1) (by omega))
    have r7 : RR 23 m7 (upd (S_pass g n ((m 60) 0 + p1) (m 60)) 0 ((m 60) 0 + p1)) := by rw [e7]; exact r1.now (g := g) (n := n)
    intro m2 em
    have q11 : m2 47 11 = m 47 11 := by rw [em, SM.thrown.2.2, f7 47 (by omega)]
    have q60 : m2 60 = m 60 := by rw [em]; unfold up2; rw [up_ne (by omega)]; exact f7 60 (by omega)
    have hM := h.same (Nat.le_refl j) (SM.thrown (v := 0))
    have fM : FR 23 (up2 m 47 0 0) m2 := by rw [em]; exact thr_fr f7
    have rM := thr_rr (v := 0) r7
    rw [← em] at rM
    have MM : (up2 m 47 0 0) 60 = m 60 := by unfold up2; rw [up_ne (by omega)]
    have hfin := hM.run fM rM (hrw.pass hn h.2.2.1).now (by rw [MM, upd_ne (by omega)]; exact S_passL_2 hn 300 _)
    have hc2 : MC m2 g n := by
      have := hfin.1
      unfold MC at this ⊢
      simp (disch := omega) only [up_ne] at this
      exact this
    have hz : HZ (m2 60) := by rw [q60]; exact hrw.1
    refine ⟨fun _ => s_isIn (fun _ _ => ⟨fun _ => ?_, fun e => absurd e (by decide)⟩) (fun hb => absurd hb (fun hb => hb.elim a b)), fun e => absurd (q11.symm.trans e) (by rw [← e1]; exact run)⟩
    have key := fun (K : Int32 → Mem → Prop) hK => s_M_passTo (m := m2) (ρ := m2 60) (u := (m2 60) 0 + p1) (K := K) hc2 h.2.2.1 hz hK
    simp only [up_self] at key
    refine key _ ?_
    rw [q60]
    intro m8 e8
    have e8' : m8 = va_up m2 60 (upd (S_pass g n ((m 60) 0 + p1) (m 60)) 0 ((m 60) 0 + p1)) := by
      rw [e8]; unfold up2; rw [up_same, va_up_up]
    have t0 : m8 47 0 = 0 := by rw [e8', up_ne (by omega), em]; simp only [up2, up_same, upd_same]
    exact fin_ok t0 updL_0 ⟨g, n, by rw [e8']; exact hfin⟩
  · intro m1 em
    have q11 : m1 47 11 = m 47 11 := by rw [em]; exact SM.thrown.2.2
    refine ⟨fun _ => s_isIn (fun a b => absurd hb (fun hh => hh.elim a b)) (fun _ => ⟨fun e => absurd rfl e, fun _ => ?_⟩), fun e => absurd (q11.symm.trans e) (by rw [← e1]; exact run)⟩
    unfold w_M_no
    intro m3 e3
    have s3 : SM m m3 := by rw [e3, em]; exact SM.thrown.trans SM.thrown
    exact fin_no (by rw [e3]; simp only [up2, up_same, upd_same]) (by decide) ⟨g, n, h.same (by omega) s3⟩
  · intro m1 em
    have q11 : m1 47 11 = 0 := by rw [em, SM.thrown.2.2, ← e1]; exact off
    refine ⟨fun ne => absurd q11 ne, fun _ => ?_⟩
    unfold w_M_no
    intro m3 e3
    have s3 : SM m m3 := by rw [e3, em]; exact SM.thrown.trans SM.thrown
    exact fin_no (by rw [e3]; simp only [up2, up_same, upd_same]) (by decide) ⟨g, n, h.same (by omega) s3⟩
end CASES4
