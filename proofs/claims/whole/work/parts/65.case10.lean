/-! cases that set an input, or would -/
/-- the first line that drives w is an input -/
def S_inp (g : Mem) (n w : Nat) : Prop := ¬ S_drv g n w = -1 ∧ g 48 (cl (S_drv g n w)) = -1
theorem CL.inp {m g : Mem} {l : Nat} (h : CL m g l) : m 3 l = 8 ↔ g 48 l = -1 := by
  obtain ⟨-, -, -, -, -, hk⟩ := h
  rcases hk with ⟨e1, e2, -⟩ | ⟨e1, e2, -⟩ | ⟨k, hk, e1, e2, -⟩
  · exact ⟨fun _ => e1, fun _ => e2⟩
  · exact ⟨fun e => absurd (e2.symm.trans e) (by decide), fun e => absurd (e1.symm.trans e) (by decide)⟩
  · exact ⟨fun e => absurd ((nI_eq (b := 8) (by omega) (by decide)).mp (e2.symm.trans e)) (by omega), fun e => absurd (e1.symm.trans e) (nI_m1 (by omega))⟩
theorem MC.fr {m m' g : Mem} {n r : Nat} (hc : MC m g n) (hr : r + 11 < 47) (f : FR r m m') : MC m' g n := by
  unfold MC at hc ⊢
  rw [f 47 (by omega), f 48 (by omega), f 49 (by omega), f 50 (by omega), f 51 (by omega), f 52 (by omega), f 53 (by omega), f 54 (by omega), f 55 (by omega)]
  exact hc
theorem MC.thr {m g : Mem} {n : Nat} {v : Int32} (hc : MC m g n) : MC (up2 m 47 0 v) g n := by
  unfold MC at hc ⊢
  rw [SM.thrown.2.1, up47_ne (by omega), up47_ne (by omega), up47_ne (by omega), up47_ne (by omega), up47_ne (by omega), up47_ne (by omega), up47_ne (by omega), up47_ne (by omega)]
  exact hc
theorem RW.set {g : Mem} {n w : Nat} {v : Int32} {ρ : Rw} (hn : n ≤ 30) (hwf : ∀ l, l < n → WFl g l) (h : RW g n ρ) (hw : w < 24) (hv : isV v) : RW g n (S_set g n w v ρ) := by
  unfold S_set
  split
  · exact h.begin
  · exact h.begin.change hn hwf hw hv
theorem isV01 {v : Int32} (h : v = 0 ∨ v = 1) : isV v := h.imp id Or.inl
section CASES10
variable {j : Nat} {m g : Mem} {n : Nat} {o : Nat → Int64}
theorem s_N_checkSetting {w : Nat} {p2 : Int32} {K : Mem → Prop} {X : String → Mem → Prop} (hcc : CC m g n) (hw : w < 24) (h1 : S_inp g n w → (p2 = 0 ∨ p2 = 1) → K m) (h0 : ¬ (S_inp g n w ∧ (p2 = 0 ∨ p2 = 1)) → X "java/lang/IllegalArgumentException" m) : w_N_checkSetting (nI w) p2 m K X := by
  have hn := hcc.1
  unfold w_N_checkSetting w_C_isFirstDrivenBy
  refine s_C_firstLineOf hcc hw ⟨fun e => ⟨fun ne => absurd rfl ne, fun _ => h0 fun hh => hh.1.1 e⟩, fun ne => ?_⟩
  rcases S_drv_spec (g := g) (n := n) (w := w) with ⟨e, -⟩ | ⟨q, hq, e, -, -⟩
  · exact absurd e ne
  · have hi := (hcc.2.2.1 q hq).inp
    have hs : S_inp g n w ↔ g 48 q = -1 := by
      unfold S_inp
      rw [e, cl_nI (by omega)]
      exact ⟨fun hh => hh.2, fun hh => ⟨nI_m1 (by omega), hh⟩⟩
    rw [e, nI_clamp (by omega)]
    exact ⟨vp_in_nI (by omega) (by decide), fun n8 => ⟨fun ne => absurd rfl ne, fun _ => h0 fun hh => n8 (hi.mpr (hs.mp hh.1))⟩, fun e8 => ⟨fun _ => ⟨fun e0 => h1 (hs.mpr (hi.mp e8)) (Or.inl e0), fun n0 => ⟨fun e1 => h1 (hs.mpr (hi.mp e8)) (Or.inr e1), fun n1 => h0 fun hh => hh.2.elim n0 n1⟩⟩, fun e => absurd e (by decide)⟩⟩
theorem s_M_isInput {w : Nat} {K : Int32 → Mem → Prop} (hc : MC m g n) (h1 : S_inp g n w → K 1 m) (h0 : ¬ S_inp g n w → K 0 m) : w_M_isInput (nI w) m K := by
  have hn := hc.1
  unfold w_M_isInput
  refine p_M_driver hc ⟨fun e => h0 fun hh => hh.1 e, fun ne => p_M_driver hc ?_⟩
  rcases S_drv_spec (g := g) (n := n) (w := w) with ⟨e, -⟩ | ⟨q, hq, e, -, -⟩
  · exact absurd e ne
  · have hs : S_inp g n w ↔ g 48 q = -1 := by
      unfold S_inp
      rw [e, cl_nI (by omega)]
      exact ⟨fun hh => hh.2, fun hh => ⟨nI_m1 (by omega), hh⟩⟩
    rw [e, nI_clamp (by omega), hc.2.2.1]
    exact ⟨vp_in_nI (by omega) (by decide), fun ne => h0 fun hh => ne (hs.mp hh), fun y => h1 (hs.mpr y)⟩
theorem s_M_asked {p1 p2 p3 : Int32} {K : Int32 → Mem → Prop} (hc : MC m g n) (h1 : m 47 11 = 0 → K 1 m) (h2 : ¬ m 47 11 = 0 → ¬ (isW p1 ∧ isW p3) → K 2 m)
    (h3 : ¬ m 47 11 = 0 → ∀ w, w < 24 → p1 = nI w → isW p3 → ¬ (S_inp g n w ∧ (p2 = 0 ∨ p2 = 1)) → K 3 m) (h4 : ¬ m 47 11 = 0 → ∀ w, w < 24 → p1 = nI w → isW p3 → S_inp g n w → (p2 = 0 ∨ p2 = 1) → K 0 m) : w_M_asked p1 p2 p3 m K := by
  unfold w_M_asked
  refine ⟨fun run => ?_, h1⟩
  refine s_M_isWire (fun w hw ep => ⟨fun e => absurd e (by decide), fun _ => ?_⟩) (fun no => ⟨fun _ => h2 run fun hh => no hh.1, fun e => absurd rfl e⟩)
  refine s_M_isWire (fun x hx e3 => ⟨fun _ => ?_, fun e => absurd e (by decide)⟩) (fun no => ⟨fun e => absurd rfl e, fun _ => h2 run fun hh => no hh.2⟩)
  subst ep
  refine s_M_isInput hc (fun inp => ⟨fun e => absurd e (by decide), fun _ => s_isIn (fun a b => ⟨fun e => absurd e (by decide), fun _ => h4 run w hw rfl ⟨x, hx, e3⟩ inp (in01 a b)⟩) (fun hb => ⟨fun _ => h3 run w hw rfl ⟨x, hx, e3⟩ (fun hh => ?_), fun e => absurd rfl e⟩)⟩) (fun no => ⟨fun _ => h3 run w hw rfl ⟨x, hx, e3⟩ (fun hh => no hh.1), fun e => absurd rfl e⟩)
  rcases hh.2 with e | e <;> (rw [e] at hb; exact absurd hb (by decide))
theorem nI_inj24 {a b : Nat} (ha : a < 24) (hb : b < 24) (h : nI a = nI b) : a = b := (nI_eq (by omega) (by omega)).mp h
/-- an exception, of what is asked for an input -/
theorem end_thr {c : Int32} {A : Mem → Prop} (h : Iv j m g n) (hc : ¬ c = 0) : ∀ m3 : Mem, m3 = up2 m 47 0 c → ((¬ (m3 47 0 = 0) → ((m3 47 0 = c → ((¬ (c = 0) → Inv (j + 1) m3) ∧ (c = 0 → ((lg_cmp (o 0) (0 : Int32).toInt64 = 0 → Inv (j + 1) m3) ∧ (¬ (lg_cmp (o 0) (0 : Int32).toInt64 = 0) → False))))) ∧ (¬ (m3 47 0 = c) → False))) ∧ (m3 47 0 = 0 → A m3)) := by
  intro m3 e3
  have t : m3 47 0 = c := by rw [e3]; exact up47_0
  exact ⟨fun _ => fin_no t hc ⟨g, n, h.same (by omega) (by rw [e3]; exact SM.thrown)⟩, fun e => absurd (t.symm.trans e) hc⟩
theorem end_thr' {c : Int32} {A : Mem → Prop} (h : Iv j m g n) (hc : ¬ c = 0) : ∀ m3 : Mem, m3 = up2 m 47 0 c → ((m3 47 0 = 0 → A m3) ∧ (¬ (m3 47 0 = 0) → ((m3 47 0 = c → ((¬ (c = 0) → Inv (j + 1) m3) ∧ (c = 0 → ((lg_cmp (o 0) (0 : Int32).toInt64 = 0 → Inv (j + 1) m3) ∧ (¬ (lg_cmp (o 0) (0 : Int32).toInt64 = 0) → False))))) ∧ (¬ (m3 47 0 = c) → False)))) := fun m3 e3 => ⟨(end_thr (o := o) (A := A) h hc m3 e3).2, (end_thr (o := o) (A := A) h hc m3 e3).1⟩
end CASES10
section CASES10b
variable {j : Nat} {m : Mem} {o : Nat → Int64}
theorem case_13 {p1 p2 : Int32} (h : Inv j m) : wc_13 p1 p2 o m (fun _ m2 => Inv (j + 1) m2) := by
  obtain ⟨g, n, h⟩ := h
  obtain ⟨e1, e2⟩ := h.2.2.2.2.2.2.2.1
  have hn := h.1.1
  have hrr := h.2.2.2.2.2.2.1
  have hrw := h.2.2.2.2.2.1
  have w0 : isW 0 := ⟨0, by decide, rfl⟩
  unfold wc_13 w_L_set w_N_set w_N_checkRunning w_M_set w_M_thrown
  refine ⟨fun run => ?_, fun off => ⟨fun _ => ?_, fun e => absurd e (by decide), fun e => absurd e (by decide), fun ne => absurd rfl ne⟩⟩
  · have run' : ¬ m 47 11 = 0 := by rw [← e1]; exact run
    refine s_N_checkWire (fun w hw ep => ?_) (fun hno => ⟨fun e => absurd e (by decide), fun _ => ?_, fun e => absurd e (by decide), fun _ ne => absurd rfl ne⟩)
    · subst ep
      refine s_N_checkSetting h.2.1 hw (fun inp hv => ?_) (fun no => ⟨fun e => absurd e (by decide), fun e => absurd e (by decide), fun _ => ?_, fun _ _ ne => absurd rfl ne⟩)
      · refine ⟨vp_in_nI hw (by decide), s_R_put h.2.1 (by omega) h.2.2.1 hw (isV01 hv) hrw hrr fun m1 f1 r1 => ?_⟩
        have q11 : m1 47 11 = m 47 11 := by rw [f1 47 (by omega)]
        refine s_M_asked (h.1.fr (by omega) f1) (fun e => absurd (q11.symm.trans e) run') (fun _ no => absurd ⟨⟨w, hw, rfl⟩, w0⟩ no) (fun _ w' hw' ew _ no => ?_) (fun _ w' hw' ew _ _ _ => ?_)
        · have := nI_inj24 hw hw' ew
          subst this
          exact absurd ⟨inp, hv⟩ no
        · intro m3 e3
          refine ⟨fun ne => absurd (by rw [e3]; exact up47_0) ne, fun _ => ?_⟩
          have hM := h.same (Nat.le_refl j) (SM.thrown (v := 0))
          have fM : FR 23 (up2 m 47 0 0) m3 := by rw [e3]; exact thr_fr f1
          have rM : RR 23 m3 (S_set g n w p2 (m 60)) := by rw [e3]; exact thr_rr r1
          have q60 : m3 60 = m 60 := by rw [e3, up47_ne (by omega)]; exact f1 60 (by omega)
          have hfin := hM.run fM rM (hrw.set hn h.2.2.1 hw (isV01 hv)) (Or.inl (by rw [up47_ne (by omega)]; exact S_set_2))
          have hc3 : MC m3 g n := by rw [e3]; exact (h.1.fr (by omega) f1).thr
          have hz : HZ (m3 60) := by rw [q60]; exact hrw.1
          have key := fun (K : Int32 → Mem → Prop) hK => s_M_setNow (m := m3) (ρ := m3 60) (w := w) (v := p2) (K := K) hc3 h.2.2.1 hz hw hK
          simp only [up_self] at key
          refine key _ ?_
          rw [q60]
          refine fin_ok (by rw [up_ne (by omega), e3]; exact up47_0) ?_ ⟨g, n, hfin⟩
          rw [updL_0, nI_clamp (by omega)]
          exact congrArg Int32.toInt64 (hrr.1 w hw)
      · refine s_M_asked h.1 (fun e => absurd e run') (fun _ no2 => absurd ⟨⟨w, hw, rfl⟩, w0⟩ no2) (fun _ _ _ _ _ _ => end_thr h (by decide)) (fun _ w' hw' ew _ inp hv => ?_)
        have := nI_inj24 hw hw' ew
        subst this
        exact absurd ⟨inp, hv⟩ no
    · exact s_M_asked h.1 (fun e => absurd e run') (fun _ _ => end_thr h (by decide)) (fun _ w' hw' ew _ _ => absurd ⟨w', hw', ew⟩ hno) (fun _ w' hw' ew _ _ _ => absurd ⟨w', hw', ew⟩ hno)
  · have off' : m 47 11 = 0 := by rw [← e1]; exact off
    exact s_M_asked h.1 (fun _ => end_thr h (by decide)) (fun ne _ => absurd off' ne) (fun ne _ _ _ _ _ => absurd off' ne) (fun ne _ _ _ _ _ _ => absurd off' ne)
theorem case_22 {p1 p2 p3 : Int32} (h : Inv j m) : wc_22 p1 p2 p3 o m (fun _ m2 => Inv (j + 1) m2) := by
  obtain ⟨g, n, h⟩ := h
  obtain ⟨e1, e2⟩ := h.2.2.2.2.2.2.2.1
  have hn := h.1.1
  have hrr := h.2.2.2.2.2.2.1
  have hrw := h.2.2.2.2.2.1
  unfold wc_22 w_L_wouldBe w_N_wouldBe w_N_checkRunning w_M_wouldBe w_M_thrown
  refine ⟨fun run => ?_, fun off => ⟨fun _ => ?_, fun e => absurd e (by decide), fun e => absurd e (by decide), fun ne => absurd rfl ne⟩⟩
  · have run' : ¬ m 47 11 = 0 := by rw [← e1]; exact run
    refine s_N_checkWire (fun w hw ep => ?_) (fun hno => ⟨fun e => absurd e (by decide), fun _ => ?_, fun e => absurd e (by decide), fun _ ne => absurd rfl ne⟩)
    · subst ep
      refine s_N_checkWire (fun x hx ex => ?_) (fun hno => ⟨fun e => absurd e (by decide), fun _ => ?_, fun e => absurd e (by decide), fun _ ne => absurd rfl ne⟩)
      · refine s_N_checkSetting h.2.1 hw (fun inp hv => ?_) (fun no => ⟨fun e => absurd e (by decide), fun e => absurd e (by decide), fun _ => ?_, fun _ _ ne => absurd rfl ne⟩)
        · refine s_R_copyFrom hrr fun m2 f2 r2 => ?_
          have s2 := SM.trial f2
          refine s_R_put (h.same (Nat.le_refl j) s2).2.1 (by omega) h.2.2.1 hw (isV01 hv) hrw.cpy r2.cpy fun m3 f3 r3 => ?_
          have s3 := s2.trans (SM.trial f3)
          refine s_R_comeToRest (h.same (Nat.le_refl j) s3).2.1 (by omega) h.2.2.1 (hrw.cpy.set hn h.2.2.1 hw (isV01 hv)) r3 fun m4 f4 r4 => ?_
          have s4 := s3.trans (SM.trial f4)
          refine ⟨by rw [ex]; exact vp_in_nI hx (by decide), ?_⟩
          have i4 := h.same (Nat.le_refl j) s4
          refine s_M_asked i4.1 (fun e => absurd (s4.2.2.symm.trans e) run') (fun _ no => absurd ⟨⟨w, hw, rfl⟩, ⟨x, hx, ex⟩⟩ no) (fun _ w' hw' ew _ no => ?_) (fun _ w' hw' ew _ _ _ => ?_)
          · have := nI_inj24 hw hw' ew
            subst this
            exact absurd ⟨inp, hv⟩ no
          · intro m5 e5
            refine ⟨fun _ => ?_, fun ne => absurd (by rw [e5]; exact up47_0) ne⟩
            have s5 : SM m m5 := by rw [e5]; exact s4.trans SM.thrown
            have i5 := h.same (Nat.le_refl j) s5
            have p60 : m5 60 = m 60 := s5.1 60 (by omega)
            intro m6 e6
            unfold w_M_wouldBe_24
            rw [e6, p60]
            refine s_M_setNow i5.1 h.2.2.1 hrw.cpy.1 hw ?_
            refine s_M_settleNow i5.1 h.2.2.1 (S_set_hz hrw.cpy.1) ?_
            refine s_M_val ⟨x, hx, ex⟩ ?_
            intro m7 e7
            rw [va_up_up, ← p60, up_self] at e7
            subst e7
            refine fin_ok (by rw [e5]; exact up47_0) ?_ ⟨g, n, h.same (by omega) s5⟩
            rw [updL_0, ex, nI_clamp (by omega)]
            unfold S_val
            rw [cl_nI (by omega)]
            exact congrArg Int32.toInt64 (r4.1 x hx)
        · refine s_M_asked h.1 (fun e => absurd e run') (fun _ no2 => absurd ⟨⟨w, hw, rfl⟩, ⟨x, hx, ex⟩⟩ no2) (fun _ _ _ _ _ _ => end_thr' h (by decide)) (fun _ w' hw' ew _ inp hv => ?_)
          have := nI_inj24 hw hw' ew
          subst this
          exact absurd ⟨inp, hv⟩ no
      · exact s_M_asked h.1 (fun e => absurd e run') (fun _ _ => end_thr' h (by decide)) (fun _ w' hw' ew h3 _ => absurd h3 hno) (fun _ w' hw' ew h3 _ _ => absurd h3 hno)
    · exact s_M_asked h.1 (fun e => absurd e run') (fun _ _ => end_thr' h (by decide)) (fun _ w' hw' ew _ _ => absurd ⟨w', hw', ew⟩ hno) (fun _ w' hw' ew _ _ _ => absurd ⟨w', hw', ew⟩ hno)
  · have off' : m 47 11 = 0 := by rw [← e1]; exact off
    exact s_M_asked h.1 (fun _ => end_thr' h (by decide)) (fun ne _ => absurd off' ne) (fun ne _ _ _ _ _ => absurd off' ne) (fun ne _ _ _ _ _ _ => absurd off' ne)
theorem case_23 {p1 p2 : Int32} (h : Inv j m) : wc_23 p1 p2 o m (fun _ m2 => Inv (j + 1) m2) := by
  obtain ⟨g, n, h⟩ := h
  obtain ⟨e1, e2⟩ := h.2.2.2.2.2.2.2.1
  have hn := h.1.1
  have hrr := h.2.2.2.2.2.2.1
  have hrw := h.2.2.2.2.2.1
  have w0 : isW 0 := ⟨0, by decide, rfl⟩
  unfold wc_23 w_L_hazardsWith w_N_hazardsWith w_N_checkRunning w_M_hazardsWith w_M_thrown
  refine ⟨fun run => ?_, fun off => ⟨fun _ => ?_, fun e => absurd e (by decide), fun e => absurd e (by decide), fun ne => absurd rfl ne⟩⟩
  · have run' : ¬ m 47 11 = 0 := by rw [← e1]; exact run
    refine s_N_checkWire (fun w hw ep => ?_) (fun hno => ⟨fun e => absurd e (by decide), fun _ => ?_, fun e => absurd e (by decide), fun _ ne => absurd rfl ne⟩)
    · subst ep
      refine s_N_checkSetting h.2.1 hw (fun inp hv => ?_) (fun no => ⟨fun e => absurd e (by decide), fun e => absurd e (by decide), fun _ => ?_, fun _ _ ne => absurd rfl ne⟩)
      · refine s_R_copyFrom hrr fun m2 f2 r2 => ?_
        have s2 := SM.trial f2
        refine s_R_put (h.same (Nat.le_refl j) s2).2.1 (by omega) h.2.2.1 hw (isV01 hv) hrw.cpy r2.cpy fun m3 f3 r3 => ?_
        have s3 := s2.trans (SM.trial f3)
        refine s_R_comeToRest (h.same (Nat.le_refl j) s3).2.1 (by omega) h.2.2.1 (hrw.cpy.set hn h.2.2.1 hw (isV01 hv)) r3 fun m4 f4 r4 => ?_
        have s4 := s3.trans (SM.trial f4)
        have i4 := h.same (Nat.le_refl j) s4
        refine s_M_asked i4.1 (fun e => absurd (s4.2.2.symm.trans e) run') (fun _ no => absurd ⟨⟨w, hw, rfl⟩, w0⟩ no) (fun _ w' hw' ew _ no => ?_) (fun _ w' hw' ew _ _ _ => ?_)
        · have := nI_inj24 hw hw' ew
          subst this
          exact absurd ⟨inp, hv⟩ no
        · intro m5 e5
          refine ⟨fun _ => ?_, fun ne => absurd (by rw [e5]; exact up47_0) ne⟩
          have s5 : SM m m5 := by rw [e5]; exact s4.trans SM.thrown
          have i5 := h.same (Nat.le_refl j) s5
          have p60 : m5 60 = m 60 := s5.1 60 (by omega)
          intro m6 e6
          unfold w_M_hazardsWith_24
          rw [e6, p60]
          refine s_M_setNow i5.1 h.2.2.1 hrw.cpy.1 hw ?_
          refine s_M_settleNow i5.1 h.2.2.1 (S_set_hz hrw.cpy.1) ?_
          intro m7 e7
          rw [va_up_up, ← p60, up_self] at e7
          subst e7
          refine fin_ok (by rw [e5]; exact up47_0) ?_ ⟨g, n, h.same (by omega) s5⟩
          have a1 : m4 35 12 = _ := r4.2.2.2.2.2.2.2.1
          have a2 : m4 23 12 = (m 60) 5 := by rw [s4.1 23 (by omega)]; exact hrr.2.2.2.2.2.2.2.1
          rw [updL_0, a1, a2, up_same, p60]
      · refine s_M_asked h.1 (fun e => absurd e run') (fun _ no2 => absurd ⟨⟨w, hw, rfl⟩, w0⟩ no2) (fun _ _ _ _ _ _ => end_thr' h (by decide)) (fun _ w' hw' ew _ inp hv => ?_)
        have := nI_inj24 hw hw' ew
        subst this
        exact absurd ⟨inp, hv⟩ no
    · exact s_M_asked h.1 (fun e => absurd e run') (fun _ _ => end_thr' h (by decide)) (fun _ w' hw' ew _ _ => absurd ⟨w', hw', ew⟩ hno) (fun _ w' hw' ew _ _ _ => absurd ⟨w', hw', ew⟩ hno)
  · have off' : m 47 11 = 0 := by rw [← e1]; exact off
    exact s_M_asked h.1 (fun _ => end_thr' h (by decide)) (fun ne _ => absurd off' ne) (fun ne _ _ _ _ _ => absurd off' ne) (fun ne _ _ _ _ _ _ => absurd off' ne)
end CASES10b
