/-! cases that set a window or a delay, or would -/
theorem nI_m2 {k : Nat} (hk : k < 2 ^ 31) : ¬ nI k = (-2 : Int32) := by
  intro e
  exact nI_pos hk (by rw [e]; decide)
theorem CL.reg2 {m g : Mem} {l : Nat} (h : CL m g l) : m 3 l = 9 ↔ g 48 l = -2 := by
  obtain ⟨-, -, -, -, -, hk⟩ := h
  rcases hk with ⟨e1, e2, -⟩ | ⟨e1, e2, -⟩ | ⟨k, hk, e1, e2, -⟩
  · exact ⟨fun e => absurd (e2.symm.trans e) (by decide), fun e => absurd (e1.symm.trans e) (by decide)⟩
  · exact ⟨fun _ => e1, fun _ => e2⟩
  · exact ⟨fun e => absurd ((nI_eq (b := 9) (by omega) (by decide)).mp (e2.symm.trans e)) (by omega), fun e => absurd (e1.symm.trans e) (nI_m2 (by omega))⟩
theorem MC.out {m m' g : Mem} {n : Nat} (hc : MC m g n) (f : ∀ i, 47 ≤ i → i ≤ 55 → m' i = m i) : MC m' g n := by
  unfold MC at hc ⊢
  rw [f 47 (by omega) (by omega), f 48 (by omega) (by omega), f 49 (by omega) (by omega), f 50 (by omega) (by omega), f 51 (by omega) (by omega), f 52 (by omega) (by omega), f 53 (by omega) (by omega), f 54 (by omega) (by omega), f 55 (by omega) (by omega)]
  exact hc
theorem up2_ne {m : Mem} {i l q : Nat} {v : Int32} (h : q ≠ i) : (up2 m i l v) q = m q := by
  unfold up2
  exact up_ne h
theorem up2_at {m : Mem} {i l : Nat} {v : Int32} (x : Nat) : (up2 m i l v) i x = if x = l then v else m i x := by
  unfold up2
  rw [up_same]
  by_cases h : x = l
  · subst h; rw [upd_same, if_pos rfl]
  · rw [upd_ne h, if_neg h]
theorem up2_back {m : Mem} {i l : Nat} {v : Int32} : up2 (up2 m i l v) i l (m i l) = m := by
  funext q
  by_cases h : q = i
  · subst h
    funext x
    rw [up2_at, up2_at]
    by_cases hx : x = l
    · rw [if_pos hx, hx]
    · rw [if_neg hx, if_neg hx]
  · rw [up2_ne h, up2_ne h]
/-- delays or windows have changed -/
theorem Iv.par {j n : Nat} {m m' g g' : Mem} (h : Iv j m g n) (hG : GS g g') (hM : MC m' g' n) (h8 : ∀ l, l < n → m' 8 l = g' 53 l) (h910 : ∀ l, l < 30 → m' 9 l = g' 54 l ∧ m' 10 l = g' 55 l)
    (hd : ∀ l, l < n → ∃ d : Nat, d ≤ 20 ∧ g' 53 l = nI d) (h0 : ∀ l, l < n → g 48 l = -1 → g' 53 l = 0) (hs : ∀ i, ((1 ≤ i ∧ i ≤ 7) ∨ (11 ≤ i ∧ i ≤ 17) ∨ (23 ≤ i ∧ i ≤ 34) ∨ i = 60) → m' i = m i) (h11 : m' 47 11 = m 47 11)
    (h20 : ∀ w, w < 24 → m' 20 w = AR g' n (g' 53) w) : Iv (j + 1) m' g' n := by
  obtain ⟨a1, a2, a3, a4, a5, a6, a7, a8, a9, a10, a11, a12, k, a13, a14⟩ := h
  have hn := a1.1
  refine ⟨hM, hG.cc a2 (fun i b1 b2 b3 b4 b5 => hs i (by omega)) h8 (fun l hl => (h910 l (by omega)).1) (fun l hl => (h910 l (by omega)).2), fun l hl => hG.wfl (h0 l hl) (a3 l hl), hd, h910, ?_, ?_, ?_, ?_, ?_, ?_, h20, k, by omega, ?_⟩
  · rw [hs 60 (by omega)]; exact a6
  · rw [hs 60 (by omega)]
    unfold RR at a7 ⊢
    rw [hs 23 (by omega), hs (23 + 1) (by omega), hs (23 + 2) (by omega), hs (23 + 3) (by omega), hs (23 + 4) (by omega), hs (23 + 5) (by omega), hs (23 + 6) (by omega), hs (23 + 7) (by omega), hs (23 + 8) (by omega), hs (23 + 9) (by omega), hs (23 + 10) (by omega), hs (23 + 11) (by omega)]
    exact a7
  · rw [h11, hs 1 (by omega)]; exact a8
  · rw [hG.fl]
    unfold CF at a9 ⊢
    rw [hs 14 (by omega), hs 15 (by omega), hs 16 (by omega)]; exact a9
  · refine hG.ci (fun q hq => ?_)
    rw [hs 17 (by omega)]; exact a10 q hq
  · rw [hG.flw, hs 14 (by omega)]; exact a11
  · rw [hs 60 (by omega)]; exact a14
section CASES11
variable {j : Nat} {m : Mem} {o : Nat → Int64}
theorem case_3 {p1 p2 p3 : Int32} (h : Inv j m) : wc_3 p1 p2 p3 o m (fun _ m2 => Inv (j + 1) m2) := by
  obtain ⟨g, n, h⟩ := h
  have hn := h.1.1
  have c1 : MC (up2 m 47 0 0) g n := h.1.thr
  unfold wc_3 w_L_setWindow w_N_setWindow w_M_setWindow w_M_thrown
  refine s_N_checkLine h.2.1 (fun l hl ep => ?_) (fun hno => ⟨fun _ => ?_, fun e => absurd e (by decide), fun ne => absurd rfl ne⟩)
  · subst ep
    have hi := (h.2.1.2.2.1 l hl).reg2
    have vp : vp_in (nI l) 30 := vp_in_nI (by omega) (by decide)
    rw [nI_clamp (by omega)]
    refine ⟨vp, fun e9 => s_within (fun a b => ⟨fun e => absurd e (by decide), fun _ => s_within (fun a2 b2 => ⟨fun _ => ?_, fun e => absurd e (by decide)⟩) (fun hb => ⟨fun e => absurd rfl e, fun _ => ⟨fun e => absurd e (by decide), fun _ => ?_, fun _ ne => absurd rfl ne⟩⟩)⟩) (fun hb => ⟨fun _ => ⟨fun e => absurd e (by decide), fun _ => ?_, fun _ ne => absurd rfl ne⟩, fun e => absurd rfl e⟩), fun n9 => ⟨fun e => absurd e (by decide), fun _ => ?_, fun _ ne => absurd rfl ne⟩⟩
    · refine ⟨vp, vp, fun m9 q9 => ⟨vp, fun m10 q10 => ?_⟩⟩
      intro m1 em
      have cm : MC m1 g n := by
        rw [em]
        refine (h.1.out fun i b1 b2 => ?_).thr
        rw [q10, q9, up2_ne (by omega), up2_ne (by omega)]
      have e48 : m1 48 = g 48 := cm.2.2.1
      have k2 : m1 48 l = -2 := by rw [e48]; exact hi.mp e9
      refine s_M_isLine cm (fun _ _ _ => ⟨fun _ => ⟨vp, fun n2 => absurd k2 n2, fun _ => s_isIn (fun _ _ => ⟨fun e => absurd e (by decide), fun _ => s_isIn (fun _ _ => ⟨fun _ => ?_, fun e => absurd e (by decide)⟩) (fun hb => absurd hb (fun hb => hb.elim a2 b2))⟩) (fun hb => absurd hb (fun hb => hb.elim a b))⟩, fun e => absurd e (by decide)⟩) (fun hno => absurd rfl (hno l hl))
      refine ⟨vp, vp, fun m16 q16 => ⟨vp, fun m17 q17 => ?_⟩⟩
      have hm1 : ∀ i, i ≠ 9 → i ≠ 10 → i ≠ 47 → m1 i = m i := fun i b1 b2 b3 => by rw [em, up2_ne b3, q10, up2_ne b2, q9, up2_ne b1]
      have hm : ∀ i, i ≠ 9 → i ≠ 10 → i ≠ 47 → i ≠ 54 → i ≠ 55 → m17 i = m i := fun i b1 b2 b3 b4 b5 => by rw [q17, up2_ne b5, q16, up2_ne b4]; exact hm1 i b1 b2 b3
      have h47 : m17 47 = (up2 m 47 0 0) 47 := by rw [q17, up2_ne (by omega), q16, up2_ne (by omega), em, q10, q9]; rfl
      have hG : GS g (up2 (up2 g 54 l p2) 55 l p3) := (GS.up (by omega)).trans (GS.up (by omega))
      have g53 : (up2 (up2 g 54 l p2) 55 l p3) 53 = g 53 := by rw [up2_ne (by omega), up2_ne (by omega)]
      have hfin : Iv (j + 1) m17 (up2 (up2 g 54 l p2) 55 l p3) n := by
        refine h.par hG ?_ (fun q hq => ?_) (fun q hq => ?_) (fun q hq => ?_) (fun q hq e => ?_) (fun i hi => hm i (by omega) (by omega) (by omega) (by omega) (by omega)) ?_ (fun w hw => ?_)
        · obtain ⟨b1, b2, b3, b4, b5, b6, b7, b8, b9, b10⟩ := cm
          refine ⟨hn, ?_, ?_, ?_, ?_, ?_, ?_, ?_, ?_, ?_⟩
          · rw [h47]; exact c1.2.1
          · rw [q17, up2_ne (by omega), q16, up2_ne (by omega), up2_ne (by omega), up2_ne (by omega)]; exact b3
          · rw [q17, up2_ne (by omega), q16, up2_ne (by omega), up2_ne (by omega), up2_ne (by omega)]; exact b4
          · rw [q17, up2_ne (by omega), q16, up2_ne (by omega), up2_ne (by omega), up2_ne (by omega)]; exact b5
          · rw [q17, up2_ne (by omega), q16, up2_ne (by omega), up2_ne (by omega), up2_ne (by omega)]; exact b6
          · rw [q17, up2_ne (by omega), q16, up2_ne (by omega), up2_ne (by omega), up2_ne (by omega)]; exact b7
          · rw [q17, up2_ne (by omega), q16, up2_ne (by omega), up2_ne (by omega), up2_ne (by omega)]; exact b8
          · funext x
            rw [q17, up2_ne (by omega), q16, up2_at, up2_ne (by omega), up2_at, b9]
          · funext x
            rw [q17, q16, up2_at, up2_at, up2_ne (by omega), up2_ne (by omega), b10]
        · rw [g53, hm 8 (by omega) (by omega) (by omega) (by omega) (by omega)]; exact (h.2.1.2.2.1 q hq).2.2.1
        · have a5 := h.2.2.2.2.1 q hq
          constructor
          · rw [q17, up2_ne (by omega), q16, up2_ne (by omega), em, up2_ne (by omega), q10, up2_ne (by omega), q9, up2_at, up2_ne (by omega), up2_at, a5.1]
          · rw [q17, up2_ne (by omega), q16, up2_ne (by omega), em, up2_ne (by omega), q10, up2_at, q9, up2_ne (by omega), up2_at, up2_ne (by omega), a5.2]
        · rw [g53]; exact h.2.2.2.1 q hq
        · rw [g53]
          rcases (h.2.2.1 q hq).2 with hh | hh | ⟨k, hk, hh, -⟩
          · exact hh.2.2.2.2
          · exact absurd (e.symm.trans hh.1) (by decide)
          · exact absurd (hh.symm.trans e) (nI_m1 (by omega))
        · rw [h47]; exact SM.thrown.2.2
        · rw [g53, hm 20 (by omega) (by omega) (by omega) (by omega) (by omega), hG.ar hn (dl := g 53) (fun l hl => rfl)]
          exact h.2.2.2.2.2.2.2.2.2.2.2.1 w hw
      refine fin_ok (by rw [h47]; exact up47_0) ?_ ⟨_, n, hfin⟩
      rw [updL_0, hm1 54 (by omega) (by omega) (by omega), h.1.2.2.2.2.2.2.2.2.1]
      exact congrArg Int32.toInt64 (h.2.2.2.2.1 l (by omega)).1
    · intro m1 em
      subst em
      refine s_M_isLine c1 (fun _ _ _ => ⟨fun _ => ⟨vp, fun n2 => end_no h SM.thrown (by decide), fun _ => s_isIn (fun _ _ => ⟨fun e => absurd e (by decide), fun _ => s_isIn (fun a2 b2 => absurd hb (fun hb => hb.elim a2 b2)) (fun hb => ⟨fun e => absurd rfl e, fun _ => end_no h SM.thrown (by decide)⟩)⟩) (fun hb => absurd hb (fun hb => hb.elim a b))⟩, fun e => absurd e (by decide)⟩) (fun hno => absurd rfl (hno l hl))
    · intro m1 em
      subst em
      refine s_M_isLine c1 (fun _ _ _ => ⟨fun _ => ⟨vp, fun n2 => end_no h SM.thrown (by decide), fun _ => s_isIn (fun a b => absurd hb (fun hb => hb.elim a b)) (fun hb => ⟨fun _ => end_no h SM.thrown (by decide), fun e => absurd rfl e⟩)⟩, fun e => absurd e (by decide)⟩) (fun hno => absurd rfl (hno l hl))
    · intro m1 em
      subst em
      refine s_M_isLine c1 (fun _ _ _ => ⟨fun _ => ⟨vp, fun n2 => end_no h SM.thrown (by decide), fun e2 => absurd (hi.mpr ?_) n9⟩, fun e => absurd e (by decide)⟩) (fun hno => absurd rfl (hno l hl))
      rw [c1.2.2.1] at e2
      exact e2
  · intro m1 em
    subst em
    exact s_M_isLine c1 (fun l hl ep => absurd ep (hno l hl)) (fun _ => ⟨fun e => absurd rfl e, fun _ => end_no h SM.thrown (by decide)⟩)
theorem up53_ok {g : Mem} {n l d : Nat} {p2 : Int32} (hd : ∀ q, q < n → ∃ d : Nat, d ≤ 20 ∧ g 53 q = nI d) (hd20 : d ≤ 20) (ep : p2 = nI d) : ∀ q, q < n → ∃ d : Nat, d ≤ 20 ∧ (up2 g 53 l p2) 53 q = nI d := by
  intro q hq
  rw [up2_at]
  by_cases h : q = l
  · rw [if_pos h]; exact ⟨d, hd20, ep⟩
  · rw [if_neg h]; exact hd q hq
theorem MC.up53 {m m' g : Mem} {n l : Nat} {v : Int32} (hc : MC m g n) (e : m' = up2 m 53 l v) : MC m' (up2 g 53 l v) n := by
  obtain ⟨b1, b2, b3, b4, b5, b6, b7, b8, b9, b10⟩ := hc
  subst e
  refine ⟨b1, ?_, ?_, ?_, ?_, ?_, ?_, ?_, ?_, ?_⟩
  · rw [up2_ne (by omega)]; exact b2
  · rw [up2_ne (by omega), up2_ne (by omega)]; exact b3
  · rw [up2_ne (by omega), up2_ne (by omega)]; exact b4
  · rw [up2_ne (by omega), up2_ne (by omega)]; exact b5
  · rw [up2_ne (by omega), up2_ne (by omega)]; exact b6
  · rw [up2_ne (by omega), up2_ne (by omega)]; exact b7
  · funext x
    rw [up2_at, up2_at, b8]
  · rw [up2_ne (by omega), up2_ne (by omega)]; exact b9
  · rw [up2_ne (by omega), up2_ne (by omega)]; exact b10
theorem case_4 {p1 p2 : Int32} (h : Inv j m) : wc_4 p1 p2 o m (fun _ m2 => Inv (j + 1) m2) := by
  obtain ⟨g, n, h⟩ := h
  have hn := h.1.1
  have c1 : MC (up2 m 47 0 0) g n := h.1.thr
  unfold wc_4 w_L_setDelay w_N_setDelay w_N_checkHasDelay w_N_checkDelay w_M_setDelay w_M_thrown
  refine s_N_checkLine h.2.1 (fun l hl ep => ?_) (fun hno => ⟨fun _ => ?_, fun e => absurd e (by decide), fun ne => absurd rfl ne⟩)
  · subst ep
    have hi := (h.2.1.2.2.1 l hl).inp
    have vp : vp_in (nI l) 30 := vp_in_nI (by omega) (by decide)
    rw [nI_clamp (by omega)]
    refine ⟨vp, fun n8 => s_within (fun a b => ⟨fun _ => ?_, fun e => absurd e (by decide)⟩) (fun hb => ⟨fun e => absurd rfl e, fun _ => ⟨fun e => absurd e (by decide), fun _ => ?_, fun _ ne => absurd rfl ne⟩⟩), fun e8 => ⟨fun e => absurd e (by decide), fun _ => ?_, fun _ ne => absurd rfl ne⟩⟩
    · obtain ⟨d, hd20, ed⟩ := in0k (n := 20) rfl (by decide) a b
      refine ⟨vp, vp, fun m4 q4 => ?_⟩
      have hG : GS g (up2 g 53 l p2) := GS.up (by omega)
      have hnk : ¬ g 48 l = -1 := fun e => n8 (hi.mpr e)
      have h0 : ∀ q, q < n → g 48 q = -1 → (up2 g 53 l p2) 53 q = 0 := by
        intro q hq e
        have hne : ¬ q = l := fun e2 => hnk (by rw [← e2]; exact e)
        rw [up2_at, if_neg hne]
        rcases (h.2.2.1 q hq).2 with hh | hh | ⟨k, hk, hh, -⟩
        · exact hh.2.2.2.2
        · exact absurd (e.symm.trans hh.1) (by decide)
        · exact absurd (hh.symm.trans e) (nI_m1 (by omega))
      have hd' := up53_ok (l := l) h.2.2.2.1 hd20 ed
      have hwf' : ∀ q, q < n → WFl (up2 g 53 l p2) q := fun q hq => hG.wfl (h0 q hq) (h.2.2.1 q hq)
      have h8 : ∀ q, q < n → m4 8 q = (up2 g 53 l p2) 53 q := fun q hq => by rw [q4, up2_at, up2_at, (h.2.1.2.2.1 q hq).2.2.1]
      have cc4 : CC m4 (up2 g 53 l p2) n := by
        refine hG.cc h.2.1 (fun i b1 b2 b3 b4 b5 => by rw [q4, up2_ne b3]) h8 (fun q hq => ?_) (fun q hq => ?_)
        · rw [q4, up2_ne (by omega), up2_ne (by omega)]; exact (h.2.2.2.2.1 q (by omega)).1
        · rw [q4, up2_ne (by omega), up2_ne (by omega)]; exact (h.2.2.2.2.1 q (by omega)).2
      have ci4 : CI_ m4 (up2 g 53 l p2) n n := hG.ci fun q hq => by rw [q4, up2_ne (by omega)]; exact h.2.2.2.2.2.2.2.2.2.1 q hq
      refine s_A_reckon (dl := (up2 g 53 l p2) 53) (by omega) cc4 ci4 hwf' hd' (fun q hq => by rw [if_neg (nI_m1 (by omega))]) fun m5 f5 A5 => ?_
      intro m1 em
      have hm5 : ∀ i, i ≠ 8 → i ≠ 20 → m5 i = m i := fun i b1 b2 => by rw [f5 i (by omega), q4, up2_ne b1]
      have cm : MC m1 g n := by
        rw [em]
        exact (h.1.out fun i b1 b2 => hm5 i (by omega) (by omega)).thr
      have k1 : ¬ m1 48 l = -1 := by rw [cm.2.2.1]; exact hnk
      refine s_M_isLine cm (fun _ _ _ => ⟨fun _ => ⟨vp, fun e1 => absurd e1 k1, fun _ => s_isIn (fun _ _ => ⟨fun _ => ?_, fun e => absurd e (by decide)⟩) (fun hb => absurd hb (fun hb => hb.elim a b))⟩, fun e => absurd e (by decide)⟩) (fun hno => absurd rfl (hno l hl))
      refine ⟨vp, vp, fun m11 q11 => ?_⟩
      have hm1 : ∀ i, i ≠ 8 → i ≠ 20 → i ≠ 47 → m1 i = m i := fun i b1 b2 b3 => by rw [em, up2_ne b3]; exact hm5 i b1 b2
      have hm : ∀ i, i ≠ 8 → i ≠ 20 → i ≠ 47 → i ≠ 53 → m11 i = m i := fun i b1 b2 b3 b4 => by rw [q11, up2_ne b4]; exact hm1 i b1 b2 b3
      have h47 : m11 47 = (up2 m 47 0 0) 47 := by
        rw [q11, up2_ne (by omega), em]
        funext x
        rw [up2_at, up2_at, hm5 47 (by omega) (by omega)]
      have hfin : Iv (j + 1) m11 (up2 g 53 l p2) n := by
        refine h.par hG (cm.up53 q11) (fun q hq => ?_) (fun q hq => ?_) hd' h0 (fun i hi => hm i (by omega) (by omega) (by omega) (by omega)) ?_ (fun w hw => ?_)
        · rw [q11, up2_ne (by omega), em, up2_ne (by omega), f5 8 (by omega)]; exact h8 q hq
        · rw [hm 9 (by omega) (by omega) (by omega) (by omega), hm 10 (by omega) (by omega) (by omega) (by omega), up2_ne (by omega), up2_ne (by omega)]; exact h.2.2.2.2.1 q hq
        · rw [h47]; exact SM.thrown.2.2
        · rw [q11, up2_ne (by omega), em, up2_ne (by omega)]; exact A5 w hw
      refine fin_ok (by rw [h47]; exact up47_0) ?_ ⟨_, n, hfin⟩
      rw [updL_0, cm.2.2.2.2.2.2.2.1]
      exact congrArg Int32.toInt64 (h.2.1.2.2.1 l hl).2.2.1
    · intro m1 em
      subst em
      exact s_M_isLine c1 (fun _ _ _ => ⟨fun _ => ⟨vp, fun _ => end_no h SM.thrown (by decide), fun _ => s_isIn (fun a b => absurd hb (fun hb => hb.elim a b)) (fun _ => ⟨fun e => absurd rfl e, fun _ => end_no h SM.thrown (by decide)⟩)⟩, fun e => absurd e (by decide)⟩) (fun hno => absurd rfl (hno l hl))
    · intro m1 em
      subst em
      exact s_M_isLine c1 (fun _ _ _ => ⟨fun _ => ⟨vp, fun _ => end_no h SM.thrown (by decide), fun ne => absurd (by rw [c1.2.2.1]; exact hi.mp e8) ne⟩, fun e => absurd e (by decide)⟩) (fun hno => absurd rfl (hno l hl))
  · intro m1 em
    subst em
    exact s_M_isLine c1 (fun l hl ep => absurd ep (hno l hl)) (fun _ => ⟨fun e => absurd rfl e, fun _ => end_no h SM.thrown (by decide)⟩)
theorem case_25 {p1 p2 : Int32} (h : Inv j m) : wc_25 p1 p2 o m (fun _ m2 => Inv (j + 1) m2) := by
  obtain ⟨g, n, h⟩ := h
  have hn := h.1.1
  have c1 : MC (up2 m 47 0 0) g n := h.1.thr
  unfold wc_25 w_L_longestWith w_N_longestWith w_N_checkHasDelay w_N_checkDelay w_M_longestWith w_M_thrown
  refine s_N_checkLine h.2.1 (fun l hl ep => ?_) (fun hno => ⟨fun _ => ?_, fun e => absurd e (by decide), fun ne => absurd rfl ne⟩)
  · subst ep
    have hi := (h.2.1.2.2.1 l hl).inp
    have vp : vp_in (nI l) 30 := vp_in_nI (by omega) (by decide)
    rw [nI_clamp (by omega)]
    refine ⟨vp, fun n8 => s_within (fun a b => ⟨fun _ => ?_, fun e => absurd e (by decide)⟩) (fun hb => ⟨fun e => absurd rfl e, fun _ => ⟨fun e => absurd e (by decide), fun _ => ?_, fun _ ne => absurd rfl ne⟩⟩), fun e8 => ⟨fun e => absurd e (by decide), fun _ => ?_, fun _ ne => absurd rfl ne⟩⟩
    · obtain ⟨d, hd20, ed⟩ := in0k (n := 20) rfl (by decide) a b
      have hG : GS g (up2 g 53 l p2) := GS.up (by omega)
      have hnk : ¬ g 48 l = -1 := fun e => n8 (hi.mpr e)
      have h0 : ∀ q, q < n → g 48 q = -1 → (up2 g 53 l p2) 53 q = 0 := by
        intro q hq e
        have hne : ¬ q = l := fun e2 => hnk (by rw [← e2]; exact e)
        rw [up2_at, if_neg hne]
        rcases (h.2.2.1 q hq).2 with hh | hh | ⟨k, hk, hh, -⟩
        · exact hh.2.2.2.2
        · exact absurd (e.symm.trans hh.1) (by decide)
        · exact absurd (hh.symm.trans e) (nI_m1 (by omega))
      have hd' := up53_ok (l := l) h.2.2.2.1 hd20 ed
      have hwf' : ∀ q, q < n → WFl (up2 g 53 l p2) q := fun q hq => hG.wfl (h0 q hq) (h.2.2.1 q hq)
      refine s_A_reckon (dl := (up2 g 53 l p2) 53) (by omega) h.2.1 h.2.2.2.2.2.2.2.2.2.1 h.2.2.1 hd' (fun q hq => ?_) fun m5 f5 A5 => ?_
      · rw [up2_at]
        by_cases e : q = l
        · rw [if_pos e, if_pos (by rw [e])]
        · rw [if_neg e, if_neg (fun e2 => e ((nI_eq (by omega) (by omega)).mp e2))]
      refine p_A_greatest A5 ?_
      intro m1 em
      have s5 : SM m m5 := ⟨fun i hi => f5 i (by omega), by rw [f5 47 (by omega)], by rw [f5 47 (by omega)]⟩
      have s1 : SM m m1 := by rw [em]; exact s5.trans SM.thrown
      have cm : MC m1 g n := (h.same (Nat.le_refl j) s1).1
      have k1 : ¬ m1 48 l = -1 := by rw [cm.2.2.1]; exact hnk
      refine s_M_isLine cm (fun _ _ _ => ⟨fun _ => ⟨vp, fun e1 => absurd e1 k1, fun _ => s_isIn (fun _ _ => ⟨fun _ => ?_, fun e => absurd e (by decide)⟩) (fun hb => absurd hb (fun hb => hb.elim a b))⟩, fun e => absurd e (by decide)⟩) (fun hno => absurd rfl (hno l hl))
      refine ⟨vp, vp, fun m11 q11 => ?_⟩
      refine p_M_longestNow (cm.up53 q11) hwf' hd' fun m12 f12 A12 => ⟨vp, fun m17 q17 => ?_⟩
      have h17 : ∀ i, i ≠ 58 → i ≠ 59 → m17 i = m1 i := by
        intro i b1 b2
        by_cases e : i = 53
        · subst e
          have e53 : m12 53 = (up2 m1 53 l p2) 53 := by rw [f12 53 (by omega) (by omega), q11]
          funext x
          rw [q17, up2_at, e53, up2_at]
          by_cases hx : x = l
          · rw [if_pos hx, hx]
          · rw [if_neg hx, if_neg hx]
        · rw [q17, up2_ne e, f12 i b1 b2, q11, up2_ne e]
      have s17 : SM m1 m17 := ⟨fun i hi => h17 i (by omega) (by omega), by rw [h17 47 (by omega) (by omega)], by rw [h17 47 (by omega) (by omega)]⟩
      refine fin_ok (by rw [h17 47 (by omega) (by omega), em]; exact up47_0) ?_ ⟨g, n, h.same (by omega) (s1.trans s17)⟩
      have eA : AR (up2 g 53 l p2) n ((up2 g 53 l p2) 53) = AR g n ((up2 g 53 l p2) 53) := by
        funext w
        exact hG.ar hn (fun q hq => rfl) w
      rw [updL_0, eA]
    · intro m1 em
      subst em
      exact s_M_isLine c1 (fun _ _ _ => ⟨fun _ => ⟨vp, fun _ => end_no h SM.thrown (by decide), fun _ => s_isIn (fun a b => absurd hb (fun hb => hb.elim a b)) (fun _ => ⟨fun e => absurd rfl e, fun _ => end_no h SM.thrown (by decide)⟩)⟩, fun e => absurd e (by decide)⟩) (fun hno => absurd rfl (hno l hl))
    · intro m1 em
      subst em
      exact s_M_isLine c1 (fun _ _ _ => ⟨fun _ => ⟨vp, fun _ => end_no h SM.thrown (by decide), fun ne => absurd (by rw [c1.2.2.1]; exact hi.mp e8) ne⟩, fun e => absurd e (by decide)⟩) (fun hno => absurd rfl (hno l hl))
  · intro m1 em
    subst em
    exact s_M_isLine c1 (fun l hl ep => absurd ep (hno l hl)) (fun _ => ⟨fun e => absurd rfl e, fun _ => end_no h SM.thrown (by decide)⟩)
end CASES11
