/-! cases that ask by two numbers -/
theorem up47_ne {m : Mem} {v : Int32} {i : Nat} (hi : i ≠ 47) : (up2 m 47 0 v) i = m i := by
  unfold up2
  exact up_ne hi
theorem up47_0 {m : Mem} {v : Int32} : (up2 m 47 0 v) 47 0 = v := by simp only [up2, up_same, upd_same]
theorem cnt_lt {n k : Nat} (hn : n < 2 ^ 31) (hk : k < 2 ^ 31) : (nI n - 1 < nI k) ↔ ¬ nI k < nI n := by
  have h2 : (nI n - 1).toInt = (n : Int) - 1 := by
    rw [Int32.toInt_sub, nI_toInt hn, show (1 : Int32).toInt = 1 by decide]
    exact Int.bmod_eq_of_le (by omega) (by omega)
  rw [Int32.lt_iff_toInt_lt, Int32.lt_iff_toInt_lt, h2, nI_toInt hk, nI_toInt hn]
  omega
theorem s_isInN {N : Nat} {p : Int32} {m : Mem} {K : Int32 → Mem → Prop} (hN : N < 2 ^ 31) (h1 : ∀ k, k < N → p = nI k → K 1 m) (h0 : (∀ k, k < N → ¬ p = nI k) → K 0 m) : w_M_isIn p 0 (nI N - 1) m K := by
  refine s_isIn (fun a b => ?_) (fun hb => h0 fun l hl ep => ?_)
  · obtain ⟨k, hk, rfl⟩ := nI_of a
    have : nI k < nI N := by
      by_cases h : nI k < nI N
      · exact h
      · exact absurd ((cnt_lt hN hk).mpr h) b
    exact h1 k ((nI_ltI hk hN).mp this) rfl
  · rw [ep] at hb
    rcases hb with hb | hb
    · exact nI_pos (show l < 2 ^ 31 by omega) hb
    · exact (cnt_lt hN (by omega)).mp hb ((nI_ltI (by omega) hN).mpr hl)
theorem c_ix {N : Nat} {p : Int32} {A B : Prop} (hN : N < 2 ^ 31) (h1 : ∀ k, k < N → p = nI k → A) (h0 : (∀ k, k < N → ¬ p = nI k) → B) : ((p < 0 → B) ∧ (¬ (p < 0) → ((p < nI N → A) ∧ (¬ (p < nI N) → B)))) :=
  ⟨fun e => h0 fun l hl ep => by rw [ep] at e; exact nI_pos (show l < 2 ^ 31 by omega) e, fun ne => by
    obtain ⟨k, hk, rfl⟩ := nI_of ne
    exact ⟨fun e => h1 k ((nI_ltI hk hN).mp e) rfl, fun e => h0 fun l hl ep => by
      rw [ep] at e; exact e ((nI_ltI (by omega) hN).mpr hl)⟩⟩
theorem in0k {p M : Int32} {n : Nat} (hM : M = nI n) (hn : n < 2 ^ 31) (h1 : ¬ p < 0) (h2 : ¬ M < p) : ∃ k, k ≤ n ∧ p = nI k := by
  obtain ⟨k, hk, rfl⟩ := nI_of h1
  refine ⟨k, ?_, rfl⟩
  rcases Nat.lt_or_ge n k with h | h
  · rw [hM] at h2; exact absurd ((nI_ltI hn hk).mpr h) h2
  · exact h
theorem in01 {p : Int32} (h1 : ¬ p < 0) (h2 : ¬ (1 : Int32) < p) : p = 0 ∨ p = 1 := by
  obtain ⟨k, hk, rfl⟩ := in0k (n := 1) rfl (by decide) h1 h2
  have : k = 0 ∨ k = 1 := by omega
  rcases this with rfl | rfl
  · exact Or.inl rfl
  · exact Or.inr rfl
theorem in02 {p : Int32} (h1 : ¬ p < 0) (h2 : ¬ (2 : Int32) < p) : p = 0 ∨ p = 1 ∨ p = 2 := by
  obtain ⟨k, hk, rfl⟩ := in0k (n := 2) rfl (by decide) h1 h2
  have : k = 0 ∨ k = 1 ∨ k = 2 := by omega
  rcases this with rfl | rfl | rfl
  · exact Or.inl rfl
  · exact Or.inr (Or.inl rfl)
  · exact Or.inr (Or.inr rfl)
theorem in03 {p : Int32} (h1 : ¬ p < 0) (h2 : ¬ (3 : Int32) < p) : p = 0 ∨ p = 1 ∨ p = 2 ∨ p = 3 := by
  obtain ⟨k, hk, rfl⟩ := in0k (n := 3) rfl (by decide) h1 h2
  have : k = 0 ∨ k = 1 ∨ k = 2 ∨ k = 3 := by omega
  rcases this with rfl | rfl | rfl | rfl
  · exact Or.inl rfl
  · exact Or.inr (Or.inl rfl)
  · exact Or.inr (Or.inr (Or.inl rfl))
  · exact Or.inr (Or.inr (Or.inr rfl))
theorem out_hi {M : Int32} {n q : Nat} (hM : M = nI n) (hn : n < 2 ^ 31) (hq : q ≤ n) : ¬ (nI q < 0 ∨ M < nI q) := by
  rintro (hb | hb)
  · exact nI_pos (show q < 2 ^ 31 by omega) hb
  · rw [hM] at hb; exact absurd ((nI_ltI hn (by omega)).mp hb) (by omega)
theorem FL_le {g : Mem} {n : Nat} : (FL g n).length ≤ 24 + n := by
  unfold FL
  rw [List.length_append]
  have h1 := FLw_le (g := g) (n := n) 24
  have h2 := FLl_le (g := g) (n := n) n
  omega
section CASES9
variable {j : Nat} {m : Mem} {o : Nat → Int64}
theorem end_no {n : Nat} {m1 g : Mem} {c : Int32} (h : Iv j m g n) (s : SM m m1) (hc : ¬ c = 0) : w_M_no c m1 (fun r5 m6 => ((m6 47 0 = c → ((¬ (c = 0) → Inv (j + 1) m6) ∧ (c = 0 → ((lg_cmp (o 0) r5.toInt64 = 0 → Inv (j + 1) m6) ∧ (¬ (lg_cmp (o 0) r5.toInt64 = 0) → False))))) ∧ (¬ (m6 47 0 = c) → False))) := by
  unfold w_M_no
  intro m3 e3
  exact fin_no (by rw [e3]; exact up47_0) hc ⟨g, n, h.same (by omega) (s.trans (by rw [e3]; exact SM.thrown))⟩
theorem s_M_ofFlaw {p1 p2 : Int32} {g : Mem} {n k q : Nat} {p : Int32 × Int32} {K : Int32 → Mem → Prop} (hc : MC m g n) (hwf : ∀ l, l < n → WFl g l) (hk : (FL g n)[k]? = some p) (hq : q < 2) (e1 : p1 = nI k) (e2 : p2 = nI q)
    (hK : ∀ m', SM m m' → m' 47 0 = 0 → K (if q = 0 then p.1 else p.2) m') : w_M_ofFlaw p1 p2 m K := by
  subst e1 e2
  have hn := hc.1
  have hL := FL_le (g := g) (n := n)
  have hkl : k < (FL g n).length := by
    rcases Nat.lt_or_ge k (FL g n).length with hh | hh
    · exact hh
    · rw [List.getElem?_eq_none hh] at hk; cases hk
  unfold w_M_ofFlaw
  intro m1 em
  have s1 : SM m m1 := by rw [em]; exact SM.thrown
  have hc1 : MC m1 g n := by
    rw [em]; unfold MC at hc ⊢
    rw [SM.thrown.2.1, up47_ne (by omega), up47_ne (by omega), up47_ne (by omega), up47_ne (by omega), up47_ne (by omega), up47_ne (by omega), up47_ne (by omega), up47_ne (by omega)]
    exact hc
  refine p_M_noteFlaws hc1 hwf fun m2 f2 L2 => ?_
  rw [L2.1]
  refine s_isInN (by omega) (fun k' hk' ep' => ⟨fun _ => s_isIn (fun a b => ⟨fun e => absurd e (by decide), fun _ => ?_⟩) (fun hb => absurd hb (out_hi (n := 1) rfl (by decide) (by omega))), fun e => absurd e (by decide)⟩) (fun hno => absurd rfl (hno k hkl))
  rw [n2m, nI_add, nI_clamp (by omega)]
  refine ⟨vp_in_nI (by omega) (by decide), ?_⟩
  have hp := L2.2 k p hk
  have hv : m2 57 (2 * k + q) = (if q = 0 then p.1 else p.2) := by
    rcases (show q = 0 ∨ q = 1 by omega) with rfl | rfl
    · exact hp.1
    · exact hp.2
  rw [hv]
  exact hK m2 (s1.trans (SM.fn f2)) (by rw [f2.2 0 (by omega), em]; exact up47_0)
theorem no_M_ofFlaw {p1 p2 c : Int32} {g : Mem} {n : Nat} (h : Iv j m g n) (hb : (c = 1 ∧ ∀ k, k < (FL g n).length → ¬ p1 = nI k) ∨ (c = 2 ∧ (∃ k, k < (FL g n).length ∧ p1 = nI k) ∧ ¬ p2 = 0 ∧ ¬ p2 = 1)) : w_M_ofFlaw p1 p2 m (fun r5 m6 => ((m6 47 0 = c → ((¬ (c = 0) → Inv (j + 1) m6) ∧ (c = 0 → ((lg_cmp (o 0) r5.toInt64 = 0 → Inv (j + 1) m6) ∧ (¬ (lg_cmp (o 0) r5.toInt64 = 0) → False))))) ∧ (¬ (m6 47 0 = c) → False))) := by
  have hn := h.1.1
  have hL := FL_le (g := g) (n := n)
  have h1 := h.same (Nat.le_refl j) (SM.thrown (v := 0))
  unfold w_M_ofFlaw
  intro m1 em
  subst em
  refine p_M_noteFlaws h1.1 h1.2.2.1 fun m2 f2 L2 => ?_
  rw [L2.1]
  rcases hb with ⟨rfl, hno⟩ | ⟨rfl, ⟨k, hk, ep⟩, n0, n1⟩
  · exact s_isInN (by omega) (fun k' hk' ep' => absurd ep' (hno k' hk')) (fun _ => ⟨fun e => absurd rfl e, fun _ => end_no h (SM.thrown.trans (SM.fn f2)) (by decide)⟩)
  · exact s_isInN (by omega) (fun k' hk' ep' => ⟨fun _ => s_isIn (fun a b => absurd (in01 a b) (fun h => h.elim n0 n1)) (fun _ => ⟨fun _ => end_no h (SM.thrown.trans (SM.fn f2)) (by decide), fun e => absurd rfl e⟩), fun e => absurd e (by decide)⟩) (fun hno => absurd ep (hno k hk))
theorem case_7 {p1 p2 : Int32} (h : Inv j m) : wc_7 p1 p2 o m (fun _ m2 => Inv (j + 1) m2) := by
  obtain ⟨g, n, h⟩ := h
  have hn := h.1.1
  have hF : CF m (FL g n) := h.2.2.2.2.2.2.2.2.1
  have hL := FL_le (g := g) (n := n)
  unfold wc_7 w_L_ofFlaw w_N_ofFlaw w_M_thrown
  rw [hF.1]
  refine c_ix (by omega) (fun k hk ep => ⟨fun n0 => ⟨fun n1 => ⟨fun e => absurd e (by decide), fun _ => ?_, fun _ ne => absurd rfl ne⟩, fun e1 => ?_⟩, fun e0 => ?_⟩) (fun hno => ⟨fun _ => ?_, fun e => absurd e (by decide), fun ne => absurd rfl ne⟩)
  · exact no_M_ofFlaw h (Or.inr ⟨rfl, ⟨k, hk, ep⟩, n0, n1⟩)
  · have hp := List.getElem?_eq_getElem hk
    refine ⟨by rw [ep]; exact vp_in_nI (by omega) (by decide), s_M_ofFlaw h.1 h.2.2.1 hp (q := 1) (by omega) ep e1 fun m' s' t' => fin_ok t' ?_ ⟨g, n, h.same (by omega) s'⟩⟩
    rw [updL_0, ep, nI_clamp (by omega), (hF.2 k _ hp).2, if_neg (by omega)]
  · have hp := List.getElem?_eq_getElem hk
    refine ⟨by rw [ep]; exact vp_in_nI (by omega) (by decide), s_M_ofFlaw h.1 h.2.2.1 hp (q := 0) (by omega) ep e0 fun m' s' t' => fin_ok t' ?_ ⟨g, n, h.same (by omega) s'⟩⟩
    rw [updL_0, ep, nI_clamp (by omega), (hF.2 k _ hp).1, if_pos rfl]
  · exact no_M_ofFlaw h (Or.inl ⟨rfl, hno⟩)
theorem s_M_ofWire {p1 p2 : Int32} {w q : Nat} {K : Int32 → Mem → Prop} (hw : w < 24) (hq : q < 4) (e1 : p1 = nI w) (e2 : p2 = nI q) (hK : K ((m 60) (6 + q * 24 + w)) (up2 m 47 0 0)) : w_M_ofWire p1 p2 m K := by
  subst e1 e2
  unfold w_M_ofWire
  intro m1 em
  subst em
  refine s_M_isWire (fun w' hw' ep => ⟨fun _ => s_isIn (fun a b => ⟨fun e => absurd e (by decide), fun _ => ?_⟩) (fun hb => absurd hb (out_hi (n := 3) rfl (by decide) (by omega))), fun e => absurd e (by decide)⟩) (fun hno => absurd ⟨w, hw, rfl⟩ hno)
  rw [show (24 : Int32) = nI 24 from rfl, nI_mul, n6, nI_add, nI_clamp (by omega), up47_ne (by omega)]
  exact ⟨vp_in_nI (by omega) (by decide), hK⟩
theorem case_18 {p1 p2 : Int32} (h : Inv j m) : wc_18 p1 p2 o m (fun _ m2 => Inv (j + 1) m2) := by
  obtain ⟨g, n, h⟩ := h
  have hrr := h.2.2.2.2.2.2.1
  have h1 := h.same (Nat.le_succ j) (SM.thrown (v := 0))
  unfold wc_18 w_L_ofWire w_N_ofWire w_M_thrown
  refine s_N_checkWire (fun w hw ep => ⟨fun e0 => ?_, fun e0 => ?_, fun e0 => ?_, fun e0 => ?_, fun n0 n1 n2 n3 => ⟨fun e => absurd e (by decide), fun _ => ?_, fun _ ne => absurd rfl ne⟩⟩) (fun hno => ⟨fun _ => ?_, fun e => absurd e (by decide), fun ne => absurd rfl ne⟩)
  · refine ⟨by rw [ep]; exact vp_in_nI hw (by decide), s_M_ofWire (q := 0) hw (by decide) ep e0 (fin_ok up47_0 ?_ ⟨g, n, h1⟩)⟩
    rw [updL_0, ep, nI_clamp (by omega)]
    exact congrArg Int32.toInt64 (hrr.1 w hw)
  · refine ⟨by rw [ep]; exact vp_in_nI hw (by decide), s_M_ofWire (q := 1) hw (by decide) ep e0 (fin_ok up47_0 ?_ ⟨g, n, h1⟩)⟩
    rw [updL_0, ep, nI_clamp (by omega)]
    exact congrArg Int32.toInt64 (hrr.2.1 w hw)
  · refine ⟨by rw [ep]; exact vp_in_nI hw (by decide), s_M_ofWire (q := 2) hw (by decide) ep e0 (fin_ok up47_0 ?_ ⟨g, n, h1⟩)⟩
    rw [updL_0, ep, nI_clamp (by omega)]
    exact congrArg Int32.toInt64 (hrr.2.2.1 w hw)
  · refine ⟨by rw [ep]; exact vp_in_nI hw (by decide), s_M_ofWire (q := 3) hw (by decide) ep e0 (fin_ok up47_0 ?_ ⟨g, n, h1⟩)⟩
    rw [updL_0, ep, nI_clamp (by omega)]
    exact congrArg Int32.toInt64 (hrr.2.2.2.1 w hw)
  · unfold w_M_ofWire
    intro m1 em
    subst em
    refine s_M_isWire (fun w' hw' ep' => ⟨fun _ => s_isIn (fun a b => absurd (in03 a b) (fun hh => ?_)) (fun _ => ⟨fun _ => end_no h SM.thrown (by decide), fun e => absurd rfl e⟩), fun e => absurd e (by decide)⟩) (fun hno => absurd ⟨w, hw, ep⟩ hno)
    rcases hh with e | e | e | e
    · exact n0 e
    · exact n1 e
    · exact n2 e
    · exact n3 e
  · unfold w_M_ofWire
    intro m1 em
    subst em
    exact s_M_isWire (fun w' hw' ep' => absurd ⟨w', hw', ep'⟩ hno) (fun _ => ⟨fun e => absurd rfl e, fun _ => end_no h SM.thrown (by decide)⟩)
theorem s_M_ofHazard {p1 p2 : Int32} {H k q : Nat} {K : Int32 → Mem → Prop} (hH : H ≤ 40) (e5 : (m 60) 5 = nI H) (hk : k < H) (hq : q < 3) (e1 : p1 = nI k) (e2 : p2 = nI q) (hK : K ((m 60) (222 + 3 * k + q)) (up2 m 47 0 0)) : w_M_ofHazard p1 p2 m K := by
  subst e1 e2
  unfold w_M_ofHazard
  intro m1 em
  subst em
  rw [up47_ne (i := 60) (by omega), e5]
  refine s_isInN (by omega) (fun w' hw' ep => ⟨fun _ => s_isIn (fun a b => ⟨fun e => absurd e (by decide), fun _ => ?_⟩) (fun hb => absurd hb (out_hi (n := 2) rfl (by decide) (by omega))), fun e => absurd e (by decide)⟩) (fun hno => absurd rfl (hno k hk))
  rw [n3m, n222, nI_add, nI_clamp (by omega)]
  exact ⟨vp_in_nI (by omega) (by decide), by rw [up47_ne (i := 60) (by omega)]; exact hK⟩
theorem case_21 {p1 p2 : Int32} (h : Inv j m) : wc_21 p1 p2 o m (fun _ m2 => Inv (j + 1) m2) := by
  obtain ⟨g, n, h⟩ := h
  have hrr := h.2.2.2.2.2.2.1
  have h1 := h.same (Nat.le_succ j) (SM.thrown (v := 0))
  obtain ⟨H, hH, e5⟩ := h.2.2.2.2.2.1.1
  have e12 : m 23 12 = nI H := hrr.2.2.2.2.2.2.2.1.trans e5
  have hz := hrr.2.2.2.2.2.2.2.2.2.2.2.2.2
  rw [e5, cl_nI (by omega)] at hz
  unfold wc_21 w_L_ofHazard w_N_ofHazard w_M_thrown
  rw [e12]
  refine c_ix (by omega) (fun k hk ep => ⟨fun e0 => ?_, fun e0 => ?_, fun e0 => ?_, fun n0 n1 n2 => ⟨fun e => absurd e (by decide), fun _ => ?_, fun _ ne => absurd rfl ne⟩⟩) (fun hno => ⟨fun _ => ?_, fun e => absurd e (by decide), fun ne => absurd rfl ne⟩)
  · refine ⟨by rw [ep]; exact vp_in_nI (by omega) (by decide), s_M_ofHazard (q := 0) hH e5 hk (by decide) ep e0 (fin_ok up47_0 ?_ ⟨g, n, h1⟩)⟩
    rw [updL_0, ep, nI_clamp (by omega)]
    exact congrArg Int32.toInt64 (hz k (by omega) hk).1
  · refine ⟨by rw [ep]; exact vp_in_nI (by omega) (by decide), s_M_ofHazard (q := 1) hH e5 hk (by decide) ep e0 (fin_ok up47_0 ?_ ⟨g, n, h1⟩)⟩
    rw [updL_0, ep, nI_clamp (by omega)]
    exact congrArg Int32.toInt64 (hz k (by omega) hk).2.1
  · refine ⟨by rw [ep]; exact vp_in_nI (by omega) (by decide), s_M_ofHazard (q := 2) hH e5 hk (by decide) ep e0 (fin_ok up47_0 ?_ ⟨g, n, h1⟩)⟩
    rw [updL_0, ep, nI_clamp (by omega)]
    exact congrArg Int32.toInt64 (hz k (by omega) hk).2.2
  · unfold w_M_ofHazard
    intro m1 em
    subst em
    rw [up47_ne (i := 60) (by omega), e5]
    refine s_isInN (by omega) (fun w' hw' ep' => ⟨fun _ => s_isIn (fun a b => absurd (in02 a b) (fun hh => ?_)) (fun _ => ⟨fun _ => end_no h SM.thrown (by decide), fun e => absurd rfl e⟩), fun e => absurd e (by decide)⟩) (fun hno => absurd ep (hno k hk))
    rcases hh with e | e | e
    · exact n0 e
    · exact n1 e
    · exact n2 e
  · unfold w_M_ofHazard
    intro m1 em
    subst em
    rw [up47_ne (i := 60) (by omega), e5]
    exact s_isInN (by omega) (fun w' hw' ep' => absurd ep' (hno w' hw')) (fun _ => ⟨fun e => absurd rfl e, fun _ => end_no h SM.thrown (by decide)⟩)
end CASES9
