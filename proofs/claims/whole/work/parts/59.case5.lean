/-! cases that ask for a line -/
theorem line_lt {n k : Nat} (hn : n ≤ 30) (hk : k < 2 ^ 31) : (nI n - 1 < nI k) ↔ ¬ nI k < nI n := by
  have h2 : (nI n - 1).toInt = (n : Int) - 1 := by
    rw [Int32.toInt_sub, nI_toInt (by omega), show (1 : Int32).toInt = 1 by decide]
    exact Int.bmod_eq_of_le (by omega) (by omega)
  rw [Int32.lt_iff_toInt_lt, Int32.lt_iff_toInt_lt, h2, nI_toInt hk, nI_toInt (by omega)]
  omega
section CASES6
variable {j : Nat} {m : Mem} {o : Nat → Int64}
theorem s_N_checkLine {g : Mem} {n : Nat} {p : Int32} {K : Mem → Prop} {X : String → Mem → Prop} (hcc : CC m g n) (h1 : ∀ l, l < n → p = nI l → K m) (h0 : (∀ l, l < n → ¬ p = nI l) → X "java/lang/IndexOutOfBoundsException" m) : w_N_checkLine p m K X := by
  have hn := hcc.1
  unfold w_N_checkLine
  rw [hcc.2.1]
  refine ⟨fun e => h0 fun l hl ep => ?_, fun ne => ⟨fun e => ?_, fun e => h0 fun l hl ep => ?_⟩⟩
  · rw [ep] at e; exact absurd e (nI_pos (by omega))
  · obtain ⟨k, hk, rfl⟩ := nI_of ne
    exact h1 k ((nI_ltI hk (by omega)).mp e) rfl
  · rw [ep] at e; exact e ((nI_ltI (by omega) (by omega)).mpr hl)
theorem s_M_isLine {g : Mem} {n : Nat} {p : Int32} {K : Int32 → Mem → Prop} (hc : MC m g n) (h1 : ∀ l, l < n → p = nI l → K 1 m) (h0 : (∀ l, l < n → ¬ p = nI l) → K 0 m) : w_M_isLine p m K := by
  have hn := hc.1
  unfold w_M_isLine
  rw [hc.2.1]
  refine s_isIn (fun a b => ⟨rfl, ?_⟩) (fun hb => ⟨rfl, h0 fun l hl ep => ?_⟩)
  · obtain ⟨k, hk, rfl⟩ := nI_of a
    have : nI k < nI n := by
      by_cases h : nI k < nI n
      · exact h
      · exact absurd ((line_lt hn hk).mpr h) b
    exact h1 k ((nI_ltI hk (by omega)).mp this) rfl
  · rw [ep] at hb
    rcases hb with hb | hb
    · exact nI_pos (show l < 2 ^ 31 by omega) hb
    · exact (line_lt hn (by omega)).mp hb ((nI_ltI (by omega) (by omega)).mpr hl)
theorem case_19 {p1 : Int32} (h : Inv j m) : wc_19 p1 o m (fun _ m2 => Inv (j + 1) m2) := by
  obtain ⟨g, n, h⟩ := h
  have hn := h.1.1
  have hrr := h.2.2.2.2.2.2.1
  unfold wc_19 w_L_pending w_N_pending w_M_pending w_M_thrown
  have h1 := h.same (Nat.le_succ j) (SM.thrown (v := 0))
  have h60 : (up2 m 47 0 0) 60 = m 60 := by unfold up2; rw [up_ne (by omega)]
  refine s_N_checkLine h.2.1 (fun l hl ep => ?_) (fun hno => ⟨fun _ => ?_, fun ne => absurd rfl ne⟩)
  · subst ep
    refine ⟨vp_in_nI (by omega) (by decide), ?_⟩
    intro m1 em
    subst em
    refine s_M_isLine h1.1 (fun l' hl' ep => ⟨fun e => absurd e (by decide), fun _ => ?_⟩) (fun hno => absurd rfl (hno l hl))
    rw [n102, nI_clamp (by omega), nI_clamp (by omega), h60]
    refine ⟨vp_in_nI (by omega) (by decide), fin_ok (by simp only [up2, up_same, upd_same]) ?_ ⟨g, n, h1⟩⟩
    rw [updL_0]
    exact congrArg Int32.toInt64 (hrr.2.2.2.2.1 l (by omega))
  · intro m1 em
    subst em
    refine s_M_isLine h1.1 (fun l' hl' ep => absurd ep (hno l' hl')) (fun _ => ⟨fun _ => ?_, fun e => absurd rfl e⟩)
    unfold w_M_no
    intro m3 e3
    have s3 : SM m m3 := by rw [e3]; exact SM.thrown.trans SM.thrown
    exact fin_no (by rw [e3]; simp only [up2, up_same, upd_same]) (by decide) ⟨g, n, h.same (by omega) s3⟩
end CASES6
