/-! cases that ask for a wire -/
section CASES7
variable {j : Nat} {m : Mem} {o : Nat → Int64}
theorem s_N_isWire2 {p : Int32} {K : Int32 → Mem → Prop} (h1 : ∀ w, w < 24 → p = nI w → K 1 m) (h0 : ¬ isW p → K 0 m) : w_N_isWire p m K := by
  unfold w_N_isWire
  refine ⟨fun e => h0 ?_, fun ne => ⟨fun e => h0 ?_, fun e => ?_⟩⟩
  · rintro ⟨w, hw, rfl⟩; exact nI_pos (show w < 2 ^ 31 by omega) e
  · rintro ⟨w, hw, rfl⟩; exact absurd ((nI_le24 (by omega)).mp e) (by omega)
  · obtain ⟨k, hk, rfl⟩ := nI_of ne
    have : k < 24 := by
      rcases Nat.lt_or_ge k 24 with h | h
      · exact h
      · exact absurd ((nI_le24 hk).mpr h) e
    exact h1 k this rfl
theorem s_N_checkWire {p : Int32} {K : Mem → Prop} {X : String → Mem → Prop} (h1 : ∀ w, w < 24 → p = nI w → K m) (h0 : ¬ isW p → X "java/lang/IndexOutOfBoundsException" m) : w_N_checkWire p m K X := by
  unfold w_N_checkWire
  exact s_N_isWire2 (fun w hw e => ⟨fun _ => h1 w hw e, fun e => absurd e (by decide)⟩) (fun hno => ⟨fun e => absurd rfl e, fun _ => h0 hno⟩)
theorem s_M_isWire {p : Int32} {K : Int32 → Mem → Prop} (h1 : ∀ w, w < 24 → p = nI w → K 1 m) (h0 : ¬ isW p → K 0 m) : w_M_isWire p m K := by
  unfold w_M_isWire
  refine s_isIn (fun a b => ⟨rfl, ?_⟩) (fun hb => ⟨rfl, h0 ?_⟩)
  · obtain ⟨k, hk, rfl⟩ := nI_of a
    have : k < 24 := by
      rcases Nat.lt_or_ge 23 k with h | h
      · exact absurd ((nI_ltI (a := 23) (by decide) hk).mpr h) b
      · omega
    exact h1 k this rfl
  · rintro ⟨w, hw, rfl⟩
    rcases hb with hb | hb
    · exact nI_pos (show w < 2 ^ 31 by omega) hb
    · exact absurd ((nI_ltI (a := 23) (by decide) (by omega)).mp hb) (by omega)
theorem case_8 {p1 : Int32} (h : Inv j m) : wc_8 p1 o m (fun _ m2 => Inv (j + 1) m2) := by
  obtain ⟨g, n, h⟩ := h
  have hA := h.2.2.2.2.2.2.2.2.2.2.2.1
  unfold wc_8 w_L_arrival w_N_arrival w_M_arrival w_M_thrown
  have h1 := h.same (Nat.le_succ j) (SM.thrown (v := 0))
  refine s_N_checkWire (fun w hw ep => ?_) (fun hno => ⟨fun _ => ?_, fun ne => absurd rfl ne⟩)
  · subst ep
    refine ⟨vp_in_nI hw (by decide), ?_⟩
    intro m1 em
    subst em
    refine s_M_isWire (fun w' hw' ep => ⟨fun _ => ?_, fun e => absurd e (by decide)⟩) (fun hno => absurd ⟨w, hw, rfl⟩ hno)
    refine p_M_tellArrivals h1.1 h1.2.2.1 h1.2.2.2.1 fun m5 f5 A5 => ⟨vp_in_nI hw (by decide), ?_⟩
    have t0 : m5 47 0 = 0 := by rw [f5 47 (by omega) (by omega)]; simp only [up2, up_same, upd_same]
    rw [nI_clamp (by omega), A5 w hw]
    refine fin_ok t0 ?_ ⟨g, n, h1.same (Nat.le_refl _) (SM.ft f5)⟩
    rw [updL_0]
    exact congrArg Int32.toInt64 (hA w hw)
  · intro m1 em
    subst em
    refine s_M_isWire (fun w' hw' ep => absurd ⟨w', hw', ep⟩ hno) (fun _ => ⟨fun e => absurd rfl e, fun _ => ?_⟩)
    unfold w_M_no
    intro m3 e3
    have s3 : SM m m3 := by rw [e3]; exact SM.thrown.trans SM.thrown
    exact fin_no (by rw [e3]; simp only [up2, up_same, upd_same]) (by decide) ⟨g, n, h.same (by omega) s3⟩
end CASES7
