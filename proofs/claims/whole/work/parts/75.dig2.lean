/-! the digest: the reference's part -/
section DGM
variable {m g : Mem} {n : Nat} {K : Int64 → Mem → Prop}
theorem p_M_d59 {E : Int64 → Int32 → Mem → Prop} (hc : MC m g n) : ∀ (r i f : Nat) (d : Int64), i + r = 6 → r < f → (∀ y, E (dgs (fun i => S_told n (m 60) (nI i)) r i d) y m) → w_M_digest_59 f d (nI i) m E K := by
  intro r
  induction r with
  | zero =>
    intro i f d hi hf hE
    have e : i = 6 := by omega
    subst e
    obtain ⟨f, rfl⟩ : ∃ a, f = a + 1 := ⟨f - 1, by omega⟩
    unfold w_M_digest_59
    exact ⟨fun _ => hE _, fun h => absurd ((nI_le6 (by decide)).mpr (by decide)) h⟩
  | succ r ih =>
    intro i f d hi hf hE
    obtain ⟨f, rfl⟩ : ∃ a, f = a + 1 := ⟨f - 1, by omega⟩
    unfold w_M_digest_59
    refine ⟨fun q => absurd ((nI_le6 (by omega)).mp q) (by omega), fun _ => ?_⟩
    refine s_M_toldNow hc ?_
    rw [nA1]
    exact ih (i + 1) f _ (by omega) (by omega) hE
theorem p_M_d86 {L : List (Int32 × Int32)} {E : Int64 → Int32 → Mem → Prop} (hL : MF m L) (hl : L.length ≤ 54) : ∀ (r i f : Nat) (d : Int64), i + r = 2 * L.length → r < f → (∀ y, E (dgs (FLf L) r i d) y m) → w_M_digest_86 f d (nI i) m E K := by
  intro r
  induction r with
  | zero =>
    intro i f d hi hf hE
    obtain ⟨f, rfl⟩ : ∃ a, f = a + 1 := ⟨f - 1, by omega⟩
    unfold w_M_digest_86
    rw [hL.1, n2m]
    exact ⟨fun _ => hE _, fun h => absurd (nI_le (by omega) (by omega)) h⟩
  | succ r ih =>
    intro i f d hi hf hE
    obtain ⟨f, rfl⟩ : ∃ a, f = a + 1 := ⟨f - 1, by omega⟩
    unfold w_M_digest_86
    rw [hL.1, n2m, nI_clamp (by omega)]
    refine ⟨fun q => absurd q (nI_ge (by omega) (by omega)), fun _ => ⟨vp_in_nI (by omega) (by decide), ?_⟩⟩
    have hv : m 57 i = FLf L i := by
      have hlt : i / 2 < L.length := by omega
      have hp := List.getElem?_eq_getElem hlt
      obtain ⟨a1, a2⟩ := hL.2 (i / 2) _ hp
      obtain ⟨b1, b2⟩ := FLf_at hp
      rcases (show i = 2 * (i / 2) ∨ i = 2 * (i / 2) + 1 by omega) with e | e
      · rw [e, a1, b1]
      · rw [e, a2, b2]
    rw [hv, nA1]
    exact ih (i + 1) f _ (by omega) (by omega) hE
theorem S_way_lo {A : Nat → Int32} {i : Nat} (hi : i < 24) : S_way g n A (nI i) = S_wayL g n A i (S_lat g n A) := by
  have c24 : (nI i < (24 : Int32)) ↔ i < 24 := nI_ltI (b := 24) (by omega) (by decide)
  unfold S_way
  rw [if_neg (nI_pos (by omega)), if_pos (c24.mpr hi), cl_nI (by omega)]
theorem p_M_d118 {E : Int64 → Int32 → Mem → Prop} (hwf : ∀ l, l < n → WFl g l) (hd : ∀ l, l < n → ∃ d : Nat, d ≤ 20 ∧ g 53 l = nI d) : ∀ (r i f : Nat) (d : Int64) (m : Mem), i + r = 6 → r < f → MC m g n → (∀ w, w < 24 → m 58 w = AR g n (g 53) w) → (∀ y m', FT m m' → (∀ w, w < 24 → m' 58 w = AR g n (g 53) w) → E (dgs (fun i => S_way g n (AR g n (g 53)) (nI i)) r i d) y m') → w_M_digest_118 f d (nI i) m E K := by
  intro r
  induction r with
  | zero =>
    intro i f d m hi hf hc hA hE
    have e : i = 6 := by omega
    subst e
    obtain ⟨f, rfl⟩ : ∃ a, f = a + 1 := ⟨f - 1, by omega⟩
    unfold w_M_digest_118
    exact ⟨fun _ => hE _ _ (FT.refl m) hA, fun h => absurd ((nI_le6 (by decide)).mpr (by decide)) h⟩
  | succ r ih =>
    intro i f d m hi hf hc hA hE
    obtain ⟨f, rfl⟩ : ∃ a, f = a + 1 := ⟨f - 1, by omega⟩
    unfold w_M_digest_118
    refine ⟨fun q => absurd ((nI_le6 (by omega)).mp q) (by omega), fun _ => ?_⟩
    refine p_M_wayNow hc hwf hd (by omega) fun m2 f2 A2 => ?_
    rw [nA1]
    refine ih (i + 1) f _ m2 (by omega) (by omega) (hc.ft f2) A2 fun y m3 f3 A3 => ?_
    have := hE y m3 (f2.trans f3) A3
    unfold dgs at this
    rw [S_way_lo (by omega)] at this
    exact this
theorem p_M_d179 {w : Nat} {E : Int64 → Int32 → Int32 → Mem → Prop} (hw : w < 24) : ∀ (r i f : Nat) (d : Int64), i + r = 4 → r < f → (∀ y, E (dgs (fun q => (m 60) (6 + q * 24 + w)) r i d) (nI w) y m) → w_M_digest_179 f d (nI w) (nI i) m E K := by
  intro r
  induction r with
  | zero =>
    intro i f d hi hf hE
    have e : i = 4 := by omega
    subst e
    obtain ⟨f, rfl⟩ : ∃ a, f = a + 1 := ⟨f - 1, by omega⟩
    unfold w_M_digest_179
    exact ⟨fun _ => hE _, fun h => absurd ((nI_le4 (by decide)).mpr (by decide)) h⟩
  | succ r ih =>
    intro i f d hi hf hE
    obtain ⟨f, rfl⟩ : ∃ a, f = a + 1 := ⟨f - 1, by omega⟩
    unfold w_M_digest_179
    refine ⟨fun q => absurd ((nI_le4 (by omega)).mp q) (by omega), fun _ => ?_⟩
    rw [show (24 : Int32) = nI 24 from rfl, nI_mul, n6, nI_add, nI_clamp (by omega), nA1]
    exact ⟨vp_in_nI (by omega) (by decide), ih (i + 1) f _ (by omega) (by omega) hE⟩
theorem p_M_d145 {A : Nat → Int32} {E : Int64 → Int32 → Mem → Prop} (hc : MC m g n) (hA : ∀ w, w < 24 → m 58 w = A w) : ∀ (r w f : Nat) (d : Int64), w + r = 24 → r < f → (∀ y, E (S_wirL g n A (m 60) r w d) y m) → w_M_digest_145 f d (nI w) m E K := by
  intro r
  induction r with
  | zero =>
    intro w f d hw hf hE
    have e : w = 24 := by omega
    subst e
    obtain ⟨f, rfl⟩ : ∃ a, f = a + 1 := ⟨f - 1, by omega⟩
    unfold w_M_digest_145
    exact ⟨fun _ => hE _, fun h => absurd (show (24 : Int32) ≤ nI 24 by decide) h⟩
  | succ r ih =>
    intro w f d hw hf hE
    obtain ⟨f, rfl⟩ : ∃ a, f = a + 1 := ⟨f - 1, by omega⟩
    unfold w_M_digest_145
    refine ⟨fun h => absurd ((nI_le24 (by omega)).mp h) (by omega), fun _ => ⟨vp_in_nI (by omega) (by decide), p_M_usersNow hc ?_⟩⟩
    rw [nI_clamp (by omega), hA w (by omega)]
    refine p_M_d179 (by omega) 4 0 5 _ (by omega) (by omega) fun y => ?_
    rw [nA1]
    exact ih (w + 1) f _ (by omega) (by omega) hE
theorem p_M_d222 {E : Int64 → Int32 → Mem → Prop} (hc : MC m g n) : ∀ (r i f : Nat) (d : Int64), i + r = n → r < f → (∀ y, E (dgs (fun l => (m 60) (102 + l)) r i d) y m) → w_M_digest_222 f d (nI i) m E K := by
  have hn := hc.1
  intro r
  induction r with
  | zero =>
    intro i f d hi hf hE
    obtain ⟨f, rfl⟩ : ∃ a, f = a + 1 := ⟨f - 1, by omega⟩
    unfold w_M_digest_222
    rw [hc.2.1]
    exact ⟨fun _ => hE _, fun h => absurd (nI_le (by omega) (by omega)) h⟩
  | succ r ih =>
    intro i f d hi hf hE
    obtain ⟨f, rfl⟩ : ∃ a, f = a + 1 := ⟨f - 1, by omega⟩
    unfold w_M_digest_222
    rw [hc.2.1, n102, nI_clamp (by omega), nA1]
    exact ⟨fun q => absurd q (nI_ge (by omega) (by omega)), fun _ => ⟨vp_in_nI (by omega) (by decide), ih (i + 1) f _ (by omega) (by omega) hE⟩⟩
theorem p_M_d269 {H : Nat} {E : Int64 → Int32 → Mem → Prop} (hH : H ≤ 40) (e5 : (m 60) 5 = nI H) : ∀ (r i f : Nat) (d : Int64), i + r = 3 * H → r < f → (∀ y, E (dgs (fun q => (m 60) (222 + q)) r i d) y m) → w_M_digest_269 f d (nI i) m E K := by
  intro r
  induction r with
  | zero =>
    intro i f d hi hf hE
    obtain ⟨f, rfl⟩ : ∃ a, f = a + 1 := ⟨f - 1, by omega⟩
    unfold w_M_digest_269
    rw [e5, n3m]
    exact ⟨fun _ => hE _, fun h => absurd (nI_le (by omega) (by omega)) h⟩
  | succ r ih =>
    intro i f d hi hf hE
    obtain ⟨f, rfl⟩ : ∃ a, f = a + 1 := ⟨f - 1, by omega⟩
    unfold w_M_digest_269
    rw [e5, n3m, n222, nI_clamp (by omega), nA1]
    exact ⟨fun q => absurd q (nI_ge (by omega) (by omega)), fun _ => ⟨vp_in_nI (by omega) (by decide), ih (i + 1) f _ (by omega) (by omega) hE⟩⟩
theorem p_M_settlesNow {K : Int32 → Mem → Prop} (hc : MC m g n) (hwf : ∀ l, l < n → WFl g l) (hrw : RW g n (m 60)) (hK : K (S_in g n (m 60)) m) : w_M_settlesNow m K := by
  unfold w_M_settlesNow
  intro mm emm
  unfold w_M_settlesNow_4
  rw [emm]
  refine s_M_passTo hc hwf hrw.cpy.1 ?_
  have back : ∀ X : Rw, va_up (va_up m 60 X) 60 (m 60) = m := fun X => by rw [va_up_up, up_self]
  rw [up_same]
  unfold S_in at hK
  refine ⟨fun hle => ?_, fun hle => ?_⟩
  · intro m4 e4
    rw [back] at e4
    rw [if_pos hle] at hK
    rw [e4]; exact hK
  · intro m4 e4
    rw [back] at e4
    rw [if_neg hle] at hK
    rw [e4]; exact hK
theorem p_M_digest {j : Nat} (h : Iv j m g n) (hK : ∀ m', SM m m' → K (S_dig g n (AR g n (g 53)) (m 60) (m 47 11)) m') : w_M_digest m K := by
  have hn := h.1.1
  have hLl := FL_le (g := g) (n := n)
  obtain ⟨-, e01⟩ := h.2.2.2.2.2.2.2.1
  unfold w_M_digest
  intro m1 em
  have s1 : SM m m1 := by rw [em]; exact SM.thrown
  have i1 := h.same (Nat.le_refl j) s1
  refine p_M_noteFlaws i1.1 h.2.2.1 fun m2 f2 L2 => ?_
  have s2 := s1.trans (SM.fn f2)
  have i2 := h.same (Nat.le_refl j) s2
  refine p_M_longestNow i2.1 h.2.2.1 h.2.2.2.1 fun m3 f3 A3 => ?_
  have s3 := s2.trans (SM.ft f3)
  have i3 := h.same (Nat.le_refl j) s3
  have L3 : MF m3 (FL g n) := by
    unfold MF at L2 ⊢
    rw [f3 47 (by omega) (by omega), f3 57 (by omega) (by omega)]; exact L2
  intro J hJ
  suffices hj : ∀ v : Int32, v = m 47 11 → J v m3 by
    have q11 : m3 47 11 = m 47 11 := s3.2.2
    rw [q11]
    refine ⟨fun e => hj 0 e.symm, fun ne => hj 1 (e01.resolve_left ne).symm⟩
  intro v hv
  refine hJ v m3 ?_
  rw [i2.1.2.1, L2.1]
  have p60 : m3 60 = m 60 := s3.1 60 (by omega)
  refine p_M_d59 i3.1 6 0 7 _ (by omega) (by omega) fun y => ?_
  refine p_M_d86 L3 (by omega) (2 * (FL g n).length) 0 109 _ (by omega) (by omega) fun y => ?_
  refine p_M_d118 h.2.2.1 h.2.2.2.1 6 0 7 _ m3 (by omega) (by omega) i3.1 A3 fun y m4 f4 A4 => ?_
  have s4 := s3.trans (SM.ft f4)
  have i4 := h.same (Nat.le_refl j) s4
  have r60 : m4 60 = m 60 := s4.1 60 (by omega)
  obtain ⟨H, hH, e5⟩ := h.2.2.2.2.2.1.1
  refine p_M_d145 i4.1 A4 24 0 25 _ (by omega) (by omega) fun y => ?_
  refine p_M_d222 i4.1 n 0 31 _ (by omega) (by omega) fun y => ?_
  refine p_M_d269 (H := H) hH (by rw [r60]; exact e5) (3 * H) 0 121 _ (by omega) (by omega) fun y => ?_
  have q11 : m4 47 11 = m 47 11 := s4.2.2
  have eD : dgs (fun q => (m4 60) (222 + q)) (3 * H) 0 ((dgs (fun l => (m4 60) (102 + l)) n 0 (S_wirL g n (AR g n (g 53)) (m4 60) 24 0 (dgs (fun i => S_way g n (AR g n (g 53)) (nI i)) 6 0 (dgs (FLf (FL g n)) (2 * (FL g n).length) 0 (dgs (fun i => S_told n (m3 60) (nI i)) 6 0 ((((((((1800170 : Int64) + (nI n).toInt64) * (31 : Int64)) + (nI (FL g n).length).toInt64) * (31 : Int64)) + (S_lng (AR g n (g 53)) 24 0 0).toInt64) * (31 : Int64)) + v.toInt64))))) * (31 : Int64)) + ((m4 60) 5).toInt64) = S_d16 g n (AR g n (g 53)) (m 60) (m 47 11) := by
    unfold S_d16 S_d6 S_d5 S_d4 S_d3 S_d2 S_d1 S_d0
    rw [r60, p60, hv, e5, cl_nI (by omega), show (58070 : Int64) * (31 : Int64) = 1800170 by decide]
  rw [eD, q11]
  have hK' := hK m4 s4
  unfold S_dig at hK'
  refine ⟨fun e => by rw [if_pos e] at hK'; exact hK', fun ne => ?_⟩
  rw [if_neg ne] at hK'
  refine p_M_settlesNow i4.1 h.2.2.1 i4.2.2.2.2.2.1 ?_
  rw [r60]
  exact hK'
end DGM
section CASES18
variable {j : Nat} {m g : Mem} {n : Nat} {o : Nat → Int64}
theorem s_N_settlesIn {K : Int32 → Mem → Prop} {X : String → Mem → Prop} (hj : j < 512) (h : Iv j m g n) (run : ¬ m 1 6 = 0) (hK : ∀ m', SM m m' → K (S_in g n (m 60)) m') : w_N_settlesIn m K X := by
  have hn := h.1.1
  have hrr := h.2.2.2.2.2.2.1
  have hrw := h.2.2.2.2.2.1
  obtain ⟨k, hk, ek⟩ := h.2.2.2.2.2.2.2.2.2.2.2.2
  unfold w_N_settlesIn w_N_checkRunning
  refine ⟨fun _ => ?_, fun e => absurd e run⟩
  refine s_R_copyFrom hrr fun m2 f2 r2 => ?_
  have i2 := h.same (Nat.le_refl j) (SM.trial f2)
  refine s_R_letCome i2.2.1 (by omega) h.2.2.1 hrw.cpy r2.cpy fun m3 f3 r3 => ?_
  have hK' := hK m3 ((SM.trial f2).trans (SM.trial f3))
  have c16 : m3 23 16 = (m 60) 2 := by rw [f3 23 (by omega), f2 23 (by omega)]; exact hrr.2.2.2.2.2.2.2.2.2.2.2.1
  have c13 : m3 23 13 = (m 60) 0 := by rw [f3 23 (by omega), f2 23 (by omega)]; exact hrr.2.2.2.2.2.2.2.2.1
  have d16 : m3 35 16 = S_pass g n 2147483647 (va_cpy (m 60) (fun _ => 0) 0 0 342) 2 := r3.2.2.2.2.2.2.2.2.2.2.2.1
  have d13 : m3 35 13 = S_pass g n 2147483647 (va_cpy (m 60) (fun _ => 0) 0 0 342) 0 := r3.2.2.2.2.2.2.2.2.1
  have h2 := S_passL_2 (g := g) (u := 2147483647) hn 300 (va_cpy (m 60) (fun _ => 0) 0 0 342)
  rw [cpy342 (by omega), ek, nA1] at h2
  have h2' : S_pass g n 2147483647 (va_cpy (m 60) (fun _ => 0) 0 0 342) 2 = nI k ∨ S_pass g n 2147483647 (va_cpy (m 60) (fun _ => 0) 0 0 342) 2 = nI (k + 1) := h2
  unfold S_in at hK'
  rw [c16, c13, d16, d13]
  refine ⟨fun ne => ?_, fun e => ?_⟩
  · have hle : ¬ S_pass g n 2147483647 (va_cpy (m 60) (fun _ => 0) 0 0 342) 2 ≤ (m 60) 2 := by
      rw [ek] at ne ⊢
      have e' := h2'.resolve_left ne
      rw [e', nI_leI (by omega) (by omega)]; omega
    rw [if_neg hle] at hK'; exact hK'
  · have hle : S_pass g n 2147483647 (va_cpy (m 60) (fun _ => 0) 0 0 342) 2 ≤ (m 60) 2 := by rw [e]; exact Int32.le_refl _
    rw [if_pos hle] at hK'; exact hK'
theorem s_N_digest {K : Int64 → Mem → Prop} {X : String → Mem → Prop} (hj : j < 512) (h : Iv j m g n) (hK : ∀ m', SM m m' → K (S_dig g n (AR g n (g 53)) (m 60) (m 47 11)) m') : w_N_digest m K X := by
  have hn := h.1.1
  have hA := h.2.2.2.2.2.2.2.2.2.2.2.1
  have hF := h.2.2.2.2.2.2.2.2.1
  have hrr := h.2.2.2.2.2.2.1
  obtain ⟨e1, e01⟩ := h.2.2.2.2.2.2.2.1
  have nb : narrow .boolean (.int (m 1 6)) = .int (m 1 6) := by
    rw [e1]
    rcases e01 with e | e <;> rw [e] <;> rfl
  unfold w_N_digest w_N_lines w_N_flaws w_N_longest w_N_isRunning
  refine p_A_greatest hA ⟨nb, ?_⟩
  rw [h.2.1.2.1, hF.1, e1]
  intro J hJ
  suffices hj : ∀ v : Int32, v = m 47 11 → J v m by
    exact ⟨fun e => hj 0 e.symm, fun ne => hj 1 (e01.resolve_left ne).symm⟩
  intro v hv
  refine hJ v m ?_
  refine s_N_dTimes h.2.1 hrr ?_
  refine s_N_dCircuit h.2.1 h.2.2.1 hF hA (AR_okN h.2.2.2.1 hn) ?_
  refine s_N_dWires h.2.1 hrr hA ?_
  refine s_N_dRun h.2.1 hrr h.2.2.2.2.2.1.1 ?_
  subst hv
  unfold S_dig at hK
  refine ⟨fun e => ?_, fun ne => ?_⟩
  · have hK' := hK m (SM.refl m)
    rw [if_pos (e1.symm.trans e)] at hK'
    exact hK'
  · refine s_N_settlesIn hj h ne fun m' s' => ?_
    have hK' := hK m' s'
    rw [if_neg (fun e => ne (e1.trans e))] at hK'
    exact hK'
theorem case_27 (hj : j < 512) (h : Inv j m) : wc_27 o m (fun _ m2 => Inv (j + 1) m2) := by
  obtain ⟨g, n, h⟩ := h
  unfold wc_27
  refine s_N_digest hj h fun m1 s1 => ?_
  refine p_M_digest (h.same (Nat.le_refl j) s1) fun m2 s2 => ?_
  rw [s1.1 60 (by omega), s1.2.2]
  exact ⟨fun _ => ⟨g, n, h.same (by omega) (s1.trans s2)⟩, fun ne => ne (lg_self _)⟩
end CASES18
