/-! the class's run, on: coming, resting, starting -/
theorem S_cut_m1 {ρ : Rw} {u b : Int32} : S_cut ρ u b = -1 ↔ (b = -1 ∨ u < ρ (132 + cl b)) := by
  unfold S_cut
  by_cases h : b = -1 ∨ u < ρ (132 + cl b)
  · rw [if_pos h]; exact ⟨fun _ => h, fun _ => rfl⟩
  · rw [if_neg h]; exact ⟨fun e => Or.inl e, fun hh => absurd hh h⟩
theorem S_cut_ne {ρ : Rw} {u b : Int32} (h : ¬ (b = -1 ∨ u < ρ (132 + cl b))) : S_cut ρ u b = b := by
  unfold S_cut
  rw [if_neg h]
section CR4
variable {m g : Mem} {n r : Nat} {ρ : Rw}
theorem s_R_begin {K : Mem → Prop} (h : RR r m ρ) (hK : ∀ m', FR r m m' → RR r m' (S_begin ρ) → K m') : w_R_beginCounting r m K := by
  unfold w_R_beginCounting
  intro m1 e1 m2 e2
  subst e1 e2
  exact hK _ (FR.up (FR.up (FR.refl r m) (by omega)) (by omega)) (h.begin (g := m) (n := 0))
theorem s_R_letCome_14 {u x2 : Int32} {E : Int32 → Int32 → Int32 → Int32 → Mem → Prop} {K : Int32 → Mem → Prop} (hr : 23 ≤ r) (hwf : ∀ l, l < n → WFl g l) : ∀ (k c f : Nat) (m : Mem) (ρ : Rw), c + k = 300 → k < f → CC m g n → RW g n ρ → RR r m ρ →
    (∀ (m' : Mem) (ρ' : Rw) (c' : Int32), FR r m m' → RR r m' ρ' → RW g n ρ' → S_passL g n u k ρ = (if C_next n u ρ' = -1 then ρ' else S_give n (upd ρ' 2 (ρ' 2 + 1))) → E u x2 (C_next n u ρ') c' m') → w_R_letCome_14 f r u x2 (C_next n u ρ) (nI c) m E K := by
  intro k
  induction k with
  | zero =>
    intro c f m ρ hl hf hcc hrw h hE
    have hc : c = 300 := by omega
    subst hc
    obtain ⟨f, rfl⟩ : ∃ q, f = q + 1 := ⟨f - 1, by omega⟩
    unfold w_R_letCome_14
    refine ⟨fun _ => hE m ρ _ (FR.refl r m) h hrw ?_, fun hh => absurd (show (300 : Int32) ≤ nI 300 by decide) hh⟩
    have hn := hcc.1
    rw [C_next_eq hn]
    unfold S_passL
    by_cases hs : S_next n ρ = -1 ∨ u < ρ (132 + cl (S_next n ρ))
    · rw [if_pos hs, if_pos (S_cut_m1.mpr hs)]
    · rw [if_neg hs, if_neg (fun e => hs (S_cut_m1.mp e))]
  | succ k ih =>
    intro c f m ρ hl hf hcc hrw h hE
    have hn := hcc.1
    obtain ⟨f, rfl⟩ : ∃ q, f = q + 1 := ⟨f - 1, by omega⟩
    unfold w_R_letCome_14
    refine ⟨fun hh => absurd ((nI_leI (a := 300) (by decide) (by omega)).mp hh) (by omega), fun _ => ⟨fun e => hE m ρ _ (FR.refl r m) h hrw ?_, fun ne => ?_⟩⟩
    · rw [if_pos e]
      rw [C_next_eq hn] at e
      unfold S_passL
      rw [if_pos (S_cut_m1.mp e)]
    · have hs : ¬ (S_next n ρ = -1 ∨ u < ρ (132 + cl (S_next n ρ))) := fun hh => ne (by rw [C_next_eq hn]; exact S_cut_m1.mpr hh)
      obtain ⟨q, hq, eq, hp⟩ := (S_next_spec (n := n) (ρ := ρ)).resolve_left (fun e => hs (Or.inl e))
      have ecn : C_next n u ρ = nI q := by rw [C_next_eq hn, S_cut_ne hs, eq]
      have hin : vp_in (nI q) 30 := vp_in_nI (by omega) (by decide)
      unfold S_passL at hE
      rw [if_neg hs, eq, cl_nI (by omega)] at hE
      rw [ecn, nI_clamp (by omega)]
      refine ⟨hin, hin, ?_⟩
      intro m5 e5
      refine ⟨hin, ?_⟩
      intro m6 e6
      refine ⟨hin, ?_⟩
      have f6 : FR r m m6 := by rw [e6, e5]; exact FR.up (FR.up (FR.refl r m) (by omega)) (by omega)
      have r6 : RR r m6 (upd (upd ρ (102 + q) (-1)) 0 (ρ (132 + q))) := by rw [e6, e5]; exact h.come (g := g) (n := n) (by omega) hp
      have cc6 := hcc.fr hr f6
      have hw := hwf q hq
      obtain ⟨hw1, hw2⟩ := hw.1.cl
      have c4 : m6 4 q = nI (cl (g 49 q)) := (cc6.2.2.1 q hq).1.trans hw1
      have ep : m (r + 5) q = ρ (102 + q) := h.2.2.2.2.1 q (by omega)
      rw [c4, ep]
      have rw6 : RW g n (upd (upd ρ (102 + q) (-1)) 0 (ρ (132 + q))) := ⟨upd_hz (upd_hz hrw.1 (by omega)) (by omega), VR.upd_out (hrw.2.1.upd_pend (Or.inl rfl)) (by omega), PN.upd_out (hrw.2.2.upd_in hq) (by omega)⟩
      refine s_R_change cc6 hr hw2 ((hrw.2.1.2 q (by omega)).resolve_left hp) hwf rw6 r6 fun m7 f7 r7 => ?_
      have r7' : RR r m7 (S_come g n q ρ) := r7
      have f67 := f6.trans f7
      have cc7 := hcc.fr hr f67
      refine s_R_nextLine cc7 r7' ?_
      rw [nA1]
      exact ih (c + 1) f m7 _ (by omega) (by omega) cc7 (hrw.come hn hwf hq hp) r7' fun m' ρ' c' f' r' rw' e' => hE m' ρ' c' (f67.trans f') r' rw' e'
theorem s_R_letCome {u : Int32} {K : Int32 → Mem → Prop} (hcc : CC m g n) (hr : 23 ≤ r) (hwf : ∀ l, l < n → WFl g l) (hrw : RW g n ρ) (h : RR r m ρ)
    (hK : ∀ m', FR r m m' → RR r m' (S_pass g n u ρ) → K (S_pass g n u ρ 3 - ρ 3) m') : w_R_letCome r u m K := by
  have hn := hcc.1
  have e17 : m r 17 = ρ 3 := h.2.2.2.2.2.2.2.2.2.2.2.2.1
  unfold w_R_letCome
  refine s_R_nextLine hcc h ?_
  rw [e17]
  refine s_R_letCome_14 hr hwf 300 0 301 m ρ (by omega) (by omega) hcc hrw h fun m' ρ' c' f' r' rw' e' => ?_
  have e17' : m' r 17 = ρ' 3 := r'.2.2.2.2.2.2.2.2.2.2.2.2.1
  unfold S_pass at hK
  rw [e'] at hK
  refine ⟨fun e => ?_, fun ne => ?_⟩
  · rw [if_pos e] at hK
    rw [e17']
    exact hK m' f' r'
  · rw [if_neg ne] at hK
    intro m16 e16
    unfold w_R_giveUpAll
    intro m1 e1
    have q1 : m1 r 17 = ρ' 3 := by rw [e1, e16]; simp (disch := omega) only [up2, up_ne, up_same, upd_ne]; exact e17'
    rw [q1]
    have q3 : S_give n (upd ρ' 2 (ρ' 2 + 1)) 3 = ρ' 3 := by rw [S_give_lo hn (by omega), upd_ne (by omega)]
    rw [q3] at hK
    subst e16 e1
    exact hK _ (f'.trans (FR.up (FR.up (FR.refl r m') (by omega)) (by omega))) (r'.give (g := g) hn rw'.2.2)
theorem s_C_firstLineOf {w : Nat} {K : Int32 → Mem → Prop} (hcc : CC m g n) (hw : w < 24) (hK : K (S_drv g n w) m) : w_C_firstLineOf (nI w) m K := by
  have hn := hcc.1
  unfold w_C_firstLineOf
  refine s_N_isWire hw ?_
  intro J hJ
  refine ⟨fun e => absurd e (by decide), fun _ => ⟨vp_in_nI hw (by decide), ?_⟩⟩
  rw [nI_clamp (by omega), hcc.2.2.2.2.2 w hw]
  refine hJ _ _ ?_
  rw [hcc.2.1]
  rcases S_drv_spec (g := g) (n := n) (w := w) with ⟨e, -⟩ | ⟨q, hq, e, -⟩
  · rw [e] at hK ⊢
    exact ⟨fun _ => hK, fun h => absurd (show (-1 : Int32) < 0 by decide) h⟩
  · rw [e] at hK ⊢
    exact ⟨fun h => absurd h (nI_pos (by omega)), fun _ => ⟨fun h => absurd ((nI_leI (by omega) (by omega)).mp h) (by omega), fun _ => hK⟩⟩
theorem s_C_isGate {l : Nat} {K : Int32 → Mem → Prop} (hcc : CC m g n) (hl : l < n) (hwf : WFl g l) (h1 : ¬ g 48 l < 0 → K 1 m) (h0 : g 48 l < 0 → K 0 m) : w_C_isGate (nI l) m K := by
  have hn := hcc.1
  have hCL := hcc.2.2.1 l hl
  unfold w_C_isGate
  rw [nI_clamp (by omega)]
  refine ⟨vp_in_nI (by omega) (by decide), ?_⟩
  by_cases hk : g 48 l < 0
  · have e : (7 : Int32) < m 3 l := by
      rcases hCL.2.2.2.2.2 with hh | hh | ⟨k, hk8, ek, -⟩
      · rw [hh.2.1]; decide
      · rw [hh.2.1]; decide
      · rw [ek] at hk; exact absurd hk (nI_pos (by omega))
    exact ⟨fun _ => h0 hk, fun h => absurd e h⟩
  · obtain ⟨k, hk8, ek⟩ := hwf.gate hk
    rw [hCL.gate hk8 ek]
    exact ⟨fun h => absurd ((nI_ltI (a := 7) (by decide) (by omega)).mp h) (by omega), fun _ => h1 hk⟩
theorem s_R_noteHazardsOfGates_2 {E : Int32 → Mem → Prop} {K : Mem → Prop} (hr : 23 ≤ r) (hwf : ∀ l, l < n → WFl g l) : ∀ (k w f : Nat) (m : Mem) (ρ : Rw), w + k = 24 → k < f → CC m g n → HZ ρ → RR r m ρ →
    (∀ m', FR r m m' → RR r m' (S_hzL g n k w ρ) → E (nI 24) m') → w_R_noteHazardsOfGates_2 f r (nI w) m E K := by
  intro k
  induction k with
  | zero =>
    intro w f m ρ hl hf hcc hz h hE
    have hln : w = 24 := by omega
    subst hln
    obtain ⟨f, rfl⟩ : ∃ q, f = q + 1 := ⟨f - 1, by omega⟩
    unfold w_R_noteHazardsOfGates_2
    exact ⟨fun _ => hE m (FR.refl r m) h, fun hh => absurd (show (24 : Int32) ≤ nI 24 by decide) hh⟩
  | succ k ih =>
    intro w f m ρ hl hf hcc hz h hE
    have hn := hcc.1
    have hw : w < 24 := by omega
    have hin : vp_in (nI w) 24 := vp_in_nI hw (by decide)
    obtain ⟨f, rfl⟩ : ∃ q, f = q + 1 := ⟨f - 1, by omega⟩
    unfold w_R_noteHazardsOfGates_2
    refine ⟨fun hh => absurd ((nI_le24 (by omega)).mp hh) (by omega), fun _ => ?_⟩
    have go : ∀ m' ρ', FR r m m' → RR r m' ρ' → S_hz1 g n ρ w = ρ' → w_R_noteHazardsOfGates_2 f r (nI w + 1) m' E K := by
      intro m' ρ' f' r' e
      rw [nA1]
      refine ih (w + 1) f m' ρ' (by omega) (by omega) (hcc.fr hr f') (by rw [← e]; exact S_hz1_hz hz) r' fun m2 f2 r2 => hE m2 (f'.trans f2) ?_
      unfold S_hzL
      rw [e]; exact r2
    have go0 := fun e => go m ρ (FR.refl r m) h e
    have e1 : m (r + 1) w = ρ (6 + w) := h.1 w hw
    have e3 : m (r + 3) w = ρ (54 + w) := h.2.2.1 w hw
    have e4 : m (r + 4) w = ρ (78 + w) := h.2.2.2.1 w hw
    unfold S_hz1 at go go0
    refine s_C_firstLineOf hcc hw ⟨fun e => go0 (by rw [if_pos (Or.inl e)]), fun ne => ?_⟩
    obtain ⟨q, hq, eq, -⟩ := (S_drv_spec (g := g) (n := n) (w := w)).resolve_left (fun hh => ne hh.1)
    rw [eq]
    rw [eq, cl_nI (by omega)] at go go0
    have nq : ¬ nI q = -1 := nI_m1 (by omega)
    refine s_C_isGate hcc hq (hwf q hq) (fun hk => ⟨fun e => absurd e (by decide), fun _ => ⟨hin, ?_⟩⟩) (fun hk => ⟨fun _ => go0 (by rw [if_pos (Or.inr hk)]), fun e => absurd rfl e⟩)
    have hno : ¬ (nI q = -1 ∨ g 48 q < 0) := fun hh => hh.elim nq hk
    rw [nI_clamp (by omega), e4, e1, e3]
    refine ⟨fun e => go0 (by rw [if_neg hno, if_pos (Or.inl e)]), fun n4 => ⟨hin, fun n1 => ⟨hin, hin, ?_⟩, fun e => go0 (by rw [if_neg hno, if_pos (Or.inr e)])⟩⟩
    have hno2 : ¬ (ρ (78 + w) = 2 ∨ ρ (6 + w) = 2) := fun hh => hh.elim n4 n1
    intro J hJ
    have key : (ρ (6 + w) = ρ (78 + w) → ρ (54 + w) ≤ 0) → J m := by
      intro hor
      refine hJ _ ⟨hin, hin, ?_⟩
      rw [e1, e4, e3]
      refine ⟨fun e => ?_, fun ne2 => ⟨hin, fun lt => ?_, fun nlt => ?_⟩⟩
      · exact go0 (by rw [if_neg hno, if_neg hno2, if_pos e.symm, if_pos (hor e)])
      · have h2 : ρ (54 + w) ≤ 2 := by rw [Int32.lt_iff_toInt_lt, show (3 : Int32).toInt = 3 by decide] at lt; rw [Int32.le_iff_toInt_le, show (2 : Int32).toInt = 2 by decide]; omega
        exact go0 (by rw [if_neg hno, if_neg hno2, if_neg (fun e => ne2 e.symm), if_pos h2])
      · have h2 : ¬ ρ (54 + w) ≤ 2 := by rw [Int32.lt_iff_toInt_lt, show (3 : Int32).toInt = 3 by decide] at nlt; rw [Int32.le_iff_toInt_le, show (2 : Int32).toInt = 2 by decide]; omega
        refine s_R_noteHazard hz h fun m2 f2 r2 => go m2 _ f2 r2 (by rw [if_neg hno, if_neg hno2, if_neg (fun e => ne2 e.symm), if_neg h2])
    refine ⟨fun ne => key (fun e => absurd e ne), fun e => ⟨hin, fun h3 => key (fun _ => h3), fun h3 => ?_⟩⟩
    exact s_R_noteHazard hz h fun m2 f2 r2 => go m2 _ f2 r2 (by rw [if_neg hno, if_neg hno2, if_pos e.symm, if_neg h3])
end CR4
