/-! the class's run does what the reference's row says -/
/-- no line from n on is pending -/
def PN (n : Nat) (ρ : Rw) : Prop := ∀ l, n ≤ l → l < 30 → ρ (102 + l) = -1
section CR
variable {m g : Mem} {n r : Nat} {ρ : Rw}
theorem s_R_val {x : Int32} {K : Int32 → Mem → Prop} (h : RR r m ρ) (hx : isW x) (hK : K (S_val ρ x) m) : w_R_valueOf r x m K := by
  obtain ⟨w, hw, rfl⟩ := hx
  rw [S_val, cl_nI (by omega), ← h.1 w hw] at hK
  unfold w_R_valueOf
  rw [nI_clamp (by omega)]
  exact ⟨fun e => absurd e (nI_pos (by omega)), fun _ => ⟨fun e => absurd ((nI_le24 (by omega)).mp e) (by omega), fun _ => ⟨vp_in_nI hw (by decide), hK⟩⟩⟩
theorem s_R_turned {a : Int32} {K : Int32 → Mem → Prop} (hK : K (S_not a) m) : w_R_turned a m K := by
  unfold S_not at hK
  unfold w_R_turned
  by_cases h : a = 2
  · simp only [h, if_true] at hK
    simp only [h, not_true, false_implies, true_implies, true_and]; exact hK
  · simp only [if_neg h] at hK
    simp only [h, not_false_iff, false_implies, true_implies, and_true]; exact hK
theorem s_R_both {a b : Int32} {K : Int32 → Mem → Prop} (hK : K (S_and a b) m) : w_R_both a b m K := by
  unfold S_and at hK
  unfold w_R_both
  by_cases h : a = 0 <;> by_cases h1 : b = 0 <;> by_cases h2 : a = 1 <;> by_cases h3 : b = 1 <;> simp_all
theorem s_R_either {a b : Int32} {K : Int32 → Mem → Prop} (ha : isV a) (hb : isV b) (hK : K (S_not (S_and (S_not a) (S_not b))) m) : w_R_either a b m K := by
  unfold w_R_either
  rcases ha with rfl | rfl | rfl <;> rcases hb with rfl | rfl | rfl <;> simp [S_not, S_and] at hK ⊢ <;> exact hK
theorem s_R_chosen {a b c : Int32} {K : Int32 → Mem → Prop} (ha : isV a) (hb : isV b) (hc : isV c) (hK : K (if a = 1 then b else if a = 0 ∨ b = c then c else 2) m) : w_R_chosen a b c m K := by
  unfold w_R_chosen
  rcases ha with rfl | rfl | rfl <;> rcases hb with rfl | rfl | rfl <;> rcases hc with rfl | rfl | rfl <;> simp at hK ⊢ <;> exact hK
theorem s_R_worked {k : Nat} {a b c : Int32} {K : Int32 → Mem → Prop} (hk : k < 8) (ha : isV a) (hb : isV b) (hc : isV c) (hK : K (S_work (nI k) a b c) m) : w_R_worked (nI k) a b c m K := by
  have q0 : nI k = 0 ↔ k = 0 := nI_eq (b := 0) (by omega) (by omega)
  have q1 : nI k = 1 ↔ k = 1 := nI_eq (b := 1) (by omega) (by omega)
  have q2 : nI k = 2 ↔ k = 2 := nI_eq (b := 2) (by omega) (by omega)
  have q3 : nI k = 3 ↔ k = 3 := nI_eq (b := 3) (by omega) (by omega)
  have q4 : nI k = 4 ↔ k = 4 := nI_eq (b := 4) (by omega) (by omega)
  have q5 : nI k = 5 ↔ k = 5 := nI_eq (b := 5) (by omega) (by omega)
  have q6 : nI k = 6 ↔ k = 6 := nI_eq (b := 6) (by omega) (by omega)
  have q7 : nI k = 7 ↔ k = 7 := nI_eq (b := 7) (by omega) (by omega)
  unfold w_R_worked
  simp only [S_work, q0, q1, q2, q3, q4, q5, q6] at hK
  simp only [q0, q1, q2, q3, q4, q5, q6, q7]
  refine ⟨fun h => ?_, fun h => ?_, fun h => ?_, fun h => ?_, fun h => ?_, fun h => ?_, fun h => ?_, fun h => ?_, fun h0 h1 h2 h3 h4 h5 h6 h7 => ?_⟩
  · subst h; exact s_R_turned hK
  · subst h; exact hK
  · subst h; exact s_R_both hK
  · subst h; exact s_R_either ha hb hK
  · subst h
    simp only [show ¬ (4 = 0) by decide, show ¬ (4 = 1) by decide, show ¬ (4 = 2) by decide, show ¬ (4 = 3) by decide, if_false, if_true] at hK
    by_cases a2 : a = 2 <;> by_cases b2 : b = 2 <;> by_cases ab : a = b <;> simp_all
  · subst h; exact s_R_both (s_R_turned hK)
  · subst h
    refine s_R_either ha hb (s_R_turned ?_)
    simp only [show ¬ (6 = 0) by decide, show ¬ (6 = 1) by decide, show ¬ (6 = 2) by decide, show ¬ (6 = 3) by decide, show ¬ (6 = 4) by decide, show ¬ (6 = 5) by decide, if_false, if_true] at hK
    have e : S_not (S_not (S_and (S_not a) (S_not b))) = S_and (S_not a) (S_not b) := by
      rcases ha with rfl | rfl | rfl <;> rcases hb with rfl | rfl | rfl <;> decide
    rw [e]; exact hK
  · subst h
    simp only [show ¬ (7 = 0) by decide, show ¬ (7 = 1) by decide, show ¬ (7 = 2) by decide, show ¬ (7 = 3) by decide, show ¬ (7 = 4) by decide, show ¬ (7 = 5) by decide, show ¬ (7 = 6) by decide, if_false] at hK
    exact s_R_chosen ha hb hc hK
  · omega
theorem S_work_irr {k : Nat} {a b b' c c' : Int32} (hk : k < 8) (hb : k < 2 ∨ b = b') (hc : ¬ k = 7 ∨ c = c') : S_work (nI k) a b c = S_work (nI k) a b' c' := by
  have q0 : nI k = 0 ↔ k = 0 := nI_eq (b := 0) (by omega) (by omega)
  have q1 : nI k = 1 ↔ k = 1 := nI_eq (b := 1) (by omega) (by omega)
  have q2 : nI k = 2 ↔ k = 2 := nI_eq (b := 2) (by omega) (by omega)
  have q3 : nI k = 3 ↔ k = 3 := nI_eq (b := 3) (by omega) (by omega)
  have q4 : nI k = 4 ↔ k = 4 := nI_eq (b := 4) (by omega) (by omega)
  have q5 : nI k = 5 ↔ k = 5 := nI_eq (b := 5) (by omega) (by omega)
  have q6 : nI k = 6 ↔ k = 6 := nI_eq (b := 6) (by omega) (by omega)
  simp only [S_work, q0, q1, q2, q3, q4, q5, q6]
  rcases hb with hb | rfl
  · by_cases k0 : k = 0
    · rw [if_pos k0, if_pos k0]
    · have k1 : k = 1 := by omega
      rw [if_neg k0, if_neg k0, if_pos k1, if_pos k1]
  · rcases hc with hc | rfl
    · by_cases k0 : k = 0
      · rw [if_pos k0, if_pos k0]
      · by_cases k1 : k = 1
        · rw [if_neg k0, if_neg k0, if_pos k1, if_pos k1]
        · by_cases k2 : k = 2
          · rw [if_neg k0, if_neg k0, if_neg k1, if_neg k1, if_pos k2, if_pos k2]
          · by_cases k3 : k = 3
            · rw [if_neg k0, if_neg k0, if_neg k1, if_neg k1, if_neg k2, if_neg k2, if_pos k3, if_pos k3]
            · by_cases k4 : k = 4
              · rw [if_neg k0, if_neg k0, if_neg k1, if_neg k1, if_neg k2, if_neg k2, if_neg k3, if_neg k3, if_pos k4, if_pos k4]
              · by_cases k5 : k = 5
                · rw [if_neg k0, if_neg k0, if_neg k1, if_neg k1, if_neg k2, if_neg k2, if_neg k3, if_neg k3, if_neg k4, if_neg k4, if_pos k5, if_pos k5]
                · have k6 : k = 6 := by omega
                  rw [if_neg k0, if_neg k0, if_neg k1, if_neg k1, if_neg k2, if_neg k2, if_neg k3, if_neg k3, if_neg k4, if_neg k4, if_neg k5, if_neg k5, if_pos k6, if_pos k6]
    · rfl
theorem s_R_makePending {l : Nat} {v : Int32} {K : Mem → Prop} (hcc : CC m g n) (hr : 23 ≤ r) (hl : l < n) (h : RR r m ρ) (hK : ∀ m', FR r m m' → RR r m' (S_pend g ρ l v) → K m') : w_R_makePending r (nI l) v m K := by
  have hn := hcc.1
  have h8 : m 8 l = g 53 l := (hcc.2.2.1 l hl).2.2.1
  have hin : vp_in (nI l) 30 := vp_in_nI (by omega) (by decide)
  unfold w_R_makePending
  rw [nI_clamp (by omega)]
  refine ⟨hin, ?_⟩
  intro m1 e1
  refine ⟨hin, hin, ?_⟩
  intro m2 e2
  refine ⟨hin, ?_⟩
  intro m3 e3 m4 e4
  have q1 : m1 r 13 + m1 8 l = m r 13 + m 8 l := by rw [e1]; simp (disch := omega) only [up2, up_ne]
  rw [q1] at e2
  have q2 : m2 r 14 = m r 14 := by rw [e2, e1]; simp (disch := omega) only [up2, up_ne]
  rw [q2] at e3
  have q3 : m3 r 14 = m r 14 := by rw [e3, e2, e1]; simp (disch := omega) only [up2, up_ne]
  rw [q3] at e4
  subst e1 e2 e3 e4
  refine hK _ ?_ (h.pend (n := n) (by omega) h8 hr)
  exact FR.up (FR.up (FR.up (FR.up (FR.refl r m) (by omega)) (by omega)) (by omega)) (by omega)
theorem s_R_noteHazard {c w : Int32} {K : Mem → Prop} (hz : HZ ρ) (h : RR r m ρ) (hK : ∀ m', FR r m m' → RR r m' (S_haz ρ c w) → K m') : w_R_noteHazard r c w m K := by
  obtain ⟨q, hq, e5⟩ := hz
  have e12 : m r 12 = nI q := h.2.2.2.2.2.2.2.1.trans e5
  unfold w_R_noteHazard
  rw [e12]
  by_cases h40 : q = 40
  · subst h40
    have e : S_haz ρ c w = ρ := by unfold S_haz; rw [if_pos (by rw [e5]; rfl)]
    rw [e] at hK
    exact ⟨fun _ => hK m (FR.refl r m) h, fun hh => absurd (show (40 : Int32) ≤ nI 40 by decide) hh⟩
  · have hlt : q < 40 := by omega
    have hin : vp_in (nI q) 40 := vp_in_nI hlt (by decide)
    refine ⟨fun hh => absurd ((nI_leI (a := 40) (by decide) (by omega)).mp hh) (by omega), fun _ => ⟨hin, ?_⟩⟩
    rw [nI_clamp (by omega)]
    intro m2 e2
    have q2 : m2 r 12 = nI q := by rw [e2]; simp (disch := omega) only [up2, up_ne, e12]
    rw [q2, nI_clamp (by omega)]
    refine ⟨hin, ?_⟩
    intro m3 e3
    have q3 : m3 r 12 = nI q := by rw [e3]; simp (disch := omega) only [up2, up_ne, q2]
    have q3b : m3 r 13 = m r 13 := by rw [e3, e2]; simp (disch := omega) only [up2, up_ne]
    rw [q3, q3b, nI_clamp (by omega)]
    refine ⟨hin, ?_⟩
    intro m4 e4 m5 e5'
    have q4 : m4 r 12 = m r 12 := by rw [e4]; simp (disch := omega) only [up2, up_ne, q3, e12]
    rw [q4] at e5'
    subst e2 e3 e4 e5'
    refine hK _ ?_ (h.haz (g := m) (n := 0) hlt e5)
    exact FR.up (FR.up (FR.up (FR.up (FR.refl r m) (by omega)) (by omega)) (by omega)) (by omega)
theorem s_R_isRecent {t win : Int32} {K : Int32 → Mem → Prop} (h : RR r m ρ) (h1 : (¬ t = -1 ∧ ¬ t ≤ ρ 0 - win) → K 1 m) (h0 : ¬ (¬ t = -1 ∧ ¬ t ≤ ρ 0 - win) → K 0 m) : w_R_isRecent r t win m K := by
  have e13 : m r 13 = ρ 0 := h.2.2.2.2.2.2.2.2.1
  unfold w_R_isRecent
  rw [e13]
  exact ⟨fun e => h0 (fun hh => hh.1 e), fun a => ⟨fun e => h0 (fun hh => hh.2 e), fun b => h1 ⟨a, b⟩⟩⟩
theorem s_R_askGate {l k : Nat} {K : Mem → Prop} (hcc : CC m g n) (hr : 23 ≤ r) (hl : l < n) (hwf : WFl g l) (hk : k < 8) (ek : g 48 l = nI k) (hv : VR ρ) (h : RR r m ρ) (hK : ∀ m', FR r m m' → RR r m' (S_gate g ρ l) → K m') : w_R_askGate r (nI l) m K := by
  have hn := hcc.1
  have hin : vp_in (nI l) 30 := vp_in_nI (by omega) (by decide)
  obtain ⟨c4, c5, c8, c9, c10, cc⟩ := hcc.2.2.1 l hl
  have n1 : ∀ x : Int32, x = -1 → ¬ nI k = x := fun x e he => nI_m1 (show k < 2 ^ 31 by omega) (he.trans e)
  have n2 : ¬ nI k = -2 := by
    intro e
    have := congrArg Int32.toInt e
    rw [nI_toInt (by omega), show (-2 : Int32).toInt = -2 by decide] at this
    omega
  have hg : isW (g 50 l) ∧ (if 2 ≤ k then isW (g 51 l) else g 51 l = -1) ∧ (if k = 7 then isW (g 52 l) else g 52 l = -1) := by
    rcases hwf.2 with hh | hh | ⟨k', hk', e', hh⟩
    · exact absurd (ek.symm.trans hh.1) (n1 _ rfl)
    · exact absurd (ek.symm.trans hh.1) n2
    · have : k' = k := (nI_eq (by omega) (by omega)).mp (e'.symm.trans ek)
      subst this; exact hh
  obtain ⟨c3, c6, c7⟩ : m 3 l = nI k ∧ m 6 l = (if 2 ≤ k then g 51 l else g 50 l) ∧ m 7 l = (if k = 7 then g 52 l else g 50 l) := by
    rcases cc with hh | hh | ⟨k', hk', e', hh⟩
    · exact absurd (ek.symm.trans hh.1) (n1 _ rfl)
    · exact absurd (ek.symm.trans hh.1) n2
    · have : k' = k := (nI_eq (by omega) (by omega)).mp (e'.symm.trans ek)
      subst this; exact hh
  obtain ⟨g50, g51, g52⟩ := hg
  have w6 : isW (m 6 l) := by
    rw [c6]; split
    · rename_i h2; rw [if_pos h2] at g51; exact g51
    · exact g50
  have w7 : isW (m 7 l) := by
    rw [c7]; split
    · rename_i h2; rw [if_pos h2] at g52; exact g52
    · exact g50
  have w5 : isW (m 5 l) := by rw [c5]; exact g50
  have e5 : m (r + 5) l = ρ (102 + l) := h.2.2.2.2.1 l (by omega)
  unfold w_R_askGate
  rw [nI_clamp (by omega)]
  refine ⟨hin, hin, s_R_val h w5 ⟨hin, s_R_val h w6 ⟨hin, s_R_val h w7 ?_⟩⟩⟩
  rw [c3]
  refine s_R_worked hk (hv.val w5) (hv.val w6) (hv.val w7) ?_
  have ev : S_work (nI k) (S_val ρ (m 5 l)) (S_val ρ (m 6 l)) (S_val ρ (m 7 l)) = S_reckon g ρ l := by
    unfold S_reckon
    rw [ek, c5]
    refine S_work_irr hk ?_ ?_
    · by_cases h2 : 2 ≤ k
      · right
        rw [if_pos h2] at g51
        obtain ⟨w, hw, ew⟩ := g51
        rw [c6, if_pos h2, ew, if_neg (nI_m1 (by omega))]
      · left; omega
    · by_cases h7 : k = 7
      · right; rw [c7, if_pos h7]
      · left; exact h7
  rw [ev]
  unfold S_gate at hK
  have hS := h
  generalize S_reckon g ρ l = v at hK ⊢
  refine ⟨hin, ?_⟩
  intro J hJ
  have key : ∀ (m1 : Mem) (ρ1 : Rw), FR r m m1 → RR r m1 ρ1 → (∀ m', FR r m m' → RR r m' (S_gate2 g ρ1 l v) → K m') → J m1 := by
    intro m1 ρ1 hf h1 hK1
    have cc1 := hcc.fr hr hf
    have e4 : m1 4 l = g 49 l := (cc1.2.2.1 l hl).1
    have e5' : m1 (r + 5) l = ρ1 (102 + l) := h1.2.2.2.2.1 l (by omega)
    unfold S_gate2 at hK1
    refine hJ _ ⟨hin, ?_⟩
    rw [e5', e4]
    refine ⟨fun ne => ?_, fun eq => ⟨hin, s_R_val h1 hwf.1 ⟨fun e2 => ?_, fun ne2 => s_R_makePending cc1 hr hl h1 (fun m2 f2 r2 => ?_)⟩⟩⟩
    · rw [if_neg (fun hh => ne hh.1)] at hK1; exact hK1 m1 hf h1
    · rw [if_neg (fun hh => hh.2 e2)] at hK1; exact hK1 m1 hf h1
    · rw [if_pos ⟨eq, ne2⟩] at hK1; exact hK1 m2 (hf.trans f2) r2
  rw [e5]
  unfold S_gate1 at hK
  refine ⟨fun e1 => key m ρ (FR.refl r m) h ?_, fun ne => ⟨hin, fun e1 => key m ρ (FR.refl r m) h ?_, fun ne2 => ⟨hin, ?_⟩⟩⟩
  · rw [if_pos (Or.inl e1)] at hK; exact hK
  · rw [if_pos (Or.inr e1)] at hK; exact hK
  · rw [if_neg (fun hh => hh.elim ne ne2)] at hK
    intro m13 e13 m14 e14
    have q1 : m13 r 15 = m r 15 := by rw [e13]; simp (disch := omega) only [up2, up_ne]
    rw [q1] at e14
    subst e13 e14
    exact key _ _ (FR.up (FR.up (FR.refl r m) (by omega)) (by omega)) (h.swal (g := g) (n := n) (by omega)) hK
end CR
