/-! what runs, seen from the rows: values, what is pending, times -/
/-- a circuit whose line l drives the wire l, inputs first, all that is used lies ahead -/
def GD (g : Mem) (n : Nat) : Prop := (4 ≤ n ∧ n ≤ 17) ∧ ∀ l, l < n → WFl g l ∧ g 49 l = nI l ∧ (g 54 l = 0 ∧ g 55 l = 0) ∧ (∃ d : Nat, d ≤ 20 ∧ g 53 l = nI d) ∧ (g 48 l = -1 ↔ l < 4) ∧ ∀ w, w < 24 → S_uses g l w → w < l
theorem WFl.gpins {g : Mem} {l k : Nat} (hwf : WFl g l) (hk8 : k < 8) (ek : g 48 l = nI k) : isW (g 50 l) ∧ (if 2 ≤ k then isW (g 51 l) else g 51 l = -1) ∧ (if k = 7 then isW (g 52 l) else g 52 l = -1) := by
  rcases hwf.2 with hh | hh | ⟨k', hk', e', hh⟩
  · exact absurd (ek.symm.trans hh.1) (nI_m1 (by omega))
  · exact absurd (ek.symm.trans hh.1) (nI_m2 (by omega))
  · have : k' = k := (nI_eq (by omega) (by omega)).mp (e'.symm.trans ek)
    subst this; exact hh
theorem reckon_same {g : Mem} {ρ ρ' : Rw} {l : Nat} (hw : WFl g l) (hk : ¬ g 48 l < 0) (h : ∀ w, w < 24 → S_uses g l w → ρ' (6 + w) = ρ (6 + w)) : S_reckon g ρ' l = S_reckon g ρ l := by
  obtain ⟨k, hk8, ek⟩ := hw.gate hk
  obtain ⟨g50, g51, g52⟩ := hw.gpins hk8 ek
  have key : ∀ x, isW x → (g 50 l = x ∨ g 51 l = x ∨ g 52 l = x) → S_val ρ' x = S_val ρ x := by
    intro x hx hu
    obtain ⟨w, hw, rfl⟩ := hx
    rw [S_val, S_val, cl_nI (by omega)]
    exact h w hw hu
  unfold S_reckon
  rw [ek, key _ g50 (Or.inl rfl)]
  refine S_work_irr hk8 ?_ ?_
  · by_cases q : 2 ≤ k
    · rw [if_pos q] at g51
      have : ¬ g 51 l = -1 := fun e => by obtain ⟨w, hw, e2⟩ := g51; exact nI_m1 (l := w) (by omega) (e2.symm.trans e)
      rw [if_neg this, if_neg this]
      exact Or.inr (key _ g51 (Or.inr (Or.inl rfl)))
    · exact Or.inl (by omega)
  · by_cases q : k = 7
    · rw [if_pos q] at g52
      exact Or.inr (key _ g52 (Or.inr (Or.inr rfl)))
    · exact Or.inl q
/-- what a gate has pending, by the values -/
def GS1 (g : Mem) (ρ : Rw) (l : Nat) : Prop := ρ (102 + l) = if ρ (6 + l) = S_reckon g ρ l then -1 else S_reckon g ρ l
def WK (ρ : Rw) (l : Nat) : Prop := ρ (102 + l) = -1 ∨ ¬ ρ (102 + l) = ρ (6 + l)
theorem GS1.wk {g : Mem} {ρ : Rw} {l : Nat} (h : GS1 g ρ l) : WK ρ l := by
  unfold GS1 at h
  unfold WK
  rw [h]
  split
  · exact Or.inl rfl
  · rename_i q; exact Or.inr fun e => q e.symm
theorem GS1.cg {g : Mem} {ρ ρ' : Rw} {l : Nat} (h : GS1 g ρ l) (h1 : ρ' (102 + l) = ρ (102 + l)) (h2 : ρ' (6 + l) = ρ (6 + l)) (h3 : S_reckon g ρ' l = S_reckon g ρ l) : GS1 g ρ' l := by
  unfold GS1 at *
  rw [h1, h2, h3]; exact h
section GATE
variable {g : Mem} {ρ : Rw} {n l : Nat}
theorem gate_lo {i : Nat} (h1 : i ≠ 1) (h4 : i ≠ 4) (h : i ≠ 102 + l ∧ i ≠ 132 + l ∧ i ≠ 162 + l) : S_gate g ρ l i = ρ i := by
  have e1 : ∀ v, S_gate1 ρ l v i = ρ i := fun v => by
    unfold S_gate1
    split
    · rfl
    · rw [upd_ne h1, upd_ne h.1]
  have e2 : ∀ (r : Rw) v, S_gate2 g r l v i = r i := fun r v => by
    unfold S_gate2
    split
    · unfold S_pend
      rw [upd_ne h.2.2, upd_ne h4, upd_ne h.2.1, upd_ne h.1]
    · rfl
  unfold S_gate
  rw [e2, e1]
theorem gate_p (hl : l < 30) (e49 : g 49 l = nI l) (hw : WK ρ l) (hm : ¬ S_reckon g ρ l = -1) : S_gate g ρ l (102 + l) = if ρ (6 + l) = S_reckon g ρ l then -1 else S_reckon g ρ l := by
  unfold S_gate
  generalize S_reckon g ρ l = R at *
  have hv : ∀ r : Rw, S_val r (g 49 l) = r (6 + l) := fun r => by rw [S_val, e49, cl_nI (by omega)]
  unfold S_gate1
  by_cases c1 : ρ (102 + l) = -1 ∨ ρ (102 + l) = R
  · rw [if_pos c1]
    unfold S_gate2
    rw [hv]
    by_cases c2 : ρ (102 + l) = -1 ∧ ¬ R = ρ (6 + l)
    · rw [if_pos c2, if_neg (fun e => c2.2 e.symm)]
      unfold S_pend
      rw [upd_ne (by omega), upd_ne (by omega), upd_ne (by omega), upd_same]
    · rw [if_neg c2]
      by_cases c3 : ρ (102 + l) = -1
      · have : ρ (6 + l) = R := Decidable.byContradiction fun q => c2 ⟨c3, fun e => q e.symm⟩
        rw [if_pos this]; exact c3
      · have e := c1.resolve_left c3
        have : ¬ ρ (6 + l) = R := fun q => (hw.resolve_left c3) (e.trans q.symm)
        rw [if_neg this]; exact e
  · rw [if_neg c1]
    unfold S_gate2
    have ep : (upd (upd ρ (102 + l) (-1)) 1 (ρ 1 + 1)) (102 + l) = -1 := by rw [upd_ne (by omega), upd_same]
    have e6 : (upd (upd ρ (102 + l) (-1)) 1 (ρ 1 + 1)) (6 + l) = ρ (6 + l) := by rw [upd_ne (by omega), upd_ne (by omega)]
    rw [hv, ep, e6]
    by_cases c2 : R = ρ (6 + l)
    · rw [if_neg (fun q => q.2 c2), if_pos c2.symm]; exact ep
    · rw [if_pos ⟨rfl, c2⟩, if_neg (fun e => c2 e.symm)]
      unfold S_pend
      rw [upd_ne (by omega), upd_ne (by omega), upd_ne (by omega), upd_same]
theorem gate_t (hl : l < 30) (hp : ¬ S_gate g ρ l (102 + l) = -1) : (¬ ρ (102 + l) = -1 ∧ S_gate g ρ l (132 + l) = ρ (132 + l)) ∨ S_gate g ρ l (132 + l) = ρ 0 + g 53 l := by
  unfold S_gate at *
  generalize S_reckon g ρ l = R at *
  have pt : ∀ r : Rw, S_pend g r l R (132 + l) = r 0 + g 53 l := fun r => by
    unfold S_pend
    rw [upd_ne (by omega), upd_ne (by omega), upd_same]
  unfold S_gate1 at *
  by_cases c1 : ρ (102 + l) = -1 ∨ ρ (102 + l) = R
  · rw [if_pos c1] at hp ⊢
    unfold S_gate2 at *
    by_cases c2 : ρ (102 + l) = -1 ∧ ¬ R = S_val ρ (g 49 l)
    · rw [if_pos c2]; exact Or.inr (pt _)
    · rw [if_neg c2] at hp ⊢
      exact Or.inl ⟨hp, rfl⟩
  · rw [if_neg c1] at hp ⊢
    unfold S_gate2 at *
    by_cases c2 : (upd (upd ρ (102 + l) (-1)) 1 (ρ 1 + 1)) (102 + l) = -1 ∧ ¬ R = S_val (upd (upd ρ (102 + l) (-1)) 1 (ρ 1 + 1)) (g 49 l)
    · rw [if_pos c2]
      right
      rw [pt, upd_ne (by omega), upd_ne (by omega)]
    · rw [if_neg c2] at hp
      exact absurd (by rw [upd_ne (by omega), upd_same]) hp
end GATE
def TMS (now : Nat) (x : Int32) : Prop := x = -1 ∨ ∃ t : Nat, t ≤ now ∧ x = nI t
theorem TMS.le {a b : Nat} {x : Int32} (h : TMS a x) (hab : a ≤ b) : TMS b x := h.imp id fun ⟨t, ht, e⟩ => ⟨t, by omega, e⟩
/-- the hazards: of gates, in time -/
def HL (g : Mem) (n now : Nat) (ρ : Rw) : Prop := ∃ (H : Nat) (tm : Nat → Nat), H ≤ 40 ∧ ρ 5 = nI H ∧ ∀ k, k < H → (ρ (222 + 3 * k) = 1 ∨ ρ (222 + 3 * k) = 2) ∧ (∃ w, w < n ∧ ¬ g 48 w < 0 ∧ ρ (222 + 3 * k + 1) = nI w) ∧ ρ (222 + 3 * k + 2) = nI (tm k) ∧ tm k ≤ now ∧ ∀ j, j ≤ k → tm j ≤ tm k
theorem HL.cg {g : Mem} {n a b : Nat} {ρ ρ' : Rw} (h : HL g n a ρ) (hab : a ≤ b) (h5 : ρ' 5 = ρ 5) (hi : ∀ i, 222 ≤ i → ρ' i = ρ i) : HL g n b ρ' := by
  obtain ⟨H, tm, h40, e5, hk⟩ := h
  refine ⟨H, tm, h40, h5.trans e5, fun k hlt => ?_⟩
  obtain ⟨a1, a2, a3, a4, a5⟩ := hk k hlt
  rw [hi _ (by omega), hi _ (by omega), hi _ (by omega)]
  exact ⟨a1, a2, a3, by omega, a5⟩
/-- all that is the same whether gates agree or not -/
def SI (g : Mem) (n now B : Nat) (ρ : Rw) : Prop := (ρ 0 = nI now ∧ ρ 2 = 0) ∧ (∀ l, l < n → g 48 l = -1 → ρ (102 + l) = -1) ∧ (∀ l, l < n → ¬ ρ (102 + l) = -1 → ∃ t : Nat, now ≤ t ∧ t ≤ now + 20 ∧ ρ (132 + l) = nI t) ∧
  (∀ w, w < 24 → TMS now (ρ (30 + w))) ∧ (∀ l, l < n → TMS now (ρ (192 + l))) ∧ (∀ w, w < 24 → ∃ c : Nat, c ≤ B ∧ ρ (54 + w) = nI c) ∧ HL g n now ρ ∧ VR ρ
theorem SI.le {g : Mem} {n now B B' : Nat} {ρ : Rw} (h : SI g n now B ρ) (hB : B ≤ B') : SI g n now B' ρ := by
  obtain ⟨a1, a2, a3, a4, a5, a6, a7⟩ := h
  exact ⟨a1, a2, a3, a4, a5, fun w hw => by obtain ⟨c, hc, e⟩ := a6 w hw; exact ⟨c, by omega, e⟩, a7⟩
/-- only what is pending has changed -/
theorem SI.pd {g : Mem} {n now B : Nat} {ρ ρ' : Rw} (h : SI g n now B ρ) (hv : VR ρ') (h0 : ∀ i, i ≠ 1 → i ≠ 4 → (i < 102 ∨ 192 ≤ i) → ρ' i = ρ i) (hp : ∀ l, l < n → ¬ ρ' (102 + l) = -1 → ¬ g 48 l = -1 ∧ ∃ t : Nat, now ≤ t ∧ t ≤ now + 20 ∧ ρ' (132 + l) = nI t) : SI g n now B ρ' := by
  obtain ⟨a1, a2, a3, a4, a5, a6, a7, a8⟩ := h
  refine ⟨⟨(h0 0 (by omega) (by omega) (by omega)).trans a1.1, (h0 2 (by omega) (by omega) (by omega)).trans a1.2⟩, fun l hl e => Decidable.byContradiction fun q => (hp l hl q).1 e, fun l hl q => (hp l hl q).2, fun w hw => ?_, fun l hl => ?_, fun w hw => ?_, a7.cg (Nat.le_refl _) (h0 5 (by omega) (by omega) (by omega)) fun i hi => h0 i (by omega) (by omega) (by omega), hv⟩
  · rw [h0 _ (by omega) (by omega) (by omega)]; exact a4 w hw
  · rw [h0 _ (by omega) (by omega) (by omega)]; exact a5 l hl
  · rw [h0 _ (by omega) (by omega) (by omega)]; exact a6 w hw
theorem GD.le30 {g : Mem} {n : Nat} (h : GD g n) : n ≤ 30 := by have := h.1; omega
theorem GD.wf {g : Mem} {n : Nat} (h : GD g n) : ∀ l, l < n → WFl g l := fun l hl => (h.2 l hl).1
theorem SI.gate {g : Mem} {n now B l : Nat} {ρ : Rw} (hG : GD g n) (h : SI g n now B ρ) (hl : l < n) (hk : ¬ g 48 l < 0) : SI g n now B (S_gate g ρ l) := by
  have hn := hG.le30
  have hwf := hG.wf l hl
  refine h.pd (h.2.2.2.2.2.2.2.gate (by omega) hwf) (fun i h1 h4 hi => gate_lo h1 h4 (by omega)) fun q hq hp => ?_
  by_cases e : q = l
  · subst e
    refine ⟨fun e => hk (by rw [e]; decide), ?_⟩
    rcases gate_t (by omega) hp with ⟨g1, g2⟩ | g2
    · rw [g2]; exact h.2.2.1 q hq g1
    · obtain ⟨d, hd, ed⟩ := (hG.2 q hq).2.2.2.1
      rw [g2, h.1.1, ed, nI_add]
      exact ⟨now + d, by omega, by omega, rfl⟩
  · rw [gate_lo (by omega) (by omega) (by omega)] at hp
    rw [gate_lo (by omega) (by omega) (by omega)]
    exact ⟨fun e => hp (h.2.1 q hq e), h.2.2.1 q hq hp⟩
theorem SI.pend {g : Mem} {n now B l : Nat} {ρ : Rw} {v : Int32} (hG : GD g n) (h : SI g n now B ρ) (hl : l < n) (hk : ¬ g 48 l = -1) (hv : isV v) : SI g n now B (S_pend g ρ l v) := by
  have hn := hG.le30
  have lo : ∀ i, i ≠ 4 → (i ≠ 102 + l ∧ i ≠ 132 + l ∧ i ≠ 162 + l) → S_pend g ρ l v i = ρ i := fun i h4 hi => by
    unfold S_pend
    rw [upd_ne hi.2.2, upd_ne h4, upd_ne hi.2.1, upd_ne hi.1]
  refine h.pd (h.2.2.2.2.2.2.2.pend (by omega) hv) (fun i h1 h4 hi => lo i h4 (by omega)) fun q hq hp => ?_
  by_cases e : q = l
  · subst e
    refine ⟨hk, ?_⟩
    obtain ⟨d, hd, ed⟩ := (hG.2 q hq).2.2.2.1
    have : S_pend g ρ q v (132 + q) = ρ 0 + g 53 q := by
      unfold S_pend
      rw [upd_ne (by omega), upd_ne (by omega), upd_same]
    rw [this, h.1.1, ed, nI_add]
    exact ⟨now + d, by omega, by omega, rfl⟩
  · rw [lo _ (by omega) (by omega)] at hp ⊢
    exact ⟨fun e => hp (h.2.1 q hq e), h.2.2.1 q hq hp⟩
theorem SI.rise {g : Mem} {n now B l : Nat} {ρ : Rw} (h : SI g n now B ρ) (hn : n ≤ 30) (hl : l < 30) : SI g n now B (upd ρ (192 + l) (ρ 0)) := by
  obtain ⟨a1, a2, a3, a4, a5, a6, a7, a8⟩ := h
  refine ⟨⟨(upd_ne (by omega)).trans a1.1, (upd_ne (by omega)).trans a1.2⟩, fun q hq e => (upd_ne (by omega)).trans (a2 q hq e), fun q hq e => ?_, fun w hw => ?_, fun q hq => ?_, fun w hw => ?_, a7.cg (Nat.le_refl _) (upd_ne (by omega)) fun i hi => upd_ne (by omega), VR.upd_out a8 (by omega)⟩
  · rw [upd_ne (by omega)] at e
    rw [upd_ne (by omega)]; exact a3 q hq e
  · rw [upd_ne (by omega)]; exact a4 w hw
  · by_cases e : q = l
    · subst e; rw [upd_same]; exact Or.inr ⟨now, Nat.le_refl _, a1.1⟩
    · rw [upd_ne (by omega)]; exact a5 q hq
  · rw [upd_ne (by omega)]; exact a6 w hw
theorem TMS.no {now : Nat} {x y : Int32} (h : TMS now x) (hn : now < 2 ^ 31) (hy : y = nI now) : ¬ (¬ x = -1 ∧ ¬ x ≤ y - 0) := by
  rintro ⟨h1, h2⟩
  obtain ⟨t, ht, rfl⟩ := h.resolve_left h1
  subst hy
  rw [Int32.sub_zero] at h2
  exact h2 (nI_le ht (by omega))
/-- a register is asked: no hazard where nothing is held -/
theorem SI.reg {g : Mem} {n now B l w : Nat} {ρ : Rw} {was : Int32} (hG : GD g n) (h : SI g n now B ρ) (hn31 : now < 2 ^ 31) (hl : l < n) (hk : g 48 l = -2) : SI g n now B (S_reg g ρ l w was) ∧ ∀ q, q < 30 → q ≠ l → S_reg g ρ l w was (102 + q) = ρ (102 + q) := by
  have hn := hG.le30
  have hk1 : ¬ g 48 l = -1 := fun e => by rw [hk] at e; revert e; decide
  obtain ⟨hwf, -, ⟨e54, e55⟩, -⟩ := hG.2 l hl
  have po : ∀ (r : Rw) v q, q < 30 → q ≠ l → S_pend g r l v (102 + q) = r (102 + q) := fun r v q hq e => by
    unfold S_pend
    rw [upd_ne (by omega), upd_ne (by omega), upd_ne (by omega), upd_ne (by omega)]
  have g50 : isW (g 50 l) := by
    rcases hwf.2 with hh | hh | ⟨k, hk8, e, -⟩
    · exact absurd hh.1 hk1
    · exact hh.2.1
    · exact absurd (e.symm.trans hk) (nI_m2 (by omega))
  unfold S_reg
  have h1 : SI g n now B (S_reg1 g ρ l w) ∧ ∀ q, q < 30 → q ≠ l → S_reg1 g ρ l w (102 + q) = ρ (102 + q) := by
    unfold S_reg1
    split
    · exact ⟨h.pend hG hl hk1 isV0, fun q hq e => po _ _ q hq e⟩
    · exact ⟨h, fun _ _ _ => rfl⟩
  generalize S_reg1 g ρ l w = ρ1 at *
  have h2 : SI g n now B (S_reg2 g ρ1 l w was) ∧ ∀ q, q < 30 → q ≠ l → S_reg2 g ρ1 l w was (102 + q) = ρ1 (102 + q) := by
    unfold S_reg2
    split
    · unfold S_reg2r
      have hc : cl (g 50 l) < 24 := by obtain ⟨a, ha, e⟩ := g50; rw [e, cl_nI (by omega)]; exact ha
      rw [e54, if_neg ((h1.1.2.2.2.1 _ hc).no hn31 h1.1.1.1)]
      unfold S_rise
      exact ⟨(h1.1.rise hn (by omega)).pend hG hl hk1 (h1.1.2.2.2.2.2.2.2.val g50), fun q hq e => by rw [po _ _ q hq e, upd_ne (by omega)]⟩
    · exact ⟨h1.1, fun _ _ _ => rfl⟩
  generalize S_reg2 g ρ1 l w was = ρ2 at *
  unfold S_reg3
  rw [e55, if_neg (fun q => (h2.1.2.2.2.2.1 l hl).no hn31 h2.1.1.1 q.2)]
  exact ⟨h2.1, fun q hq e => (h2.2 q hq e).trans (h1.2 q hq e)⟩
