/-! a wire changes, what is pending comes -/
def GCo (g : Mem) (n : Nat) (ρ : Rw) : Prop := ∀ l, l < n → ¬ g 48 l < 0 → GS1 g ρ l
theorem GD.kind {g : Mem} {n l : Nat} (hG : GD g n) (hl : l < n) (hk : g 48 l < 0) : g 48 l = -1 ∨ g 48 l = -2 := by
  rcases (hG.wf l hl).2 with hh | hh | ⟨k, hk8, e, -⟩
  · exact Or.inl hh.1
  · exact Or.inr hh.1
  · rw [e] at hk; exact absurd hk (nI_pos (by omega))
theorem GD.inp {g : Mem} {n l w : Nat} (hG : GD g n) (hl : l < n) (hw : w < 24) (hk : g 48 l = -1) : ¬ S_uses g l w := by
  rcases (hG.wf l hl).2 with hh | hh | ⟨k, hk8, e, -⟩
  · rintro (e | e | e)
    · exact nI_m1 (l := w) (by omega) (e.symm.trans hh.2.1)
    · exact nI_m1 (l := w) (by omega) (e.symm.trans hh.2.2.1)
    · exact nI_m1 (l := w) (by omega) (e.symm.trans hh.2.2.2.1)
  · rw [hh.1] at hk; exact absurd hk (by decide)
  · exact absurd (e.symm.trans hk) (nI_m1 (by omega))
theorem SI.ask1 {g : Mem} {n now B l w : Nat} {ρ : Rw} {was : Int32} (hG : GD g n) (h : SI g n now B ρ) (hn31 : now < 2 ^ 31) (hl : l < n) (hw : w < 24) : SI g n now B (S_ask1 g w was l ρ) ∧ ∀ q, q < 30 → q ≠ l → S_ask1 g w was l ρ (102 + q) = ρ (102 + q) := by
  have hn := hG.le30
  unfold S_ask1
  split
  · rename_i hu
    split
    · rename_i hk
      rcases hG.kind hl hk with e | e
      · exact absurd hu (hG.inp hl hw e)
      · exact h.reg hG hn31 hl e
    · rename_i hk
      exact ⟨h.gate hG hl hk, fun q hq e => gate_lo (by omega) (by omega) (by omega)⟩
  · exact ⟨h, fun _ _ _ => rfl⟩
theorem ask1_3 {g : Mem} {l w : Nat} {was : Int32} {ρ : Rw} : S_ask1 g w was l ρ 3 = ρ 3 := by
  have pp : ∀ (r : Rw) v, S_pend g r l v 3 = r 3 := fun r v => by
    unfold S_pend
    rw [upd_ne (by omega), upd_ne (by omega), upd_ne (by omega), upd_ne (by omega)]
  have ph : ∀ (r : Rw) c x, S_haz r c x 3 = r 3 := fun r c x => S_haz_low (by omega) (by omega)
  unfold S_ask1
  split
  · split
    · unfold S_reg S_reg3
      have e2 : ∀ r : Rw, S_reg2 g r l w was 3 = r 3 := fun r => by
        unfold S_reg2
        split
        · unfold S_reg2r
          split
          · unfold S_rise; rw [pp, upd_ne (by omega), ph]
          · unfold S_rise; rw [pp, upd_ne (by omega)]
        · rfl
      have e1 : S_reg1 g ρ l w 3 = ρ 3 := by
        unfold S_reg1
        split
        · exact pp _ _
        · rfl
      split
      · rw [pp, ph, e2, e1]
      · rw [e2, e1]
    · exact gate_lo (by omega) (by omega) (by omega)
  · rfl
theorem ask_ok {g : Mem} {n now B w : Nat} {was : Int32} (hG : GD g n) (hn31 : now < 2 ^ 31) (hw : w < 24) : ∀ (r l : Nat) (ρ : Rw), l + r = n → SI g n now B ρ → (∀ q, q < n → ¬ g 48 q < 0 → l ≤ q → S_uses g q w → WK ρ q) → (∀ q, q < n → ¬ g 48 q < 0 → (q < l ∨ ¬ S_uses g q w) → GS1 g ρ q) →
    SI g n now B (S_ask g w was r l ρ) ∧ GCo g n (S_ask g w was r l ρ) ∧ S_ask g w was r l ρ 3 = ρ 3
  | 0, l, ρ, hr, h, hwk, hgs => ⟨h, fun q hq hk => hgs q hq hk (Or.inl (by omega)), rfl⟩
  | r + 1, l, ρ, hr, h, hwk, hgs => by
    have hn := hG.le30
    have hlt : l < n := by omega
    obtain ⟨h1, o1⟩ := h.ask1 (was := was) hG hn31 hlt hw
    have lo : ∀ x, x < 24 → S_ask1 g w was l ρ (6 + x) = ρ (6 + x) := fun x hx => S_ask1_low (by omega)
    have hrk : ∀ q, q < n → ¬ g 48 q < 0 → S_reckon g (S_ask1 g w was l ρ) q = S_reckon g ρ q := fun q hq hk => reckon_same (hG.wf q hq) hk fun x hx _ => lo x hx
    have hn24 : n < 24 := by have := hG.1; omega
    obtain ⟨g1, g2, g3⟩ := ask_ok hG hn31 hw r (l + 1) (S_ask1 g w was l ρ) (by omega) h1 (fun q hq hk hlq hu => by
        unfold WK
        rw [o1 q (by omega) (by omega), lo q (by omega)]
        exact hwk q hq hk (by omega) hu) (fun q hq hk hd => by
        by_cases e : q = l
        · subst e
          by_cases hu : S_uses g q w
          · unfold GS1
            rw [hrk q hq hk, lo q (by omega)]
            have hs : S_ask1 g w was q ρ = S_gate g ρ q := by unfold S_ask1; exact (if_pos hu).trans (if_neg hk)
            rw [hs]
            exact gate_p (by omega) (hG.2 q hq).2.1 (hwk q hq hk (Nat.le_refl _) hu) (fun e => by
              have hv := h.2.2.2.2.2.2.2.reckon (hG.wf q hq)
              rcases hv with x | x | x <;> (rw [x] at e; revert e; decide))
          · have hs : S_ask1 g w was q ρ = ρ := by unfold S_ask1; exact if_neg hu
            rw [hs]; exact hgs q hq hk (Or.inr hu)
        · exact (hgs q hq hk (hd.imp (fun h => by omega) id)).cg (o1 q (by omega) e) (lo q (by omega)) (hrk q hq hk))
    exact ⟨g1, g2, g3.trans ask1_3⟩
theorem SI.chg0 {g : Mem} {n now B w : Nat} {v : Int32} {ρ : Rw} (hn : n ≤ 30) (h : SI g n now B ρ) (hw : w < 24) (hv : isV v) : SI g n now (B + 1) (S_chg0 w v ρ) := by
  obtain ⟨a1, a2, a3, a4, a5, a6, a7, a8⟩ := h
  have lo : ∀ i, i ≠ 3 → i ≠ 6 + w → i ≠ 30 + w → i ≠ 54 + w → S_chg0 w v ρ i = ρ i := fun i h3 h6 h30 h54 => by
    unfold S_chg0
    rw [upd_ne h3, upd_ne h54, upd_ne h30, upd_ne h6]
  refine ⟨⟨(lo 0 (by omega) (by omega) (by omega) (by omega)).trans a1.1, (lo 2 (by omega) (by omega) (by omega) (by omega)).trans a1.2⟩, fun q hq e => (lo _ (by omega) (by omega) (by omega) (by omega)).trans (a2 q hq e), fun q hq e => ?_, fun x hx => ?_, fun q hq => ?_, fun x hx => ?_, a7.cg (Nat.le_refl _) (lo _ (by omega) (by omega) (by omega) (by omega)) fun i hi => lo _ (by omega) (by omega) (by omega) (by omega), a8.chg0 hw hv⟩
  · rw [lo _ (by omega) (by omega) (by omega) (by omega)] at e
    rw [lo _ (by omega) (by omega) (by omega) (by omega)]; exact a3 q hq e
  · by_cases e : x = w
    · subst e
      have : S_chg0 x v ρ (30 + x) = ρ 0 := by
        unfold S_chg0
        rw [upd_ne (by omega), upd_ne (by omega), upd_same]
      rw [this]; exact Or.inr ⟨now, Nat.le_refl _, a1.1⟩
    · rw [lo _ (by omega) (by omega) (by omega) (by omega)]; exact a4 x hx
  · rw [lo _ (by omega) (by omega) (by omega) (by omega)]; exact a5 q hq
  · obtain ⟨c, hc, e1⟩ := a6 x hx
    by_cases e : x = w
    · subst e
      have : S_chg0 x v ρ (54 + x) = ρ (54 + x) + 1 := by
        unfold S_chg0
        rw [upd_ne (by omega), upd_same]
      rw [this, e1, nI_1 c]; exact ⟨c + 1, by omega, rfl⟩
    · rw [lo _ (by omega) (by omega) (by omega) (by omega)]; exact ⟨c, by omega, e1⟩
theorem chg0_val {w x : Nat} {v : Int32} {ρ : Rw} (hw : w < 24) (hx : x < 24) : S_chg0 w v ρ (6 + x) = if x = w then v else ρ (6 + x) := by
  unfold S_chg0
  rw [upd_ne (by omega), upd_ne (by omega), upd_ne (by omega)]
  by_cases e : x = w
  · subst e; rw [upd_same, if_pos rfl]
  · rw [upd_ne (by omega), if_neg e]
theorem SI.change {g : Mem} {n now B w : Nat} {v : Int32} {ρ : Rw} (hG : GD g n) (hn31 : now < 2 ^ 31) (h : SI g n now B ρ) (hw : w < 24) (hv : isV v) (hgs : ∀ q, q < n → ¬ g 48 q < 0 → q ≠ w → GS1 g ρ q) (hgw : w < n → ¬ g 48 w < 0 → ρ (102 + w) = -1 ∧ v = S_reckon g ρ w) :
    SI g n now (B + 1) (S_change g n w v ρ) ∧ GCo g n (S_change g n w v ρ) ∧ S_change g n w v ρ 3 = ρ 3 + 1 := by
  have hn := hG.le30
  have hn24 : n < 24 := by have := hG.1; omega
  have lo : ∀ i, 102 ≤ i → S_chg0 w v ρ i = ρ i := fun i hi => by
    unfold S_chg0
    rw [upd_ne (by omega), upd_ne (by omega), upd_ne (by omega), upd_ne (by omega)]
  have e3 : S_chg0 w v ρ 3 = ρ 3 + 1 := by
    unfold S_chg0
    rw [upd_same]
  obtain ⟨g1, g2, g3⟩ := ask_ok (was := ρ (6 + w)) hG hn31 hw n 0 (S_chg0 w v ρ) (by omega) (h.chg0 hn hw hv) (fun q hq hk _ hu => by
      have hlt := (hG.2 q hq).2.2.2.2.2 w hw hu
      unfold WK
      rw [lo _ (by omega), chg0_val hw (by omega), if_neg (by omega)]
      exact (hgs q hq hk (by omega)).wk) (fun q hq hk hd => by
      have hu := hd.resolve_left (Nat.not_lt_zero q)
      have hr : S_reckon g (S_chg0 w v ρ) q = S_reckon g ρ q := reckon_same (hG.wf q hq) hk fun x hx hux => by
        rw [chg0_val hw hx, if_neg (fun e : x = w => hu (e ▸ hux))]
      by_cases e : q = w
      · subst e
        obtain ⟨w1, w2⟩ := hgw hq hk
        unfold GS1
        rw [lo _ (by omega), chg0_val hw (by omega), if_pos rfl, hr, w1, if_pos w2]
      · exact (hgs q hq hk e).cg (lo _ (by omega)) (by rw [chg0_val hw (by omega), if_neg e]) hr)
  exact ⟨g1, g2, g3.trans e3⟩
