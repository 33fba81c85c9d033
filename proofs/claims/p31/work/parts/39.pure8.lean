/-! the class's run, on -/
theorem PN.upd_out {n i : Nat} {ρ : Rw} {v : Int32} (h : PN n ρ) (hi : i < 102 ∨ 132 ≤ i) : PN n (upd ρ i v) := fun l h1 h2 => by rw [upd_ne (by omega)]; exact h l h1 h2
theorem PN.upd_in {n l : Nat} {ρ : Rw} {v : Int32} (h : PN n ρ) (hl : l < n) : PN n (upd ρ (102 + l) v) := fun q h1 h2 => by rw [upd_ne (by omega)]; exact h q h1 h2
theorem PN.pend {g : Mem} {n l : Nat} {ρ : Rw} {v : Int32} (h : PN n ρ) (hl : l < n) : PN n (S_pend g ρ l v) := by
  unfold S_pend
  exact PN.upd_out (PN.upd_out (PN.upd_out (h.upd_in hl) (by omega)) (by omega)) (by omega)
theorem PN.haz {n : Nat} {ρ : Rw} {c w : Int32} (h : PN n ρ) : PN n (S_haz ρ c w) := fun l h1 h2 => by rw [S_haz_low (by omega) (by omega)]; exact h l h1 h2
theorem PN.begin {n : Nat} {ρ : Rw} (h : PN n ρ) : PN n (S_begin ρ) := fun l h1 h2 => by rw [S_begin_lo (by omega)]; exact h l h1 h2
theorem PN.ask1 {g : Mem} {n w l : Nat} {was : Int32} {ρ : Rw} (h : PN n ρ) (hl : l < n) : PN n (S_ask1 g w was l ρ) := by
  have h1 : PN n (S_reg1 g ρ l w) := by
    unfold S_reg1
    split
    · exact h.pend hl
    · exact h
  have h2 : ∀ ρ', PN n ρ' → PN n (S_reg2 g ρ' l w was) := by
    intro ρ' h'
    unfold S_reg2 S_reg2r S_rise
    repeat' split
    · exact PN.pend (PN.upd_out h'.haz (by omega)) hl
    · exact PN.pend (PN.upd_out h' (by omega)) hl
    · exact h'
  have h3 : ∀ ρ', PN n ρ' → PN n (S_reg3 g ρ' l w) := by
    intro ρ' h'
    unfold S_reg3
    split
    · exact PN.pend h'.haz hl
    · exact h'
  have h4 : PN n (S_gate1 ρ l (S_reckon g ρ l)) := by
    unfold S_gate1
    split
    · exact h
    · exact PN.upd_out (h.upd_in hl) (by omega)
  unfold S_ask1
  split
  · split
    · exact h3 _ (h2 _ h1)
    · unfold S_gate S_gate2
      split
      · exact h4.pend hl
      · exact h4
  · exact h
theorem PN.ask {g : Mem} {n w : Nat} {was : Int32} : ∀ (r l : Nat) {ρ : Rw}, l + r = n → PN n ρ → PN n (S_ask g w was r l ρ)
  | 0, _, _, _, h => h
  | r + 1, l, _, hl, h => PN.ask r (l + 1) (by omega) (h.ask1 (by omega))
theorem PN.chg0 {n w : Nat} {v : Int32} {ρ : Rw} (h : PN n ρ) (hw : w < 24) : PN n (S_chg0 w v ρ) := PN.upd_out (PN.upd_out (PN.upd_out (PN.upd_out h (by omega)) (by omega)) (by omega)) (by omega)
theorem PN.change {g : Mem} {n w : Nat} {v : Int32} {ρ : Rw} (h : PN n ρ) (hw : w < 24) : PN n (S_change g n w v ρ) := PN.ask n 0 (by omega) (h.chg0 hw)
theorem PN.come {g : Mem} {n l : Nat} {ρ : Rw} (hwf : ∀ l, l < n → WFl g l) (h : PN n ρ) (hl : l < n) : PN n (S_come g n l ρ) := by
  have h1 : PN n (upd (upd ρ (102 + l) (-1)) 0 (ρ (132 + l))) := PN.upd_out (h.upd_in hl) (by omega)
  unfold S_come
  split
  · exact h1
  · exact h1.change (hwf l hl).1.cl.2
theorem PN.give {n : Nat} {ρ : Rw} (h : PN n ρ) : PN n (S_give n ρ) := fun l h1 h2 => by
  rw [S_give, S_giveL_at]
  split
  · rfl
  · exact h l h1 h2
theorem PN.passL {g : Mem} {n : Nat} {u : Int32} (hn : n ≤ 30) (hwf : ∀ l, l < n → WFl g l) : ∀ (r : Nat) {ρ : Rw}, PN n ρ → PN n (S_passL g n u r ρ)
  | 0, ρ, h => by
    unfold S_passL
    split
    · exact h
    · exact PN.give (PN.upd_out h (by omega))
  | r + 1, ρ, h => by
    unfold S_passL
    split
    · exact h
    · rename_i hh
      obtain ⟨q, hq, eq, hp⟩ := (S_next_spec (n := n) (ρ := ρ)).resolve_left (fun e => hh (Or.inl e))
      rw [eq, cl_nI (by omega)]
      exact PN.passL hn hwf r (h.come hwf hq)
theorem PN.hzL {g : Mem} {n : Nat} : ∀ (r w : Nat) {ρ : Rw}, PN n ρ → PN n (S_hzL g n r w ρ)
  | 0, _, _, h => h
  | r + 1, w, ρ, h => by
    refine PN.hzL r (w + 1) ?_
    unfold S_hz1
    repeat' split
    all_goals first | exact h | exact h.haz
theorem PN.settle {g : Mem} {n : Nat} {ρ : Rw} (hn : n ≤ 30) (hwf : ∀ l, l < n → WFl g l) (h : PN n ρ) : PN n (S_settle g n ρ) := (PN.hzL 24 0 (PN.passL hn hwf 300 h)).begin
/-- all that a row keeps -/
def RW (g : Mem) (n : Nat) (ρ : Rw) : Prop := HZ ρ ∧ VR ρ ∧ PN n ρ
theorem S_pend_rise {g : Mem} {ρ : Rw} {l : Nat} (h : ρ 5 = ρ 5) : True := trivial
theorem upd_comm {ρ : Rw} {i j : Nat} {a b : Int32} (h : i ≠ j) : upd (upd ρ i a) j b = upd (upd ρ j b) i a := by
  funext k
  simp only [upd]
  by_cases h1 : k = j
  · rw [if_pos h1, if_neg (by omega), if_pos h1]
  · rw [if_neg h1, if_neg h1]
theorem S_haz_rise {ρ : Rw} {c w v : Int32} {l : Nat} (hl : l < 30) (hz : HZ ρ) : S_haz (upd ρ (192 + l) v) c w = upd (S_haz ρ c w) (192 + l) v := by
  unfold S_haz
  rw [upd_ne (show 5 ≠ 192 + l by omega), upd_ne (show 0 ≠ 192 + l by omega)]
  split
  · rfl
  · rw [upd_comm (ρ := ρ) (show 192 + l ≠ 5 by omega), upd_comm (show 192 + l ≠ 222 + 3 * cl (ρ 5) by omega), upd_comm (show 192 + l ≠ 222 + 3 * cl (ρ 5) + 1 by omega), upd_comm (show 192 + l ≠ 222 + 3 * cl (ρ 5) + 2 by omega)]
section CR2
variable {m g : Mem} {n r : Nat} {ρ : Rw}
theorem s_N_isWire {w : Nat} {K : Int32 → Mem → Prop} (hw : w < 24) (hK : K 1 m) : w_N_isWire (nI w) m K := by
  unfold w_N_isWire
  exact ⟨fun e => absurd e (nI_pos (by omega)), fun _ => ⟨fun e => absurd ((nI_le24 (by omega)).mp e) (by omega), fun _ => hK⟩⟩
theorem s_R_rise {l : Nat} {K : Mem → Prop} (hcc : CC m g n) (hr : 23 ≤ r) (hl : l < n) (hz : HZ ρ) (hv : isW (g 50 l)) (h : RR r m ρ) (hK : ∀ m', FR r m m' → RR r m' (S_reg2r g ρ l) → K m') : w_R_rise r (nI l) m K := by
  have hn := hcc.1
  have hin : vp_in (nI l) 30 := vp_in_nI (by omega) (by decide)
  have c5 : m 5 l = g 50 l := (hcc.2.2.1 l hl).2.1
  have e13 : m r 13 = ρ 0 := h.2.2.2.2.2.2.2.2.1
  obtain ⟨hv1, hv2⟩ := hv.cl
  unfold w_R_rise
  rw [nI_clamp (by omega), c5]
  refine ⟨hin, s_R_val h hv ⟨hin, ?_⟩⟩
  intro m3 e3
  have f3 : FR r m m3 := by rw [e3]; exact FR.up (FR.refl r m) (by omega)
  have r3 : RR r m3 (upd ρ (192 + l) (ρ 0)) := by rw [e3]; exact h.rise (g := g) (n := n) (by omega)
  have cc3 := hcc.fr hr f3
  have c9 : m3 9 l = g 54 l := (cc3.2.2.1 l hl).2.2.2.1
  have c4 : m3 4 l = g 49 l := (cc3.2.2.1 l hl).1
  unfold S_reg2r at hK
  have hv2' := hv2
  have e30 : m3 (r + 2) (cl (g 50 l)) = ρ (30 + cl (g 50 l)) := by rw [r3.2.1 _ hv2', upd_ne (by omega)]
  generalize ea : cl (g 50 l) = a at hv1 hv2 hK e30
  rw [hv1]
  refine s_N_isWire hv2 ⟨fun h => absurd h (by decide), fun _ => ⟨vp_in_nI hv2 (by decide), hin, ?_⟩⟩
  rw [nI_clamp (by omega), e30, c9]
  have e0 : (upd ρ (192 + l) (ρ 0)) 0 = ρ 0 := upd_ne (by omega)
  refine s_R_isRecent r3 (fun hy => ⟨fun h => absurd h (by decide), fun _ => ⟨hin, ?_⟩⟩) (fun hno => ⟨fun _ => ?_, fun h => absurd rfl h⟩)
  · rw [e0] at hy
    rw [if_pos hy] at hK
    rw [c4]
    refine s_R_noteHazard (upd_hz hz (by omega)) r3 fun m4 f4 r4 => ?_
    refine s_R_makePending (cc3.fr hr f4) hr hl r4 fun m5 f5 r5 => ?_
    refine hK _ ((f3.trans f4).trans f5) ?_
    rw [S_haz_rise (by omega) hz] at r5
    unfold S_rise
    rw [S_haz_low (by omega) (by omega)]
    exact r5
  · rw [e0] at hno
    rw [if_neg hno] at hK
    refine s_R_makePending cc3 hr hl r3 fun m5 f5 r5 => ?_
    rw [← hv1] at r5
    exact hK _ (f3.trans f5) r5
theorem s_R_askRegister {l w : Nat} {was : Int32} {K : Mem → Prop} (hcc : CC m g n) (hr : 23 ≤ r) (hl : l < n) (hwf : WFl g l) (ek : g 48 l = -2) (hwi : w < 24) (hz : HZ ρ) (h : RR r m ρ) (hK : ∀ m', FR r m m' → RR r m' (S_reg g ρ l w was) → K m') : w_R_askRegister r (nI l) (nI w) was m K := by
  have hn := hcc.1
  have hin : vp_in (nI l) 30 := vp_in_nI (by omega) (by decide)
  have hW : isW (nI w) := ⟨w, hwi, rfl⟩
  have hS : ∀ ρ' : Rw, S_val ρ' (nI w) = ρ' (6 + w) := fun ρ' => by simp only [S_val, cl_nI (show w < 2 ^ 31 by omega)]
  obtain ⟨c4, c5, c8, c9, c10, cc⟩ := hcc.2.2.1 l hl
  have n12 : ¬ ((-2 : Int32) = -1) := by decide
  have hp : isW (g 50 l) ∧ isW (g 51 l) ∧ isW0 (g 52 l) := by
    rcases hwf.2 with hh | hh | ⟨k, hk, e, -⟩
    · exact absurd (ek.symm.trans hh.1) n12
    · exact hh.2
    · exfalso
      have := congrArg Int32.toInt (e.symm.trans ek)
      rw [nI_toInt (by omega), show (-2 : Int32).toInt = -2 by decide] at this
      omega
  obtain ⟨c6, c7⟩ : m 6 l = g 51 l ∧ m 7 l = g 52 l := by
    rcases cc with hh | hh | ⟨k, hk, e, -⟩
    · exact absurd (ek.symm.trans hh.1) n12
    · exact hh.2.2
    · exfalso
      have := congrArg Int32.toInt (e.symm.trans ek)
      rw [nI_toInt (by omega), show (-2 : Int32).toInt = -2 by decide] at this
      omega
  unfold w_R_askRegister
  rw [nI_clamp (by omega), c5, c6, c7]
  refine ⟨hin, hin, hin, ?_⟩
  intro J2 hJ2
  have k2 : ∀ m1, FR r m m1 → RR r m1 (S_reg1 g ρ l w) → J2 m1 := by
    intro m1 f1 r1
    refine hJ2 _ ?_
    have hz1 : HZ (S_reg1 g ρ l w) := S_reg1_hz hz
    unfold S_reg at hK
    generalize S_reg1 g ρ l w = ρ1 at hK hz1 r1
    have cc1 := hcc.fr hr f1
    intro J9 hJ9
    have k9 : ∀ m8, FR r m m8 → RR r m8 (S_reg2 g ρ1 l w was) → J9 m8 := by
      intro m8 f8 r8
      have hz8 : HZ (S_reg2 g ρ1 l w was) := S_reg2_hz hz1
      generalize S_reg2 g ρ1 l w was = ρ2 at hK hz8 r8
      have cc8 := hcc.fr hr f8
      have c10' : m8 10 l = g 55 l := (cc8.2.2.1 l hl).2.2.2.2.1
      have c4' : m8 4 l = g 49 l := (cc8.2.2.1 l hl).1
      have e8 : m8 (r + 8) l = ρ2 (192 + l) := r8.2.2.2.2.2.2.1 l (by omega)
      unfold S_reg3 at hK
      refine hJ9 _ ⟨fun ne => ?_, fun eq => ⟨hin, hin, ?_⟩⟩
      · rw [if_neg (fun hh => ne hh.1.symm)] at hK; exact hK _ f8 r8
      · rw [e8, c10']
        refine s_R_isRecent r8 (fun hy => ⟨fun h => absurd h (by decide), fun _ => ⟨hin, ?_⟩⟩) (fun hno => ⟨fun _ => ?_, fun h => absurd rfl h⟩)
        · rw [if_pos ⟨eq.symm, hy.1, hy.2⟩] at hK
          rw [c4']
          refine s_R_noteHazard hz8 r8 fun m9 f9 r9 => ?_
          refine s_R_makePending (cc8.fr hr f9) hr hl r9 fun m10 f10 r10 => ?_
          exact hK _ ((f8.trans f9).trans f10) r10
        · rw [if_neg (fun hh => hno hh.2)] at hK; exact hK _ f8 r8
    unfold S_reg2 at k9
    refine ⟨fun ne => ?_, fun eq => ⟨fun ne => ?_, fun eq2 => s_R_val r1 hp.2.1 ?_⟩⟩
    · rw [if_neg (fun hh => ne hh.1.symm)] at k9; exact k9 _ f1 r1
    · rw [if_neg (fun hh => ne hh.2.1)] at k9; exact k9 _ f1 r1
    · rw [show S_val ρ1 (g 51 l) = ρ1 (6 + w) by rw [← eq]; exact hS ρ1]
      refine ⟨fun ne => ?_, fun eq3 => ⟨fun e52 => ?_, fun n52 => ?_⟩⟩
      · rw [if_neg (fun hh => ne hh.2.2.1)] at k9; exact k9 _ f1 r1
      · rw [if_pos ⟨eq.symm, eq2, eq3, Or.inl e52⟩] at k9
        exact s_R_rise cc1 hr hl hz1 hp.1 r1 fun m2 f2 r2 => k9 _ (f1.trans f2) r2
      · have h52w : isW (g 52 l) := hp.2.2.resolve_left n52
        refine s_R_val r1 h52w ⟨fun ne => ?_, fun eq4 => ?_⟩
        · rw [if_neg (fun hh => hh.2.2.2.elim n52 ne)] at k9; exact k9 _ f1 r1
        · rw [if_pos ⟨eq.symm, eq2, eq3, Or.inr eq4⟩] at k9
          exact s_R_rise cc1 hr hl hz1 hp.1 r1 fun m2 f2 r2 => k9 _ (f1.trans f2) r2
  unfold S_reg1 at k2
  refine ⟨fun ne => ?_, fun eq => ?_⟩
  · rw [if_neg (fun hh => ne hh.1.symm)] at k2; exact k2 _ (FR.refl r m) h
  · rw [← eq]
    refine s_R_val h hW ?_
    rw [hS]
    refine ⟨fun ne => ?_, fun e1 => ?_⟩
    · rw [if_neg (fun hh => ne hh.2)] at k2; exact k2 _ (FR.refl r m) h
    · rw [if_pos ⟨eq.symm, e1⟩] at k2
      exact s_R_makePending hcc hr hl h fun m2 f2 r2 => k2 _ f2 r2
end CR2
