/-! the bench: started -/
abbrev mX5_started : Mt := (yX5_started, cX5_started, 2, (some .int), [])
set_option maxRecDepth 20000 in
theorem ok_X5_started : aw_mok mX5_started 0 := ⟨rfl, tw_824, tw_1, ⟨by decide, by decide⟩, by decide +kernel, by decide⟩
def V0 (w : Nat) : Int32 := if w < 4 then 0 else 2
def Vj (j w : Nat) : Int32 := if w < j ∧ w < 4 then 0 else 2
theorem Vj_isV {j w : Nat} : isV (Vj j w) := by unfold Vj; split; exact isV0; exact isV2
theorem Vj_s {j : Nat} (hj : j < 4) : upd (Vj j) j 0 = Vj (j + 1) := by
  funext w
  unfold Vj
  by_cases q : w = j
  · subst q; rw [upd_same, if_pos (by omega)]
  · rw [upd_ne q]
    by_cases q2 : w < j ∧ w < 4
    · rw [if_pos q2, if_pos (by omega)]
    · rw [if_neg q2, if_neg (by omega)]
theorem Vj_hi {j : Nat} (hj : 4 ≤ j) : Vj j = Vj (j + 1) := by
  funext w
  unfold Vj
  by_cases q : w < 4
  · rw [if_pos (by omega), if_pos (by omega)]
  · rw [if_neg (by omega), if_neg (by omega)]
theorem Vj_0 : Vj 0 = fun _ => 2 := by
  funext w
  unfold Vj
  rw [if_neg (by omega)]
theorem Vj_V0 {j : Nat} (hj : 4 ≤ j) : Vj j = V0 := by
  funext w
  unfold Vj V0
  by_cases q : w < 4
  · rw [if_pos (by omega), if_pos q]
  · rw [if_neg (by omega), if_neg q]
theorem gT.inp {T : Nat → Nat → Int32} {n l : Nat} (hT : gT T n) (hl : l < n) : T l 0 = -1 ↔ l < 4 := by
  rcases (hT.2 l hl).2.2.2 with h | ⟨h4, -, -, h | ⟨q, hq, e, -⟩⟩
  · exact ⟨fun _ => h.1, fun _ => h.2.1⟩
  · exact ⟨fun e => absurd (h.1.symm.trans e) (by decide), fun q => by omega⟩
  · exact ⟨fun e2 => absurd (e.symm.trans e2) (nI_m1 (by omega)), fun q => by omega⟩
set_option maxRecDepth 100000 in
set_option maxHeartbeats 4000000 in
theorem c_B_started {h : Hp} {x : Nat → Int32} {pe hz n : Nat} {T : Nat → Nat → Int32} {d k : Nat} {f49 : Nat → Option Nat} {r51 : Nat → Int32} (hd : 7 ≤ d) (hT : gT T n) (hn4 : 4 ≤ n) (hB : BN h x 49 pe hz n T) (hk : 79 + n ≤ k) (h49 : h 49 = qrow 24 f49) (hf49 : ∀ j, 24 ≤ j → f49 j = none) (h51 : h 51 = irow 30 r51) : AM mX5_started d [.ref 1] h k 800 13000 (fun oc h' k' => oc = .inl (some (.int (nI (cntB (fun l => decide (¬ pmf T V0 l = -1)) n)))) ∧ k ≤ k' ∧ (∀ i, 0 < i → i < k → i ≠ 1 → i ≠ 49 → i ≠ 51 → h' i = h i) ∧ ∃ (x' : Nat → Int32) (pe' : Nat), x' 2 = x 2 ∧ BN h' x' 49 pe' (k + 1) n T) := by
  refine AM.intro (n := 1) (by decide) rfl rfl rfl ?_
  have hn := hB.2.1.2
  have hn17 := hT.1
  have key : ∀ (r j : Nat) (y : Int32) (h2 : Hp) (x2 : Nat → Int32) (k2 pe2 cs2 ss2 : Nat) (pm : Nat → Int32), j + r = n → y = nI j → SP h2 k2 x2 pe2 (k + 1) n T (k + 2) (Vj j) pm → (∀ l, l < n → pm l = pmf T (Vj j) l) → x2 2 = x 2 → (∀ i, 0 < i → i < k → i ≠ 1 → i ≠ 49 → i ≠ 51 → h2 i = h i) → k + 26 ≤ k2 → cs2 + 40 * r ≤ 800 → ss2 + 700 * r ≤ 13000 → AW aw_Z0 mX5_started d k 800 13000 (fun oc h' k' => oc = .inl (some (.int (nI (cntB (fun l => decide (¬ pmf T V0 l = -1)) n)))) ∧ k ≤ k' ∧ (∀ i, 0 < i → i < k → i ≠ 1 → i ≠ 49 → i ≠ 51 → h' i = h i) ∧ ∃ (x' : Nat → Int32) (pe' : Nat), x' 2 = x 2 ∧ BN h' x' 49 pe' (k + 1) n T)  11 [.ref 1, .int y] [] h2 k2 cs2 ss2 := by
    intro r
    induction r with
    | zero =>
      intro j y h2 x2 k2 pe2 cs2 ss2 pm hj hy hS hpm hx2 hF hk2 b1 b2
      subst hy
      have : j = n := by omega
      subst this
      have hB2 := hS.1
      obtain ⟨np, f, hpe, hnp, -⟩ := hS.2.2.1
      obtain ⟨g1, g2, g3, g4, g5⟩ := hS.2.2.2.2.2
      refine AW.iload_n (pc := 11) dX5_started_11 rfl rfl ?_
      refine AW.aload_n (pc := 12) dX5_started_12 rfl rfl ?_
      refine AW.get (pc := 13) (i := 1) (ci := 5) (f := 3) (N := 14) (C := RX5) (T := TX5) dX5_started_13 tw_653 rfl (by decide) rfl (by decide) (hB2.1) rfl ?_
      rw [hB2.2.1.1]
      refine AW.icmp_ge (pc := 16) (tgt := 50) dX5_started_16 (by decide) (fun _ => ?_) (fun c => absurd (nI_le (Nat.le_refl _) (by omega)) c)
      refine AW.aload_n (pc := 50) dX5_started_50 rfl rfl ?_
      refine AW.get (pc := 51) (i := 1) (ci := 5) (f := 11) (N := 14) (C := RX5) (T := TX5) dX5_started_51 tw_662 rfl (by decide) rfl (by decide) (hB2.1) rfl ?_
      refine AW.alenq (pc := 54) (n := np) (f := f) dX5_started_54 (by omega) hpe ?_
      show AW _ _ _ _ _ _ _ 55 [.ref 1, .int (nI j)] [.int (nI np)] h2 k2 cs2 ss2
      have hc : np = cntB (fun l => decide (¬ pmf T V0 l = -1)) j := by rw [hnp]; exact cntB_cg j fun l hl => by rw [hpm l hl, Vj_V0 hn4]
      rw [hc]
      exact AW.iret (pc := 55) dX5_started_55 rfl rfl (by omega) (by omega) (⟨rfl, by omega, hF, x2, pe2, hx2, hB2⟩)
    | succ r ih =>
      intro j y h2 x2 k2 pe2 cs2 ss2 pm hj hy hS hpm hx2 hF hk2 b1 b2
      subst hy
      have hl : j < n := by omega
      have hB2 := hS.1
      refine AW.iload_n (pc := 11) dX5_started_11 rfl rfl ?_
      refine AW.aload_n (pc := 12) dX5_started_12 rfl rfl ?_
      refine AW.get (pc := 13) (i := 1) (ci := 5) (f := 3) (N := 14) (C := RX5) (T := TX5) dX5_started_13 tw_653 rfl (by decide) rfl (by decide) (hB2.1) rfl ?_
      rw [hB2.2.1.1]
      refine AW.icmp_ge (pc := 16) (tgt := 50) dX5_started_16 (by decide) (fun c => absurd c (nI_ge hl (by omega))) (fun _ => ?_)
      refine AW.aload_n (pc := 19) dX5_started_19 rfl rfl ?_
      refine AW.get (pc := 20) (i := 1) (ci := 5) (f := 4) (N := 14) (C := RX5) (T := TX5) dX5_started_20 tw_654 rfl (by decide) rfl (by decide) (hB2.1) rfl ?_
      refine AW.iload_n (pc := 23) dX5_started_23 rfl rfl ?_
      refine AW.aald (pc := 24) (n := 30) (f := lnf n) (j := 79 + j) dX5_started_24 (by decide) (hB2.2.2.1) (vp_in_nI (by omega) (by decide)) (lnf_at hl (by omega) rfl) ?_
      refine AW.iconst (v := 0) (pc := 25) dX5_started_25 (by decide) ?_
      refine AW.iald2 (pc := 26) (n := 8) (g := T j) (j := 0) dX5_started_26 (by omega) (hB2.2.2.2 j hl) (vp_lit (by decide)) (by decide) ?_
      refine AW.iconst (v := -1) (pc := 27) dX5_started_27 (by decide) ?_
      refine AW.icmp_ne (pc := 28) (tgt := 44) dX5_started_28 (by decide) (fun c => ?_) (fun c => ?_)
      · have h4 : 4 ≤ j := by rcases Nat.lt_or_ge j 4 with q | q; exact absurd ((hT.inp hl).mpr q) c; exact q
        refine AW.iinc (v := ((nI j) + 1)) (L' := [.ref 1, .int ((nI j) + 1)]) (pc := 44) dX5_started_44 rfl rfl (by decide) rfl rfl ?_
        refine AW.goto (pc := 47) (tgt := 11) dX5_started_47 (by decide) ?_
        exact ih (j + 1) _ _ x2 _ _ _ _ pm (by omega) (nI_1 j) (by rw [← Vj_hi h4]; exact hS) (by rw [← Vj_hi h4]; exact hpm) hx2 hF hk2 (by omega) (by omega)
      · have h4 : j < 4 := (hT.inp hl).mp c
        refine AW.aload_n (pc := 31) dX5_started_31 rfl rfl ?_
        refine AW.aload_n (pc := 32) dX5_started_32 rfl rfl ?_
        refine AW.get (pc := 33) (i := 1) (ci := 5) (f := 4) (N := 14) (C := RX5) (T := TX5) dX5_started_33 tw_654 rfl (by decide) rfl (by decide) (hB2.1) rfl ?_
        refine AW.iload_n (pc := 36) dX5_started_36 rfl rfl ?_
        refine AW.aald (pc := 37) (n := 30) (f := lnf n) (j := 79 + j) dX5_started_37 (by decide) (hB2.2.2.1) (vp_in_nI (by omega) (by decide)) (lnf_at hl (by omega) rfl) ?_
        refine AW.iconst (v := 1) (pc := 38) dX5_started_38 (by decide) ?_
        refine AW.iald2 (pc := 39) (n := 8) (g := T j) (j := 1) dX5_started_39 (by omega) (hB2.2.2.2 j hl) (vp_lit (by decide)) (by decide) ?_
        refine AW.iconst (v := 0) (pc := 40) dX5_started_40 (by decide) ?_
        rw [(hT.2 j hl).1]
        refine AW.callV (pc := 41) (S' := []) dX5_started_41 (c_B_change (d := d - 1) (by omega) hT hS h4 (by show Vj j j = 2; unfold Vj; rw [if_neg (by omega)]) (fun _ _ => Vj_isV) (fun l hl hg => by unfold Vj; rw [if_neg (by have := (hT.gate hl hg).1; omega)]) hpm) ok_X5_change tw_827 ts_35 tw_825 (by decide) (hB2.1) (show aw_cl[5]? = some _ from rfl) rfl rfl (by omega) rfl (Nat.le_of_ble_eq_true rfl) (by omega) (by omega) ?_ (fun E h' k' hq => by obtain ⟨hx9, -⟩ := hq; try cases hx9)
        intro v h' k' hq
        obtain ⟨hx9, hk3, hF3, x3, pe3, pm3, hx3, hS3, hp3⟩ := hq
        cases hx9
        rw [Vj_s h4] at hS3 hp3
        show AW _ _ _ _ _ _ _ 44 [.ref 1, .int (nI j)] [] h' k' (cs2 + 40) (ss2 + 700)
        refine AW.iinc (v := ((nI j) + 1)) (L' := [.ref 1, .int ((nI j) + 1)]) (pc := 44) dX5_started_44 rfl rfl (by decide) rfl rfl ?_
        refine AW.goto (pc := 47) (tgt := 11) dX5_started_47 (by decide) ?_
        exact ih (j + 1) _ _ x3 _ _ _ _ pm3 (by omega) (nI_1 j) hS3 hp3 ((hx3 2 (by omega)).trans hx2) (fun i i0 ik i1 i2 i3 => (hF3 i i0 (by omega) i1 (by omega)).trans (hF i i0 ik i1 i2 i3)) (by omega) (by omega) (by omega)
  refine AW.aload_n (pc := 0) dX5_started_0 rfl rfl ?_
  refine AW.callV (pc := 1) (S' := []) dX5_started_1 (c_B_clear (d := d - 1) hB (by omega) h49 hf49 h51) ok_X5_clear tw_646 ts_25 tw_644 (by decide) (hB.1) (show aw_cl[5]? = some _ from rfl) rfl rfl (by omega) rfl (Nat.le_of_ble_eq_true rfl) (by omega) (by omega) ?_ (fun E h' k' hq => by obtain ⟨hx9, -⟩ := hq; try cases hx9)
  intro v h' k' hq
  obtain ⟨hx9, rfl, hF, hB2, hW2, hp2, r5, hr5, hr6⟩ := hq
  cases hx9
  show AW _ _ _ _ _ _ _ 4 [.ref 1, .null] [] h' (k + 26) (0 + 26) (0 + 96)
  refine AW.aload_n (pc := 4) dX5_started_4 rfl rfl ?_
  refine AW.iconst (v := 1) (pc := 5) dX5_started_5 (by decide) ?_
  refine AW.put (pc := 6) (i := 1) (ci := 5) (f := 5) (N := 14) (C := RX5) (T := TX5) (fs' := bf (upd (upd (upd (upd (upd x 6 (0 : Int32)) 7 (0 : Int32)) 8 (0 : Int32)) 9 (0 : Int32)) 5 (1 : Int32)) 49 k (k + 1)) dX5_started_6 tw_656 rfl (by decide) rfl (by decide) (hB2.1) (Nat.le_of_ble_eq_true rfl) rfl (fun _ => (by decide : narrow .boolean (Value.int (1 : Int32)) = Value.int (1 : Int32) ∧ fits .boolean (Value.int (1 : Int32)) = true)) rfl ?_
  show AW _ _ _ _ _ _ _ 9 [.ref 1, .null] [] (va_up h' 1 (.inr (5, bf (upd (upd (upd (upd (upd x 6 (0 : Int32)) 7 (0 : Int32)) 8 (0 : Int32)) 9 (0 : Int32)) 5 (1 : Int32)) 49 k (k + 1)))) (k + 26) (0 + 26) (0 + 96)
  have e9 : ∀ i, i ≠ 1 → (va_up h' 1 (.inr (5, bf (upd (upd (upd (upd (upd x 6 (0 : Int32)) 7 (0 : Int32)) 8 (0 : Int32)) 9 (0 : Int32)) 5 (1 : Int32)) 49 k (k + 1)))) i = h' i := fun i i1 => up_ne i1
  refine AW.iconst (v := 0) (pc := 9) dX5_started_9 (by decide) ?_
  refine AW.istore_n (L' := [.ref 1, .int (0 : Int32)]) (pc := 10) dX5_started_10 rfl (by decide) rfl rfl ?_
  exact key n 0 _ _ _ _ _ _ _ (fun _ => -1) (by omega) rfl ⟨⟨up_same, hB2.2.1, (e9 48 (by omega)).trans hB2.2.2.1, fun l hl => (e9 (79 + l) (by omega)).trans (hB2.2.2.2 l hl)⟩, by rw [Vj_0]; exact ⟨(e9 49 (by omega)).trans hW2.1, fun w hw => by obtain ⟨u, e1, e2⟩ := hW2.2 w hw; exact ⟨u, (e9 _ (by omega)).trans e1, e2⟩⟩, ⟨0, fun _ => none, (e9 k (by omega)).trans hp2, (cntB_no n).symm, fun i hi => absurd hi (Nat.not_lt_zero i), fun l hl q => absurd rfl q⟩, ⟨r5, (e9 51 (by omega)).trans hr5, hr6⟩, rfl, by omega⟩ (fun l hl => by rw [Vj_0, pmf_2 hT hl]) rfl (fun i i0 ik i1 i2 i3 => (e9 i i1).trans (hF i i0 ik i1 i2 i3)) (by omega) (by omega) (by omega)
