/-! printed by wip/tools/gen.py: X4_addLine, X4_checkWire, X4_arrival, X4_checkDelay, X4_checkHasDelay, X4_checkLine, X4_checkRoom, X4_checkRunning, X4_checkSetting, X4_ofFlaw, X4_way, X4_hazards, X4_ofHazard, X4_pending, X4_told, X4_ofWire, X4_users, X4_flaws, X4_isRunning, X4_lines, X4_longest, X4_settlesIn, X4_gate, X4_input, X4_longestWith, X4_pass, X4_register, X4_set, X4_settle, X4_start, X4_wouldBe -/
abbrev mX4_addLine : Mt := (yX4_addLine, cX4_addLine, 8, (some .int), [])
set_option maxRecDepth 20000 in
theorem ok_X4_addLine : aw_mok mX4_addLine 6 := ⟨rfl, tw_726, tw_2, ⟨by decide, by decide⟩, by decide +kernel, by decide⟩
abbrev mX4_checkWire : Mt := (yX4_checkWire, cX4_checkWire, 1, none, [])
set_option maxRecDepth 20000 in
theorem ok_X4_checkWire : aw_mok mX4_checkWire 1 := ⟨rfl, tw_23, tw_2, ⟨by decide, by decide⟩, by decide +kernel, by decide⟩
abbrev mX4_arrival : Mt := (yX4_arrival, cX4_arrival, 2, (some .int), [])
set_option maxRecDepth 20000 in
theorem ok_X4_arrival : aw_mok mX4_arrival 1 := ⟨rfl, tw_20, tw_2, ⟨by decide, by decide⟩, by decide +kernel, by decide⟩
abbrev mX4_checkDelay : Mt := (yX4_checkDelay, cX4_checkDelay, 1, none, [])
set_option maxRecDepth 20000 in
theorem ok_X4_checkDelay : aw_mok mX4_checkDelay 1 := ⟨rfl, tw_354, tw_2, ⟨by decide, by decide⟩, by decide +kernel, by decide⟩
abbrev mX4_checkHasDelay : Mt := (yX4_checkHasDelay, cX4_checkHasDelay, 2, none, [])
set_option maxRecDepth 20000 in
theorem ok_X4_checkHasDelay : aw_mok mX4_checkHasDelay 1 := ⟨rfl, tw_350, tw_2, ⟨by decide, by decide⟩, by decide +kernel, by decide⟩
abbrev mX4_checkLine : Mt := (yX4_checkLine, cX4_checkLine, 2, none, [])
set_option maxRecDepth 20000 in
theorem ok_X4_checkLine : aw_mok mX4_checkLine 1 := ⟨rfl, tw_318, tw_2, ⟨by decide, by decide⟩, by decide +kernel, by decide⟩
abbrev mX4_checkRoom : Mt := (yX4_checkRoom, cX4_checkRoom, 1, none, [])
set_option maxRecDepth 20000 in
theorem ok_X4_checkRoom : aw_mok mX4_checkRoom 0 := ⟨rfl, tw_721, tw_2, ⟨by decide, by decide⟩, by decide +kernel, by decide⟩
abbrev mX4_checkRunning : Mt := (yX4_checkRunning, cX4_checkRunning, 1, none, [])
set_option maxRecDepth 20000 in
theorem ok_X4_checkRunning : aw_mok mX4_checkRunning 0 := ⟨rfl, tw_143, tw_2, ⟨by decide, by decide⟩, by decide +kernel, by decide⟩
abbrev mX4_checkSetting : Mt := (yX4_checkSetting, cX4_checkSetting, 3, none, [])
set_option maxRecDepth 20000 in
theorem ok_X4_checkSetting : aw_mok mX4_checkSetting 2 := ⟨rfl, tw_163, tw_2, ⟨by decide, by decide⟩, by decide +kernel, by decide⟩
abbrev mX4_ofFlaw : Mt := (yX4_ofFlaw, cX4_ofFlaw, 3, (some .int), [])
set_option maxRecDepth 20000 in
theorem ok_X4_ofFlaw : aw_mok mX4_ofFlaw 2 := ⟨rfl, tw_396, tw_2, ⟨by decide, by decide⟩, by decide +kernel, by decide⟩
abbrev mX4_way : Mt := (yX4_way, cX4_way, 4, (some .int), [])
set_option maxRecDepth 20000 in
theorem ok_X4_way : aw_mok mX4_way 1 := ⟨rfl, tw_111, tw_2, ⟨by decide, by decide⟩, by decide +kernel, by decide⟩
abbrev mX4_hazards : Mt := (yX4_hazards, cX4_hazards, 1, (some .int), [])
set_option maxRecDepth 20000 in
theorem ok_X4_hazards : aw_mok mX4_hazards 0 := ⟨rfl, tw_323, tw_2, ⟨by decide, by decide⟩, by decide +kernel, by decide⟩
abbrev mX4_ofHazard : Mt := (yX4_ofHazard, cX4_ofHazard, 3, (some .int), [])
set_option maxRecDepth 20000 in
theorem ok_X4_ofHazard : aw_mok mX4_ofHazard 2 := ⟨rfl, tw_327, tw_2, ⟨by decide, by decide⟩, by decide +kernel, by decide⟩
abbrev mX4_pending : Mt := (yX4_pending, cX4_pending, 2, (some .int), [])
set_option maxRecDepth 20000 in
theorem ok_X4_pending : aw_mok mX4_pending 1 := ⟨rfl, tw_314, tw_2, ⟨by decide, by decide⟩, by decide +kernel, by decide⟩
abbrev mX4_told : Mt := (yX4_told, cX4_told, 2, (some .int), [])
set_option maxRecDepth 20000 in
theorem ok_X4_told : aw_mok mX4_told 1 := ⟨rfl, tw_296, tw_2, ⟨by decide, by decide⟩, by decide +kernel, by decide⟩
abbrev mX4_ofWire : Mt := (yX4_ofWire, cX4_ofWire, 3, (some .int), [])
set_option maxRecDepth 20000 in
theorem ok_X4_ofWire : aw_mok mX4_ofWire 2 := ⟨rfl, tw_309, tw_2, ⟨by decide, by decide⟩, by decide +kernel, by decide⟩
abbrev mX4_users : Mt := (yX4_users, cX4_users, 2, (some .int), [])
set_option maxRecDepth 20000 in
theorem ok_X4_users : aw_mok mX4_users 1 := ⟨rfl, tw_408, tw_2, ⟨by decide, by decide⟩, by decide +kernel, by decide⟩
abbrev mX4_flaws : Mt := (yX4_flaws, cX4_flaws, 1, (some .int), [])
set_option maxRecDepth 20000 in
theorem ok_X4_flaws : aw_mok mX4_flaws 0 := ⟨rfl, tw_378, tw_2, ⟨by decide, by decide⟩, by decide +kernel, by decide⟩
abbrev mX4_isRunning : Mt := (yX4_isRunning, cX4_isRunning, 1, (some .boolean), [])
set_option maxRecDepth 20000 in
theorem ok_X4_isRunning : aw_mok mX4_isRunning 0 := ⟨rfl, tw_383, tw_2, ⟨by decide, by decide⟩, by decide +kernel, by decide⟩
abbrev mX4_lines : Mt := (yX4_lines, cX4_lines, 1, (some .int), [])
set_option maxRecDepth 20000 in
theorem ok_X4_lines : aw_mok mX4_lines 0 := ⟨rfl, tw_374, tw_2, ⟨by decide, by decide⟩, by decide +kernel, by decide⟩
abbrev mX4_longest : Mt := (yX4_longest, cX4_longest, 1, (some .int), [])
set_option maxRecDepth 20000 in
theorem ok_X4_longest : aw_mok mX4_longest 0 := ⟨rfl, tw_100, tw_2, ⟨by decide, by decide⟩, by decide +kernel, by decide⟩
abbrev mX4_settlesIn : Mt := (yX4_settlesIn, cX4_settlesIn, 1, (some .int), [])
set_option maxRecDepth 20000 in
theorem ok_X4_settlesIn : aw_mok mX4_settlesIn 0 := ⟨rfl, tw_341, tw_2, ⟨by decide, by decide⟩, by decide +kernel, by decide⟩
abbrev mX4_gate : Mt := (yX4_gate, cX4_gate, 9, (some .int), [])
set_option maxRecDepth 20000 in
theorem ok_X4_gate : aw_mok mX4_gate 6 := ⟨rfl, tw_765, tw_2, ⟨by decide, by decide⟩, by decide +kernel, by decide⟩
abbrev mX4_input : Mt := (yX4_input, cX4_input, 2, (some .int), [])
set_option maxRecDepth 20000 in
theorem ok_X4_input : aw_mok mX4_input 1 := ⟨rfl, tw_717, tw_2, ⟨by decide, by decide⟩, by decide +kernel, by decide⟩
abbrev mX4_longestWith : Mt := (yX4_longestWith, cX4_longestWith, 3, (some .int), [])
set_option maxRecDepth 20000 in
theorem ok_X4_longestWith : aw_mok mX4_longestWith 2 := ⟨rfl, tw_346, tw_2, ⟨by decide, by decide⟩, by decide +kernel, by decide⟩
abbrev mX4_pass : Mt := (yX4_pass, cX4_pass, 4, (some .int), [])
set_option maxRecDepth 20000 in
theorem ok_X4_pass : aw_mok mX4_pass 1 := ⟨rfl, tw_256, tw_2, ⟨by decide, by decide⟩, by decide +kernel, by decide⟩
abbrev mX4_register : Mt := (yX4_register, cX4_register, 6, (some .int), [])
set_option maxRecDepth 20000 in
theorem ok_X4_register : aw_mok mX4_register 5 := ⟨rfl, tw_761, tw_2, ⟨by decide, by decide⟩, by decide +kernel, by decide⟩
abbrev mX4_set : Mt := (yX4_set, cX4_set, 4, (some .int), [])
set_option maxRecDepth 20000 in
theorem ok_X4_set : aw_mok mX4_set 2 := ⟨rfl, tw_138, tw_2, ⟨by decide, by decide⟩, by decide +kernel, by decide⟩
abbrev mX4_settle : Mt := (yX4_settle, cX4_settle, 1, (some .int), [])
set_option maxRecDepth 20000 in
theorem ok_X4_settle : aw_mok mX4_settle 0 := ⟨rfl, tw_280, tw_2, ⟨by decide, by decide⟩, by decide +kernel, by decide⟩
abbrev mX4_start : Mt := (yX4_start, cX4_start, 1, (some .int), [])
set_option maxRecDepth 20000 in
theorem ok_X4_start : aw_mok mX4_start 0 := ⟨rfl, tw_792, tw_2, ⟨by decide, by decide⟩, by decide +kernel, by decide⟩
abbrev mX4_wouldBe : Mt := (yX4_wouldBe, cX4_wouldBe, 4, (some .int), [])
set_option maxRecDepth 20000 in
theorem ok_X4_wouldBe : aw_mok mX4_wouldBe 3 := ⟨rfl, tw_333, tw_2, ⟨by decide, by decide⟩, by decide +kernel, by decide⟩
def w_N_addLine (p1 : Int32) (p2 : Int32) (p3 : Int32) (p4 : Int32) (p5 : Int32) (p6 : Int32) (m : Mem) (K : Int32 → Mem → Prop) : Prop :=
  w_C_add p1 p2 p3 p4 p5 p6 m (fun r2 m1 => ∀ m3 : Mem, m3 = up2 m1 1 6 (0 : Int32) → w_F_find  m3 (fun m4 => w_A_reckon 19 (-1 : Int32) (0 : Int32) m4 (fun m5 => K r2 m5)))
set_option maxRecDepth 100000 in
set_option maxHeartbeats 4000000 in
theorem b_N_addLine {Z : Gz} {d k0 mc ms cs ss k t : Nat} {Q : Po} {ex : Hp} {o : Nat → Int64} {K : Int32 → Mem → Prop}  (ht : tok t) (hd : 6 ≤ d) (hcs : cs + 0 ≤ mc) (hss : ss + 0 ≤ ms) (hQ : ∀ (r : Int32) (m : Mem), K r m → Q (.inl (some (.int r))) (lay t ex o m) k) {m : Mem} (p1 : Int32) (p2 : Int32) (p3 : Int32) (p4 : Int32) (p5 : Int32) (p6 : Int32) (hw : w_N_addLine p1 p2 p3 p4 p5 p6 m K) : AW Z mX4_addLine d k0 mc ms Q 0 [.ref 1, .int p1, .int p2, .int p3, .int p4, .int p5, .int p6, .null] [] (lay t ex o m) k cs ss := by
  unfold w_N_addLine at hw
  refine AW.aload_n (pc := 0) dX4_addLine_0 rfl rfl ?_
  refine LW.get (pc := 1) (f := 0) (ci := 4) (T := TX4) ht (by decide) rfl dX4_addLine_1 tw_620 rfl (by decide) rfl ?_
  refine AW.iload_n (pc := 4) dX4_addLine_4 rfl rfl ?_
  refine AW.iload_n (pc := 5) dX4_addLine_5 rfl rfl ?_
  refine AW.iload_n (pc := 6) dX4_addLine_6 rfl rfl ?_
  refine AW.iload (pc := 7) dX4_addLine_7 rfl ?_
  refine AW.iload (pc := 9) dX4_addLine_9 rfl ?_
  refine AW.iload (pc := 11) dX4_addLine_11 rfl ?_
  refine AW.callV (pc := 13) (S' := []) dX4_addLine_13 (c_C_add (d := d - 1) ht (by omega) hw) ok_X1_add tw_728 tw_729 tw_727 (fix_pos (by decide)) (lay_at ht (by decide)) (show aw_cl[1]? = some _ from rfl) rfl rfl (by omega) rfl (Nat.le_of_ble_eq_true rfl) (by omega) (by omega) ?_ (fun E h' k' hq => by obtain ⟨rfl, r2, m1, hv, -⟩ := hq; cases hv)
  intro v h' k' hq
  obtain ⟨rfl, r2, m1, hv, rfl, hw⟩ := hq
  cases hv
  show AW _ _ _ _ _ _ _ 16 [.ref 1, .int p1, .int p2, .int p3, .int p4, .int p5, .int p6, .null] [.int r2] (lay t ex o m1) k _ _
  refine AW.istore (L' := [.ref 1, .int p1, .int p2, .int p3, .int p4, .int p5, .int p6, .int r2]) (pc := 16) dX4_addLine_16 (by decide) rfl rfl ?_
  refine AW.aload_n (pc := 18) dX4_addLine_18 rfl rfl ?_
  refine AW.iconst (v := 0) (pc := 19) dX4_addLine_19 (by decide) ?_
  have hw := hw _ rfl
  refine LW.put (pc := 20) (f := 6) (ci := 4) (T := TX4) ht (by decide) rfl sp_1_6 dX4_addLine_20 tw_626 rfl (by decide) (Nat.le_of_ble_eq_true rfl) rfl ⟨by decide, by decide⟩ ?_
  generalize up2 m1 1 6 (0 : Int32) = m3 at hw ⊢
  refine AW.aload_n (pc := 23) dX4_addLine_23 rfl rfl ?_
  refine LW.get (pc := 24) (f := 1) (ci := 4) (T := TX4) ht (by decide) rfl dX4_addLine_24 tw_621 rfl (by decide) rfl ?_
  refine AW.aload_n (pc := 27) dX4_addLine_27 rfl rfl ?_
  refine LW.get (pc := 28) (f := 0) (ci := 4) (T := TX4) ht (by decide) rfl dX4_addLine_28 tw_620 rfl (by decide) rfl ?_
  refine AW.callV (pc := 31) (S' := []) dX4_addLine_31 (c_F_find (d := d - 1) ht (by omega) hw) ok_X2_find tw_736 tw_737 tw_735 (fix_pos (by decide)) (lay_at ht (by decide)) (show aw_cl[2]? = some _ from rfl) rfl rfl (by omega) rfl (Nat.le_of_ble_eq_true rfl) (by omega) (by omega) ?_ (fun E h' k' hq => by obtain ⟨rfl, m4, hv, -⟩ := hq; cases hv)
  intro v h' k' hq
  obtain ⟨rfl, m4, hv, rfl, hw⟩ := hq
  cases hv
  show AW _ _ _ _ _ _ _ 34 [.ref 1, .int p1, .int p2, .int p3, .int p4, .int p5, .int p6, .int r2] [] (lay t ex o m4) k _ _
  refine AW.aload_n (pc := 34) dX4_addLine_34 rfl rfl ?_
  refine LW.get (pc := 35) (f := 2) (ci := 4) (T := TX4) ht (by decide) rfl dX4_addLine_35 tw_622 rfl (by decide) rfl ?_
  refine AW.aload_n (pc := 38) dX4_addLine_38 rfl rfl ?_
  refine LW.get (pc := 39) (f := 0) (ci := 4) (T := TX4) ht (by decide) rfl dX4_addLine_39 tw_620 rfl (by decide) rfl ?_
  refine AW.aload_n (pc := 42) dX4_addLine_42 rfl rfl ?_
  refine LW.get (pc := 43) (f := 1) (ci := 4) (T := TX4) ht (by decide) rfl dX4_addLine_43 tw_621 rfl (by decide) rfl ?_
  refine AW.iconst (v := -1) (pc := 46) dX4_addLine_46 (by decide) ?_
  refine AW.iconst (v := 0) (pc := 47) dX4_addLine_47 (by decide) ?_
  refine AW.callV (pc := 48) (S' := []) dX4_addLine_48 (c_A_reckon_19 (d := d - 1) ht (by omega) hw) ok_X0_reckon tw_357 tw_358 tw_356 (fix_pos (by decide)) (lay_at ht (by decide)) (show aw_cl[0]? = some _ from rfl) rfl rfl (by omega) rfl (Nat.le_of_ble_eq_true rfl) (by omega) (by omega) ?_ (fun E h' k' hq => by obtain ⟨rfl, m5, hv, -⟩ := hq; cases hv)
  intro v h' k' hq
  obtain ⟨rfl, m5, hv, rfl, hw⟩ := hq
  cases hv
  show AW _ _ _ _ _ _ _ 51 [.ref 1, .int p1, .int p2, .int p3, .int p4, .int p5, .int p6, .int r2] [] (lay t ex o m5) k _ _
  refine AW.iload (pc := 51) dX4_addLine_51 rfl ?_
  exact AW.iret (pc := 53) dX4_addLine_53 rfl rfl (by omega) (by omega) (hQ _ _ hw)
set_option maxRecDepth 100000 in
set_option maxHeartbeats 4000000 in
theorem c_N_addLine {d k t : Nat} {ex : Hp} {o : Nat → Int64} {K : Int32 → Mem → Prop} {m : Mem} {p1 : Int32} {p2 : Int32} {p3 : Int32} {p4 : Int32} {p5 : Int32} {p6 : Int32} (ht : tok t) (hd : 6 ≤ d) (hw : w_N_addLine p1 p2 p3 p4 p5 p6 m K) : AM mX4_addLine d [.ref 1, .int p1, .int p2, .int p3, .int p4, .int p5, .int p6] (lay t ex o m) k 0 0 (fun oc h' k' => k = k' ∧ ∃ (r : Int32) (m' : Mem), oc = .inl (some (.int r)) ∧ h' = lay t ex o m' ∧ K r m') :=
  AM.intro (μ := mX4_addLine) (n := 1) (by decide) rfl rfl rfl (b_N_addLine ht hd (by omega) (by omega) (fun _ _ hK => ⟨rfl, _, _, rfl, rfl, hK⟩) p1 p2 p3 p4 p5 p6 hw)
def w_N_checkWire (p0 : Int32) (m : Mem) (K : Mem → Prop) (X : String → Mem → Prop) : Prop :=
  w_N_isWire p0 m (fun r2 m1 => ((¬ (r2 = 0) → K m1) ∧ (r2 = 0 → X "java/lang/IndexOutOfBoundsException" m1)))
set_option maxRecDepth 100000 in
set_option maxHeartbeats 4000000 in
theorem b_N_checkWire {Z : Gz} {d k0 mc ms cs ss k t : Nat} {Q : Po} {ex : Hp} {o : Nat → Int64} {K : Mem → Prop}  {X : String → Mem → Prop} (ht : tok t) (hd : 3 ≤ d) (hcs : cs + 1 ≤ mc) (hss : ss + 6 ≤ ms) (hQ : ∀ (m : Mem), K m → Q (.inl none) (lay t ex o m) k) (hX : ∀ (E : String) (m : Mem), X E m → Q (.inr E) (lay t ex o m) k) {m : Mem} (p0 : Int32) (hw : w_N_checkWire p0 m K X) : AW Z mX4_checkWire d k0 mc ms Q 0 [.int p0] [] (lay t ex o m) k cs ss := by
  unfold w_N_checkWire at hw
  refine AW.iload_n (pc := 0) dX4_checkWire_0 rfl rfl ?_
  refine AW.callS (pc := 1) (S' := []) dX4_checkWire_1 (c_N_isWire (d := d - 1) ht (by omega) hw) ok_X4_isWire tw_25 tw_24 rfl (by omega) rfl (Nat.le_of_ble_eq_true rfl) (by omega) (by omega) ?_ (fun E h' k' hq => by obtain ⟨rfl, r2, m1, hv, -⟩ := hq; cases hv)
  intro v h' k' hq
  obtain ⟨rfl, r2, m1, hv, rfl, hw⟩ := hq
  cases hv
  show AW _ _ _ _ _ _ _ 4 [.int p0] [.int r2] (lay t ex o m1) k _ _
  refine AW.if_ne (pc := 4) (tgt := 18) dX4_checkWire_4 (by decide) (fun c3 => ?_) (fun c3 => ?_)
  · have hw := hw.1 c3
    exact AW.vret (pc := 18) dX4_checkWire_18 rfl (by omega) (by omega) (hQ _ hw)
  · have hw := hw.2 c3
    exact AW.throwSW (pc := 7) (E := "java/lang/IndexOutOfBoundsException") (text := "no such wire") dX4_checkWire_7 dX4_checkWire_10 dX4_checkWire_11 dX4_checkWire_14 dX4_checkWire_17 rfl (by decide) th_names (by decide) tw_27 tw_12 (by decide +kernel) th_IOOBE_110 th_IOOBE_110g (by decide) (by omega) (by omega) (hX _ _ hw)
set_option maxRecDepth 100000 in
set_option maxHeartbeats 4000000 in
theorem c_N_checkWire {d k t : Nat} {ex : Hp} {o : Nat → Int64} {K : Mem → Prop} {X : String → Mem → Prop} {m : Mem} {p0 : Int32} (ht : tok t) (hd : 3 ≤ d) (hw : w_N_checkWire p0 m K X) : AM mX4_checkWire d [.int p0] (lay t ex o m) k 1 6 (fun oc h' k' => k = k' ∧ ∃ (m' : Mem), h' = lay t ex o m' ∧ ((oc = .inl none ∧ K m') ∨ ∃ E : String, oc = .inr E ∧ X E m')) :=
  AM.intro (μ := mX4_checkWire) (n := 0) (by decide) rfl rfl rfl (b_N_checkWire ht hd (by omega) (by omega) (fun _ hK => ⟨rfl, _, rfl, Or.inl ⟨rfl, hK⟩⟩) (fun _ _ hX => ⟨rfl, _, rfl, Or.inr ⟨_, rfl, hX⟩⟩) p0 hw)
def w_N_arrival (p1 : Int32) (m : Mem) (K : Int32 → Mem → Prop) (X : String → Mem → Prop) : Prop :=
  w_N_checkWire p1 m (fun m1 => vp_in p1 24 ∧ K (m1 20 (p1).toNatClampNeg) m1) X
set_option maxRecDepth 100000 in
set_option maxHeartbeats 4000000 in
theorem b_N_arrival {Z : Gz} {d k0 mc ms cs ss k t : Nat} {Q : Po} {ex : Hp} {o : Nat → Int64} {K : Int32 → Mem → Prop}  {X : String → Mem → Prop} (ht : tok t) (hd : 4 ≤ d) (hcs : cs + 1 ≤ mc) (hss : ss + 6 ≤ ms) (hQ : ∀ (r : Int32) (m : Mem), K r m → Q (.inl (some (.int r))) (lay t ex o m) k) (hX : ∀ (E : String) (m : Mem), X E m → Q (.inr E) (lay t ex o m) k) {m : Mem} (p1 : Int32) (hw : w_N_arrival p1 m K X) : AW Z mX4_arrival d k0 mc ms Q 0 [.ref 1, .int p1] [] (lay t ex o m) k cs ss := by
  unfold w_N_arrival at hw
  refine AW.iload_n (pc := 0) dX4_arrival_0 rfl rfl ?_
  refine AW.callS (pc := 1) (S' := []) dX4_arrival_1 (c_N_checkWire (d := d - 1) ht (by omega) hw) ok_X4_checkWire tw_22 tw_21 rfl (by omega) rfl (Nat.le_of_ble_eq_true rfl) (by omega) (by omega) ?_ ?_
  · intro v h' k' hq
    obtain ⟨rfl, m1, rfl, (⟨hv, hw⟩ | ⟨E, hv, hw⟩)⟩ := hq
    · cases hv
      show AW _ _ _ _ _ _ _ 4 [.ref 1, .int p1] [] (lay t ex o m1) k _ _
      refine AW.aload_n (pc := 4) dX4_arrival_4 rfl rfl ?_
      refine LW.get (pc := 5) (f := 2) (ci := 4) (T := TX4) ht (by decide) rfl dX4_arrival_5 tw_622 rfl (by decide) rfl ?_
      refine LW.getN (pc := 8) (f := 0) (ci := 0) (T := TX0) ht (by decide) rfl dX4_arrival_8 tw_539 rfl (by decide) rfl ?_
      refine AW.iload_n (pc := 11) dX4_arrival_11 rfl rfl ?_
      obtain ⟨hin, hw⟩ := hw
      refine LW.iald (pc := 12) (j := p1.toNatClampNeg) ht (by decide) rfl dX4_arrival_12 hin rfl ?_
      exact AW.iret (pc := 13) dX4_arrival_13 rfl rfl (by omega) (by omega) (hQ _ _ hw)
    · cases hv
  · intro E h' k' hq
    obtain ⟨rfl, m1, rfl, (⟨hv, hw⟩ | ⟨E2, hv, hw⟩)⟩ := hq
    · cases hv
    · cases hv; exact AX.out rfl (by omega) (by omega) (hX _ _ hw)
set_option maxRecDepth 100000 in
set_option maxHeartbeats 4000000 in
theorem c_N_arrival {d k t : Nat} {ex : Hp} {o : Nat → Int64} {K : Int32 → Mem → Prop} {X : String → Mem → Prop} {m : Mem} {p1 : Int32} (ht : tok t) (hd : 4 ≤ d) (hw : w_N_arrival p1 m K X) : AM mX4_arrival d [.ref 1, .int p1] (lay t ex o m) k 1 6 (fun oc h' k' => k = k' ∧ ∃ (m' : Mem), h' = lay t ex o m' ∧ ((∃ r : Int32, oc = .inl (some (.int r)) ∧ K r m') ∨ ∃ E : String, oc = .inr E ∧ X E m')) :=
  AM.intro (μ := mX4_arrival) (n := 0) (by decide) rfl rfl rfl (b_N_arrival ht hd (by omega) (by omega) (fun _ _ hK => ⟨rfl, _, rfl, Or.inl ⟨_, rfl, hK⟩⟩) (fun _ _ hX => ⟨rfl, _, rfl, Or.inr ⟨_, rfl, hX⟩⟩) p1 hw)
def w_N_checkDelay (p0 : Int32) (m : Mem) (K : Mem → Prop) (X : String → Mem → Prop) : Prop :=
  w_N_isWithin p0 (20 : Int32) m (fun r2 m1 => ((¬ (r2 = 0) → K m1) ∧ (r2 = 0 → X "java/lang/IllegalArgumentException" m1)))
set_option maxRecDepth 100000 in
set_option maxHeartbeats 4000000 in
theorem b_N_checkDelay {Z : Gz} {d k0 mc ms cs ss k t : Nat} {Q : Po} {ex : Hp} {o : Nat → Int64} {K : Mem → Prop}  {X : String → Mem → Prop} (ht : tok t) (hd : 3 ≤ d) (hcs : cs + 1 ≤ mc) (hss : ss + 6 ≤ ms) (hQ : ∀ (m : Mem), K m → Q (.inl none) (lay t ex o m) k) (hX : ∀ (E : String) (m : Mem), X E m → Q (.inr E) (lay t ex o m) k) {m : Mem} (p0 : Int32) (hw : w_N_checkDelay p0 m K X) : AW Z mX4_checkDelay d k0 mc ms Q 0 [.int p0] [] (lay t ex o m) k cs ss := by
  unfold w_N_checkDelay at hw
  refine AW.iload_n (pc := 0) dX4_checkDelay_0 rfl rfl ?_
  refine AW.bipush (v := 20) (pc := 1) dX4_checkDelay_1 (by decide) ?_
  refine AW.callS (pc := 3) (S' := []) dX4_checkDelay_3 (c_N_isWithin (d := d - 1) ht (by omega) hw) ok_X4_isWithin tw_258 tw_257 rfl (by omega) rfl (Nat.le_of_ble_eq_true rfl) (by omega) (by omega) ?_ (fun E h' k' hq => by obtain ⟨rfl, r2, m1, hv, -⟩ := hq; cases hv)
  intro v h' k' hq
  obtain ⟨rfl, r2, m1, hv, rfl, hw⟩ := hq
  cases hv
  show AW _ _ _ _ _ _ _ 6 [.int p0] [.int r2] (lay t ex o m1) k _ _
  refine AW.if_ne (pc := 6) (tgt := 20) dX4_checkDelay_6 (by decide) (fun c3 => ?_) (fun c3 => ?_)
  · have hw := hw.1 c3
    exact AW.vret (pc := 20) dX4_checkDelay_20 rfl (by omega) (by omega) (hQ _ hw)
  · have hw := hw.2 c3
    exact AW.throwSW (pc := 9) (E := "java/lang/IllegalArgumentException") (text := "no such delay") dX4_checkDelay_9 dX4_checkDelay_12 dX4_checkDelay_13 dX4_checkDelay_16 dX4_checkDelay_19 rfl (by decide) th_names (by decide) tw_169 tw_15 (by decide +kernel) th_IAE_64 th_IAE_64g (by decide) (by omega) (by omega) (hX _ _ hw)
set_option maxRecDepth 100000 in
set_option maxHeartbeats 4000000 in
theorem c_N_checkDelay {d k t : Nat} {ex : Hp} {o : Nat → Int64} {K : Mem → Prop} {X : String → Mem → Prop} {m : Mem} {p0 : Int32} (ht : tok t) (hd : 3 ≤ d) (hw : w_N_checkDelay p0 m K X) : AM mX4_checkDelay d [.int p0] (lay t ex o m) k 1 6 (fun oc h' k' => k = k' ∧ ∃ (m' : Mem), h' = lay t ex o m' ∧ ((oc = .inl none ∧ K m') ∨ ∃ E : String, oc = .inr E ∧ X E m')) :=
  AM.intro (μ := mX4_checkDelay) (n := 0) (by decide) rfl rfl rfl (b_N_checkDelay ht hd (by omega) (by omega) (fun _ hK => ⟨rfl, _, rfl, Or.inl ⟨rfl, hK⟩⟩) (fun _ _ hX => ⟨rfl, _, rfl, Or.inr ⟨_, rfl, hX⟩⟩) p0 hw)
def w_N_checkHasDelay (p1 : Int32) (m : Mem) (K : Mem → Prop) (X : String → Mem → Prop) : Prop :=
  vp_in p1 30 ∧ ((¬ ((m 3 (p1).toNatClampNeg) = (8 : Int32)) → K m) ∧ ((m 3 (p1).toNatClampNeg) = (8 : Int32) → X "java/lang/IllegalArgumentException" m))
set_option maxRecDepth 100000 in
set_option maxHeartbeats 4000000 in
theorem b_N_checkHasDelay {Z : Gz} {d k0 mc ms cs ss k t : Nat} {Q : Po} {ex : Hp} {o : Nat → Int64} {K : Mem → Prop}  {X : String → Mem → Prop} (ht : tok t) (hd : 2 ≤ d) (hcs : cs + 1 ≤ mc) (hss : ss + 6 ≤ ms) (hQ : ∀ (m : Mem), K m → Q (.inl none) (lay t ex o m) k) (hX : ∀ (E : String) (m : Mem), X E m → Q (.inr E) (lay t ex o m) k) {m : Mem} (p1 : Int32) (hw : w_N_checkHasDelay p1 m K X) : AW Z mX4_checkHasDelay d k0 mc ms Q 0 [.ref 1, .int p1] [] (lay t ex o m) k cs ss := by
  unfold w_N_checkHasDelay at hw
  refine AW.aload_n (pc := 0) dX4_checkHasDelay_0 rfl rfl ?_
  refine LW.get (pc := 1) (f := 0) (ci := 4) (T := TX4) ht (by decide) rfl dX4_checkHasDelay_1 tw_620 rfl (by decide) rfl ?_
  refine LW.getN (pc := 4) (f := 0) (ci := 1) (T := TX1) ht (by decide) rfl dX4_checkHasDelay_4 tw_445 rfl (by decide) rfl ?_
  refine AW.iload_n (pc := 7) dX4_checkHasDelay_7 rfl rfl ?_
  obtain ⟨hin, hw⟩ := hw
  refine LW.iald (pc := 8) (j := p1.toNatClampNeg) ht (by decide) rfl dX4_checkHasDelay_8 hin rfl ?_
  refine AW.bipush (v := 8) (pc := 9) dX4_checkHasDelay_9 (by decide) ?_
  refine AW.icmp_ne (pc := 11) (tgt := 25) dX4_checkHasDelay_11 (by decide) (fun c1 => ?_) (fun c1 => ?_)
  · have hw := hw.1 c1
    exact AW.vret (pc := 25) dX4_checkHasDelay_25 rfl (by omega) (by omega) (hQ _ hw)
  · have hw := hw.2 c1
    exact AW.throwSW (pc := 14) (E := "java/lang/IllegalArgumentException") (text := "an input has no delay") dX4_checkHasDelay_14 dX4_checkHasDelay_17 dX4_checkHasDelay_18 dX4_checkHasDelay_21 dX4_checkHasDelay_24 rfl (by decide) th_names (by decide) tw_169 tw_15 (by decide +kernel) th_IAE_64 th_IAE_64g (by decide) (by omega) (by omega) (hX _ _ hw)
set_option maxRecDepth 100000 in
set_option maxHeartbeats 4000000 in
theorem c_N_checkHasDelay {d k t : Nat} {ex : Hp} {o : Nat → Int64} {K : Mem → Prop} {X : String → Mem → Prop} {m : Mem} {p1 : Int32} (ht : tok t) (hd : 2 ≤ d) (hw : w_N_checkHasDelay p1 m K X) : AM mX4_checkHasDelay d [.ref 1, .int p1] (lay t ex o m) k 1 6 (fun oc h' k' => k = k' ∧ ∃ (m' : Mem), h' = lay t ex o m' ∧ ((oc = .inl none ∧ K m') ∨ ∃ E : String, oc = .inr E ∧ X E m')) :=
  AM.intro (μ := mX4_checkHasDelay) (n := 0) (by decide) rfl rfl rfl (b_N_checkHasDelay ht hd (by omega) (by omega) (fun _ hK => ⟨rfl, _, rfl, Or.inl ⟨rfl, hK⟩⟩) (fun _ _ hX => ⟨rfl, _, rfl, Or.inr ⟨_, rfl, hX⟩⟩) p1 hw)
def w_N_checkLine (p1 : Int32) (m : Mem) (K : Mem → Prop) (X : String → Mem → Prop) : Prop :=
  ((p1 < 0 → X "java/lang/IndexOutOfBoundsException" m) ∧ (¬ (p1 < 0) → ((p1 < (m 2 11) → K m) ∧ (¬ (p1 < (m 2 11)) → X "java/lang/IndexOutOfBoundsException" m))))
set_option maxRecDepth 100000 in
set_option maxHeartbeats 4000000 in
theorem b_N_checkLine {Z : Gz} {d k0 mc ms cs ss k t : Nat} {Q : Po} {ex : Hp} {o : Nat → Int64} {K : Mem → Prop}  {X : String → Mem → Prop} (ht : tok t) (hd : 2 ≤ d) (hcs : cs + 1 ≤ mc) (hss : ss + 6 ≤ ms) (hQ : ∀ (m : Mem), K m → Q (.inl none) (lay t ex o m) k) (hX : ∀ (E : String) (m : Mem), X E m → Q (.inr E) (lay t ex o m) k) {m : Mem} (p1 : Int32) (hw : w_N_checkLine p1 m K X) : AW Z mX4_checkLine d k0 mc ms Q 0 [.ref 1, .int p1] [] (lay t ex o m) k cs ss := by
  unfold w_N_checkLine at hw
  refine AW.iload_n (pc := 0) dX4_checkLine_0 rfl rfl ?_
  refine AW.if_lt (pc := 1) (tgt := 15) dX4_checkLine_1 (by decide) (fun c1 => ?_) (fun c1 => ?_)
  · have hw := hw.1 c1
    exact AW.throwSW (pc := 15) (E := "java/lang/IndexOutOfBoundsException") (text := "no such line") dX4_checkLine_15 dX4_checkLine_18 dX4_checkLine_19 dX4_checkLine_22 dX4_checkLine_25 rfl (by decide) th_names (by decide) tw_27 tw_12 (by decide +kernel) th_IOOBE_110 th_IOOBE_110g (by decide) (by omega) (by omega) (hX _ _ hw)
  · have hw := hw.2 c1
    refine AW.iload_n (pc := 4) dX4_checkLine_4 rfl rfl ?_
    refine AW.aload_n (pc := 5) dX4_checkLine_5 rfl rfl ?_
    refine LW.get (pc := 6) (f := 0) (ci := 4) (T := TX4) ht (by decide) rfl dX4_checkLine_6 tw_620 rfl (by decide) rfl ?_
    refine LW.getN (pc := 9) (f := 11) (ci := 1) (T := TX1) ht (by decide) rfl dX4_checkLine_9 tw_475 rfl (by decide) rfl ?_
    refine AW.icmp_lt (pc := 12) (tgt := 26) dX4_checkLine_12 (by decide) (fun c2 => ?_) (fun c2 => ?_)
    · have hw := hw.1 c2
      exact AW.vret (pc := 26) dX4_checkLine_26 rfl (by omega) (by omega) (hQ _ hw)
    · have hw := hw.2 c2
      exact AW.throwSW (pc := 15) (E := "java/lang/IndexOutOfBoundsException") (text := "no such line") dX4_checkLine_15 dX4_checkLine_18 dX4_checkLine_19 dX4_checkLine_22 dX4_checkLine_25 rfl (by decide) th_names (by decide) tw_27 tw_12 (by decide +kernel) th_IOOBE_110 th_IOOBE_110g (by decide) (by omega) (by omega) (hX _ _ hw)
set_option maxRecDepth 100000 in
set_option maxHeartbeats 4000000 in
theorem c_N_checkLine {d k t : Nat} {ex : Hp} {o : Nat → Int64} {K : Mem → Prop} {X : String → Mem → Prop} {m : Mem} {p1 : Int32} (ht : tok t) (hd : 2 ≤ d) (hw : w_N_checkLine p1 m K X) : AM mX4_checkLine d [.ref 1, .int p1] (lay t ex o m) k 1 6 (fun oc h' k' => k = k' ∧ ∃ (m' : Mem), h' = lay t ex o m' ∧ ((oc = .inl none ∧ K m') ∨ ∃ E : String, oc = .inr E ∧ X E m')) :=
  AM.intro (μ := mX4_checkLine) (n := 0) (by decide) rfl rfl rfl (b_N_checkLine ht hd (by omega) (by omega) (fun _ hK => ⟨rfl, _, rfl, Or.inl ⟨rfl, hK⟩⟩) (fun _ _ hX => ⟨rfl, _, rfl, Or.inr ⟨_, rfl, hX⟩⟩) p1 hw)
def w_N_checkRoom (m : Mem) (K : Mem → Prop) (X : String → Mem → Prop) : Prop :=
  (((m 2 11) < (30 : Int32) → K m) ∧ (¬ ((m 2 11) < (30 : Int32)) → X "java/lang/IllegalStateException" m))
set_option maxRecDepth 100000 in
set_option maxHeartbeats 4000000 in
theorem b_N_checkRoom {Z : Gz} {d k0 mc ms cs ss k t : Nat} {Q : Po} {ex : Hp} {o : Nat → Int64} {K : Mem → Prop}  {X : String → Mem → Prop} (ht : tok t) (hd : 2 ≤ d) (hcs : cs + 1 ≤ mc) (hss : ss + 6 ≤ ms) (hQ : ∀ (m : Mem), K m → Q (.inl none) (lay t ex o m) k) (hX : ∀ (E : String) (m : Mem), X E m → Q (.inr E) (lay t ex o m) k) {m : Mem}  (hw : w_N_checkRoom  m K X) : AW Z mX4_checkRoom d k0 mc ms Q 0 [.ref 1] [] (lay t ex o m) k cs ss := by
  unfold w_N_checkRoom at hw
  refine AW.aload_n (pc := 0) dX4_checkRoom_0 rfl rfl ?_
  refine LW.get (pc := 1) (f := 0) (ci := 4) (T := TX4) ht (by decide) rfl dX4_checkRoom_1 tw_620 rfl (by decide) rfl ?_
  refine LW.getN (pc := 4) (f := 11) (ci := 1) (T := TX1) ht (by decide) rfl dX4_checkRoom_4 tw_475 rfl (by decide) rfl ?_
  refine AW.bipush (v := 30) (pc := 7) dX4_checkRoom_7 (by decide) ?_
  refine AW.icmp_lt (pc := 9) (tgt := 23) dX4_checkRoom_9 (by decide) (fun c1 => ?_) (fun c1 => ?_)
  · have hw := hw.1 c1
    exact AW.vret (pc := 23) dX4_checkRoom_23 rfl (by omega) (by omega) (hQ _ hw)
  · have hw := hw.2 c1
    exact AW.throwSW (pc := 12) (E := "java/lang/IllegalStateException") (text := "there is no room for a line") dX4_checkRoom_12 dX4_checkRoom_15 dX4_checkRoom_16 dX4_checkRoom_19 dX4_checkRoom_22 rfl (by decide) th_names (by decide) tw_144 tw_13 (by decide +kernel) th_ISE_150 th_ISE_150g (by decide) (by omega) (by omega) (hX _ _ hw)
set_option maxRecDepth 100000 in
set_option maxHeartbeats 4000000 in
theorem c_N_checkRoom {d k t : Nat} {ex : Hp} {o : Nat → Int64} {K : Mem → Prop} {X : String → Mem → Prop} {m : Mem}  (ht : tok t) (hd : 2 ≤ d) (hw : w_N_checkRoom  m K X) : AM mX4_checkRoom d [.ref 1] (lay t ex o m) k 1 6 (fun oc h' k' => k = k' ∧ ∃ (m' : Mem), h' = lay t ex o m' ∧ ((oc = .inl none ∧ K m') ∨ ∃ E : String, oc = .inr E ∧ X E m')) :=
  AM.intro (μ := mX4_checkRoom) (n := 0) (by decide) rfl rfl rfl (b_N_checkRoom ht hd (by omega) (by omega) (fun _ hK => ⟨rfl, _, rfl, Or.inl ⟨rfl, hK⟩⟩) (fun _ _ hX => ⟨rfl, _, rfl, Or.inr ⟨_, rfl, hX⟩⟩)  hw)
def w_N_checkRunning (m : Mem) (K : Mem → Prop) (X : String → Mem → Prop) : Prop :=
  ((¬ ((m 1 6) = 0) → K m) ∧ ((m 1 6) = 0 → X "java/lang/IllegalStateException" m))
set_option maxRecDepth 100000 in
set_option maxHeartbeats 4000000 in
theorem b_N_checkRunning {Z : Gz} {d k0 mc ms cs ss k t : Nat} {Q : Po} {ex : Hp} {o : Nat → Int64} {K : Mem → Prop}  {X : String → Mem → Prop} (ht : tok t) (hd : 2 ≤ d) (hcs : cs + 1 ≤ mc) (hss : ss + 6 ≤ ms) (hQ : ∀ (m : Mem), K m → Q (.inl none) (lay t ex o m) k) (hX : ∀ (E : String) (m : Mem), X E m → Q (.inr E) (lay t ex o m) k) {m : Mem}  (hw : w_N_checkRunning  m K X) : AW Z mX4_checkRunning d k0 mc ms Q 0 [.ref 1] [] (lay t ex o m) k cs ss := by
  unfold w_N_checkRunning at hw
  refine AW.aload_n (pc := 0) dX4_checkRunning_0 rfl rfl ?_
  refine LW.get (pc := 1) (f := 6) (ci := 4) (T := TX4) ht (by decide) rfl dX4_checkRunning_1 tw_626 rfl (by decide) rfl ?_
  refine AW.if_ne (pc := 4) (tgt := 18) dX4_checkRunning_4 (by decide) (fun c1 => ?_) (fun c1 => ?_)
  · have hw := hw.1 c1
    exact AW.vret (pc := 18) dX4_checkRunning_18 rfl (by omega) (by omega) (hQ _ hw)
  · have hw := hw.2 c1
    exact AW.throwSW (pc := 7) (E := "java/lang/IllegalStateException") (text := "it does not run") dX4_checkRunning_7 dX4_checkRunning_10 dX4_checkRunning_11 dX4_checkRunning_14 dX4_checkRunning_17 rfl (by decide) th_names (by decide) tw_144 tw_13 (by decide +kernel) th_ISE_150 th_ISE_150g (by decide) (by omega) (by omega) (hX _ _ hw)
set_option maxRecDepth 100000 in
set_option maxHeartbeats 4000000 in
theorem c_N_checkRunning {d k t : Nat} {ex : Hp} {o : Nat → Int64} {K : Mem → Prop} {X : String → Mem → Prop} {m : Mem}  (ht : tok t) (hd : 2 ≤ d) (hw : w_N_checkRunning  m K X) : AM mX4_checkRunning d [.ref 1] (lay t ex o m) k 1 6 (fun oc h' k' => k = k' ∧ ∃ (m' : Mem), h' = lay t ex o m' ∧ ((oc = .inl none ∧ K m') ∨ ∃ E : String, oc = .inr E ∧ X E m')) :=
  AM.intro (μ := mX4_checkRunning) (n := 0) (by decide) rfl rfl rfl (b_N_checkRunning ht hd (by omega) (by omega) (fun _ hK => ⟨rfl, _, rfl, Or.inl ⟨rfl, hK⟩⟩) (fun _ _ hX => ⟨rfl, _, rfl, Or.inr ⟨_, rfl, hX⟩⟩)  hw)
def w_N_checkSetting (p1 : Int32) (p2 : Int32) (m : Mem) (K : Mem → Prop) (X : String → Mem → Prop) : Prop :=
  w_C_isFirstDrivenBy p1 (8 : Int32) m (fun r2 m1 => ((¬ (r2 = 0) → ((p2 = 0 → K m1) ∧ (¬ (p2 = 0) → ((p2 = (1 : Int32) → K m1) ∧ (¬ (p2 = (1 : Int32)) → X "java/lang/IllegalArgumentException" m1))))) ∧ (r2 = 0 → X "java/lang/IllegalArgumentException" m1)))
set_option maxRecDepth 100000 in
set_option maxHeartbeats 4000000 in
theorem b_N_checkSetting {Z : Gz} {d k0 mc ms cs ss k t : Nat} {Q : Po} {ex : Hp} {o : Nat → Int64} {K : Mem → Prop}  {X : String → Mem → Prop} (ht : tok t) (hd : 5 ≤ d) (hcs : cs + 1 ≤ mc) (hss : ss + 6 ≤ ms) (hQ : ∀ (m : Mem), K m → Q (.inl none) (lay t ex o m) k) (hX : ∀ (E : String) (m : Mem), X E m → Q (.inr E) (lay t ex o m) k) {m : Mem} (p1 : Int32) (p2 : Int32) (hw : w_N_checkSetting p1 p2 m K X) : AW Z mX4_checkSetting d k0 mc ms Q 0 [.ref 1, .int p1, .int p2] [] (lay t ex o m) k cs ss := by
  unfold w_N_checkSetting at hw
  refine AW.aload_n (pc := 0) dX4_checkSetting_0 rfl rfl ?_
  refine LW.get (pc := 1) (f := 0) (ci := 4) (T := TX4) ht (by decide) rfl dX4_checkSetting_1 tw_620 rfl (by decide) rfl ?_
  refine AW.iload_n (pc := 4) dX4_checkSetting_4 rfl rfl ?_
  refine AW.bipush (v := 8) (pc := 5) dX4_checkSetting_5 (by decide) ?_
  refine AW.callV (pc := 7) (S' := []) dX4_checkSetting_7 (c_C_isFirstDrivenBy (d := d - 1) ht (by omega) hw) ok_X1_isFirstDrivenBy tw_165 tw_166 tw_164 (fix_pos (by decide)) (lay_at ht (by decide)) (show aw_cl[1]? = some _ from rfl) rfl rfl (by omega) rfl (Nat.le_of_ble_eq_true rfl) (by omega) (by omega) ?_ (fun E h' k' hq => by obtain ⟨rfl, r2, m1, hv, -⟩ := hq; cases hv)
  intro v h' k' hq
  obtain ⟨rfl, r2, m1, hv, rfl, hw⟩ := hq
  cases hv
  show AW _ _ _ _ _ _ _ 10 [.ref 1, .int p1, .int p2] [.int r2] (lay t ex o m1) k _ _
  refine AW.if_ne (pc := 10) (tgt := 24) dX4_checkSetting_10 (by decide) (fun c3 => ?_) (fun c3 => ?_)
  · have hw := hw.1 c3
    refine AW.iload_n (pc := 24) dX4_checkSetting_24 rfl rfl ?_
    refine AW.if_eq (pc := 25) (tgt := 44) dX4_checkSetting_25 (by decide) (fun c4 => ?_) (fun c4 => ?_)
    · have hw := hw.1 c4
      exact AW.vret (pc := 44) dX4_checkSetting_44 rfl (by omega) (by omega) (hQ _ hw)
    · have hw := hw.2 c4
      refine AW.iload_n (pc := 28) dX4_checkSetting_28 rfl rfl ?_
      refine AW.iconst (v := 1) (pc := 29) dX4_checkSetting_29 (by decide) ?_
      refine AW.icmp_eq (pc := 30) (tgt := 44) dX4_checkSetting_30 (by decide) (fun c5 => ?_) (fun c5 => ?_)
      · have hw := hw.1 c5
        exact AW.vret (pc := 44) dX4_checkSetting_44 rfl (by omega) (by omega) (hQ _ hw)
      · have hw := hw.2 c5
        exact AW.throwSW (pc := 33) (E := "java/lang/IllegalArgumentException") (text := "no such value of an input") dX4_checkSetting_33 dX4_checkSetting_36 dX4_checkSetting_37 dX4_checkSetting_40 dX4_checkSetting_43 rfl (by decide) th_names (by decide) tw_169 tw_15 (by decide +kernel) th_IAE_64 th_IAE_64g (by decide) (by omega) (by omega) (hX _ _ hw)
  · have hw := hw.2 c3
    exact AW.throwSW (pc := 13) (E := "java/lang/IllegalArgumentException") (text := "no input drives it") dX4_checkSetting_13 dX4_checkSetting_16 dX4_checkSetting_17 dX4_checkSetting_20 dX4_checkSetting_23 rfl (by decide) th_names (by decide) tw_169 tw_15 (by decide +kernel) th_IAE_64 th_IAE_64g (by decide) (by omega) (by omega) (hX _ _ hw)
set_option maxRecDepth 100000 in
set_option maxHeartbeats 4000000 in
theorem c_N_checkSetting {d k t : Nat} {ex : Hp} {o : Nat → Int64} {K : Mem → Prop} {X : String → Mem → Prop} {m : Mem} {p1 : Int32} {p2 : Int32} (ht : tok t) (hd : 5 ≤ d) (hw : w_N_checkSetting p1 p2 m K X) : AM mX4_checkSetting d [.ref 1, .int p1, .int p2] (lay t ex o m) k 1 6 (fun oc h' k' => k = k' ∧ ∃ (m' : Mem), h' = lay t ex o m' ∧ ((oc = .inl none ∧ K m') ∨ ∃ E : String, oc = .inr E ∧ X E m')) :=
  AM.intro (μ := mX4_checkSetting) (n := 0) (by decide) rfl rfl rfl (b_N_checkSetting ht hd (by omega) (by omega) (fun _ hK => ⟨rfl, _, rfl, Or.inl ⟨rfl, hK⟩⟩) (fun _ _ hX => ⟨rfl, _, rfl, Or.inr ⟨_, rfl, hX⟩⟩) p1 p2 hw)
def w_N_ofFlaw (p1 : Int32) (p2 : Int32) (m : Mem) (K : Int32 → Mem → Prop) (X : String → Mem → Prop) : Prop :=
  ((p1 < 0 → X "java/lang/IndexOutOfBoundsException" m) ∧ (¬ (p1 < 0) → ((p1 < (m 14 4) → ((¬ (p2 = 0) → ((¬ (p2 = (1 : Int32)) → X "java/lang/IllegalArgumentException" m) ∧ (p2 = (1 : Int32) → vp_in p1 54 ∧ K (m 16 (p1).toNatClampNeg) m))) ∧ (p2 = 0 → vp_in p1 54 ∧ K (m 15 (p1).toNatClampNeg) m))) ∧ (¬ (p1 < (m 14 4)) → X "java/lang/IndexOutOfBoundsException" m))))
set_option maxRecDepth 100000 in
set_option maxHeartbeats 4000000 in
theorem b_N_ofFlaw {Z : Gz} {d k0 mc ms cs ss k t : Nat} {Q : Po} {ex : Hp} {o : Nat → Int64} {K : Int32 → Mem → Prop}  {X : String → Mem → Prop} (ht : tok t) (hd : 2 ≤ d) (hcs : cs + 1 ≤ mc) (hss : ss + 6 ≤ ms) (hQ : ∀ (r : Int32) (m : Mem), K r m → Q (.inl (some (.int r))) (lay t ex o m) k) (hX : ∀ (E : String) (m : Mem), X E m → Q (.inr E) (lay t ex o m) k) {m : Mem} (p1 : Int32) (p2 : Int32) (hw : w_N_ofFlaw p1 p2 m K X) : AW Z mX4_ofFlaw d k0 mc ms Q 0 [.ref 1, .int p1, .int p2] [] (lay t ex o m) k cs ss := by
  unfold w_N_ofFlaw at hw
  refine AW.iload_n (pc := 0) dX4_ofFlaw_0 rfl rfl ?_
  refine AW.if_lt (pc := 1) (tgt := 15) dX4_ofFlaw_1 (by decide) (fun c1 => ?_) (fun c1 => ?_)
  · have hw := hw.1 c1
    exact AW.throwS (pc := 15) (E := "java/lang/IndexOutOfBoundsException") (text := "no such flaw") dX4_ofFlaw_15 dX4_ofFlaw_18 dX4_ofFlaw_19 dX4_ofFlaw_21 dX4_ofFlaw_24 rfl (by decide) th_names (by decide) tw_27 tw_12 (by decide +kernel) th_IOOBE_110 th_IOOBE_110g (by decide) (by omega) (by omega) (hX _ _ hw)
  · have hw := hw.2 c1
    refine AW.iload_n (pc := 4) dX4_ofFlaw_4 rfl rfl ?_
    refine AW.aload_n (pc := 5) dX4_ofFlaw_5 rfl rfl ?_
    refine LW.get (pc := 6) (f := 1) (ci := 4) (T := TX4) ht (by decide) rfl dX4_ofFlaw_6 tw_621 rfl (by decide) rfl ?_
    refine LW.getN (pc := 9) (f := 4) (ci := 2) (T := TX2) ht (by decide) rfl dX4_ofFlaw_9 tw_516 rfl (by decide) rfl ?_
    refine AW.icmp_lt (pc := 12) (tgt := 25) dX4_ofFlaw_12 (by decide) (fun c2 => ?_) (fun c2 => ?_)
    · have hw := hw.1 c2
      refine AW.iload_n (pc := 25) dX4_ofFlaw_25 rfl rfl ?_
      refine AW.if_ne (pc := 26) (tgt := 39) dX4_ofFlaw_26 (by decide) (fun c3 => ?_) (fun c3 => ?_)
      · have hw := hw.1 c3
        refine AW.iload_n (pc := 39) dX4_ofFlaw_39 rfl rfl ?_
        refine AW.iconst (v := 1) (pc := 40) dX4_ofFlaw_40 (by decide) ?_
        refine AW.icmp_ne (pc := 41) (tgt := 54) dX4_ofFlaw_41 (by decide) (fun c4 => ?_) (fun c4 => ?_)
        · have hw := hw.1 c4
          exact AW.throwS (pc := 54) (E := "java/lang/IllegalArgumentException") (text := "neither code nor place") dX4_ofFlaw_54 dX4_ofFlaw_57 dX4_ofFlaw_58 dX4_ofFlaw_60 dX4_ofFlaw_63 rfl (by decide) th_names (by decide) tw_169 tw_15 (by decide +kernel) th_IAE_64 th_IAE_64g (by decide) (by omega) (by omega) (hX _ _ hw)
        · have hw := hw.2 c4
          refine AW.aload_n (pc := 44) dX4_ofFlaw_44 rfl rfl ?_
          refine LW.get (pc := 45) (f := 1) (ci := 4) (T := TX4) ht (by decide) rfl dX4_ofFlaw_45 tw_621 rfl (by decide) rfl ?_
          refine LW.getN (pc := 48) (f := 1) (ci := 2) (T := TX2) ht (by decide) rfl dX4_ofFlaw_48 tw_511 rfl (by decide) rfl ?_
          refine AW.iload_n (pc := 51) dX4_ofFlaw_51 rfl rfl ?_
          obtain ⟨hin, hw⟩ := hw
          refine LW.iald (pc := 52) (j := p1.toNatClampNeg) ht (by decide) rfl dX4_ofFlaw_52 hin rfl ?_
          exact AW.iret (pc := 53) dX4_ofFlaw_53 rfl rfl (by omega) (by omega) (hQ _ _ hw)
      · have hw := hw.2 c3
        refine AW.aload_n (pc := 29) dX4_ofFlaw_29 rfl rfl ?_
        refine LW.get (pc := 30) (f := 1) (ci := 4) (T := TX4) ht (by decide) rfl dX4_ofFlaw_30 tw_621 rfl (by decide) rfl ?_
        refine LW.getN (pc := 33) (f := 0) (ci := 2) (T := TX2) ht (by decide) rfl dX4_ofFlaw_33 tw_509 rfl (by decide) rfl ?_
        refine AW.iload_n (pc := 36) dX4_ofFlaw_36 rfl rfl ?_
        obtain ⟨hin, hw⟩ := hw
        refine LW.iald (pc := 37) (j := p1.toNatClampNeg) ht (by decide) rfl dX4_ofFlaw_37 hin rfl ?_
        exact AW.iret (pc := 38) dX4_ofFlaw_38 rfl rfl (by omega) (by omega) (hQ _ _ hw)
    · have hw := hw.2 c2
      exact AW.throwS (pc := 15) (E := "java/lang/IndexOutOfBoundsException") (text := "no such flaw") dX4_ofFlaw_15 dX4_ofFlaw_18 dX4_ofFlaw_19 dX4_ofFlaw_21 dX4_ofFlaw_24 rfl (by decide) th_names (by decide) tw_27 tw_12 (by decide +kernel) th_IOOBE_110 th_IOOBE_110g (by decide) (by omega) (by omega) (hX _ _ hw)
set_option maxRecDepth 100000 in
set_option maxHeartbeats 4000000 in
theorem c_N_ofFlaw {d k t : Nat} {ex : Hp} {o : Nat → Int64} {K : Int32 → Mem → Prop} {X : String → Mem → Prop} {m : Mem} {p1 : Int32} {p2 : Int32} (ht : tok t) (hd : 2 ≤ d) (hw : w_N_ofFlaw p1 p2 m K X) : AM mX4_ofFlaw d [.ref 1, .int p1, .int p2] (lay t ex o m) k 1 6 (fun oc h' k' => k = k' ∧ ∃ (m' : Mem), h' = lay t ex o m' ∧ ((∃ r : Int32, oc = .inl (some (.int r)) ∧ K r m') ∨ ∃ E : String, oc = .inr E ∧ X E m')) :=
  AM.intro (μ := mX4_ofFlaw) (n := 0) (by decide) rfl rfl rfl (b_N_ofFlaw ht hd (by omega) (by omega) (fun _ _ hK => ⟨rfl, _, rfl, Or.inl ⟨_, rfl, hK⟩⟩) (fun _ _ hX => ⟨rfl, _, rfl, Or.inr ⟨_, rfl, hX⟩⟩) p1 p2 hw)
def w_N_way_26 : Nat → Int32 → Int32 → Int32 → Mem → (Int32 → Int32 → Int32 → Mem → Prop) → (Int32 → Mem → Prop) → Prop
  | 0, _, _, _, _, _, _ => False
  | n + 1, x1, x2, x3, m, E55, K => ((x1 ≤ x3 → E55 x1 x2 x3 m) ∧ (¬ (x1 ≤ x3) → ((x2 = (-1 : Int32) → E55 x1 x2 x3 m) ∧ (¬ (x2 = (-1 : Int32)) → w_A_wireBehind 19 x2 m (fun r8 m7 => w_N_way_26 n x1 r8 (x3 + 1) m7 E55 K)))))
def w_N_way (p1 : Int32) (m : Mem) (K : Int32 → Mem → Prop) : Prop :=
  ((p1 < 0 → K (-1 : Int32) m) ∧ (¬ (p1 < 0) → ((p1 < (24 : Int32) → w_A_latestDriven 19  m (fun r4 m3 => w_N_way_26 25 p1 r4 (0 : Int32) m3 (fun y9 y10 y11 m12 => K y10 m12) K)) ∧ (¬ (p1 < (24 : Int32)) → K (-1 : Int32) m))))
set_option maxRecDepth 100000 in
set_option maxHeartbeats 4000000 in
theorem l_N_way_26 {Z : Gz} {d k0 mc ms cs ss k t : Nat} {Q : Po} {ex : Hp} {o : Nat → Int64} {K : Int32 → Mem → Prop}  (ht : tok t) (hd : 5 ≤ d) (hcs : cs ≤ mc) (hss : ss ≤ ms) (hQ : ∀ (r : Int32) (m : Mem), K r m → Q (.inl (some (.int r))) (lay t ex o m) k) {E55 : Int32 → Int32 → Int32 → Mem → Prop} (hE55 : ∀ (x1 : Int32) (x2 : Int32) (x3 : Int32) (m : Mem), E55 x1 x2 x3 m → AW Z mX4_way d k0 mc ms Q 55 [.ref 1, .int x1, .int x2, .int x3] [] (lay t ex o m) k cs ss) : ∀ (n : Nat) (x1 : Int32) (x2 : Int32) (x3 : Int32) (m : Mem),  w_N_way_26 n x1 x2 x3 m E55 K → AW Z mX4_way d k0 mc ms Q 26 [.ref 1, .int x1, .int x2, .int x3] [] (lay t ex o m) k cs ss := by
  intro n
  induction n with
  | zero =>
    intros; rename_i hw; exact absurd hw (by simp [w_N_way_26])
  | succ n ih =>
    intro x1 x2 x3 m hw
    unfold w_N_way_26 at hw
    refine AW.iload_n (pc := 26) dX4_way_26 rfl rfl ?_
    refine AW.iload_n (pc := 27) dX4_way_27 rfl rfl ?_
    refine AW.icmp_ge (pc := 28) (tgt := 55) dX4_way_28 (by decide) (fun c5 => ?_) (fun c5 => ?_)
    · have hw := hw.1 c5
      exact hE55 x1 x2 x3 m hw
    · have hw := hw.2 c5
      refine AW.iload_n (pc := 31) dX4_way_31 rfl rfl ?_
      refine AW.iconst (v := -1) (pc := 32) dX4_way_32 (by decide) ?_
      refine AW.icmp_eq (pc := 33) (tgt := 55) dX4_way_33 (by decide) (fun c6 => ?_) (fun c6 => ?_)
      · have hw := hw.1 c6
        exact hE55 x1 x2 x3 m hw
      · have hw := hw.2 c6
        refine AW.aload_n (pc := 36) dX4_way_36 rfl rfl ?_
        refine LW.get (pc := 37) (f := 2) (ci := 4) (T := TX4) ht (by decide) rfl dX4_way_37 tw_622 rfl (by decide) rfl ?_
        refine AW.aload_n (pc := 40) dX4_way_40 rfl rfl ?_
        refine LW.get (pc := 41) (f := 0) (ci := 4) (T := TX4) ht (by decide) rfl dX4_way_41 tw_620 rfl (by decide) rfl ?_
        refine AW.iload_n (pc := 44) dX4_way_44 rfl rfl ?_
        refine AW.callV (pc := 45) (S' := []) dX4_way_45 (c_A_wireBehind_19 (d := d - 1) ht (by omega) hw) ok_X0_wireBehind tw_117 tw_118 tw_116 (fix_pos (by decide)) (lay_at ht (by decide)) (show aw_cl[0]? = some _ from rfl) rfl rfl (by omega) rfl (Nat.le_of_ble_eq_true rfl) (by omega) (by omega) ?_ (fun E h' k' hq => by obtain ⟨rfl, r8, m7, hv, -⟩ := hq; cases hv)
        intro v h' k' hq
        obtain ⟨rfl, r8, m7, hv, rfl, hw⟩ := hq
        cases hv
        show AW _ _ _ _ _ _ _ 48 [.ref 1, .int x1, .int x2, .int x3] [.int r8] (lay t ex o m7) k _ _
        refine AW.istore_n (L' := [.ref 1, .int x1, .int r8, .int x3]) (pc := 48) dX4_way_48 rfl (by decide) rfl rfl ?_
        refine AW.iinc (v := (x3 + 1)) (L' := [.ref 1, .int x1, .int r8, .int (x3 + 1)]) (pc := 49) dX4_way_49 rfl rfl (by decide) rfl rfl ?_
        refine AW.goto (pc := 52) (tgt := 26) dX4_way_52 (by decide) ?_
        exact ih x1 r8 (x3 + 1) m7 hw
set_option maxRecDepth 100000 in
set_option maxHeartbeats 4000000 in
theorem b_N_way {Z : Gz} {d k0 mc ms cs ss k t : Nat} {Q : Po} {ex : Hp} {o : Nat → Int64} {K : Int32 → Mem → Prop}  (ht : tok t) (hd : 5 ≤ d) (hcs : cs + 0 ≤ mc) (hss : ss + 0 ≤ ms) (hQ : ∀ (r : Int32) (m : Mem), K r m → Q (.inl (some (.int r))) (lay t ex o m) k) {m : Mem} (p1 : Int32) (hw : w_N_way p1 m K) : AW Z mX4_way d k0 mc ms Q 0 [.ref 1, .int p1, .null, .null] [] (lay t ex o m) k cs ss := by
  unfold w_N_way at hw
  refine AW.iload_n (pc := 0) dX4_way_0 rfl rfl ?_
  refine AW.if_lt (pc := 1) (tgt := 10) dX4_way_1 (by decide) (fun c1 => ?_) (fun c1 => ?_)
  · have hw := hw.1 c1
    refine AW.iconst (v := -1) (pc := 10) dX4_way_10 (by decide) ?_
    exact AW.iret (pc := 11) dX4_way_11 rfl rfl (by omega) (by omega) (hQ _ _ hw)
  · have hw := hw.2 c1
    refine AW.iload_n (pc := 4) dX4_way_4 rfl rfl ?_
    refine AW.bipush (v := 24) (pc := 5) dX4_way_5 (by decide) ?_
    refine AW.icmp_lt (pc := 7) (tgt := 12) dX4_way_7 (by decide) (fun c2 => ?_) (fun c2 => ?_)
    · have hw := hw.1 c2
      refine AW.aload_n (pc := 12) dX4_way_12 rfl rfl ?_
      refine LW.get (pc := 13) (f := 2) (ci := 4) (T := TX4) ht (by decide) rfl dX4_way_13 tw_622 rfl (by decide) rfl ?_
      refine AW.aload_n (pc := 16) dX4_way_16 rfl rfl ?_
      refine LW.get (pc := 17) (f := 0) (ci := 4) (T := TX4) ht (by decide) rfl dX4_way_17 tw_620 rfl (by decide) rfl ?_
      refine AW.callV (pc := 20) (S' := []) dX4_way_20 (c_A_latestDriven_19 (d := d - 1) ht (by omega) hw) ok_X0_latestDriven tw_113 tw_114 tw_112 (fix_pos (by decide)) (lay_at ht (by decide)) (show aw_cl[0]? = some _ from rfl) rfl rfl (by omega) rfl (Nat.le_of_ble_eq_true rfl) (by omega) (by omega) ?_ (fun E h' k' hq => by obtain ⟨rfl, r4, m3, hv, -⟩ := hq; cases hv)
      intro v h' k' hq
      obtain ⟨rfl, r4, m3, hv, rfl, hw⟩ := hq
      cases hv
      show AW _ _ _ _ _ _ _ 23 [.ref 1, .int p1, .null, .null] [.int r4] (lay t ex o m3) k _ _
      refine AW.istore_n (L' := [.ref 1, .int p1, .int r4, .null]) (pc := 23) dX4_way_23 rfl (by decide) rfl rfl ?_
      refine AW.iconst (v := 0) (pc := 24) dX4_way_24 (by decide) ?_
      refine AW.istore_n (L' := [.ref 1, .int p1, .int r4, .int (0 : Int32)]) (pc := 25) dX4_way_25 rfl (by decide) rfl rfl ?_
      refine l_N_way_26 ht hd (by omega) (by omega) hQ ?_ 25 p1 r4 (0 : Int32) m3 hw
      intro y9 y10 y11 m12 hw
      refine AW.iload_n (pc := 55) dX4_way_55 rfl rfl ?_
      exact AW.iret (pc := 56) dX4_way_56 rfl rfl (by omega) (by omega) (hQ _ _ hw)
    · have hw := hw.2 c2
      refine AW.iconst (v := -1) (pc := 10) dX4_way_10 (by decide) ?_
      exact AW.iret (pc := 11) dX4_way_11 rfl rfl (by omega) (by omega) (hQ _ _ hw)
set_option maxRecDepth 100000 in
set_option maxHeartbeats 4000000 in
theorem c_N_way {d k t : Nat} {ex : Hp} {o : Nat → Int64} {K : Int32 → Mem → Prop} {m : Mem} {p1 : Int32} (ht : tok t) (hd : 5 ≤ d) (hw : w_N_way p1 m K) : AM mX4_way d [.ref 1, .int p1] (lay t ex o m) k 0 0 (fun oc h' k' => k = k' ∧ ∃ (r : Int32) (m' : Mem), oc = .inl (some (.int r)) ∧ h' = lay t ex o m' ∧ K r m') :=
  AM.intro (μ := mX4_way) (n := 2) (by decide) rfl rfl rfl (b_N_way ht hd (by omega) (by omega) (fun _ _ hK => ⟨rfl, _, _, rfl, rfl, hK⟩) p1 hw)
def w_N_hazards (m : Mem) (K : Int32 → Mem → Prop) : Prop :=
  K (m 23 12) m
set_option maxRecDepth 100000 in
set_option maxHeartbeats 4000000 in
theorem b_N_hazards {Z : Gz} {d k0 mc ms cs ss k t : Nat} {Q : Po} {ex : Hp} {o : Nat → Int64} {K : Int32 → Mem → Prop}  (ht : tok t) (hd : 2 ≤ d) (hcs : cs + 0 ≤ mc) (hss : ss + 0 ≤ ms) (hQ : ∀ (r : Int32) (m : Mem), K r m → Q (.inl (some (.int r))) (lay t ex o m) k) {m : Mem}  (hw : w_N_hazards  m K) : AW Z mX4_hazards d k0 mc ms Q 0 [.ref 1] [] (lay t ex o m) k cs ss := by
  unfold w_N_hazards at hw
  refine AW.aload_n (pc := 0) dX4_hazards_0 rfl rfl ?_
  refine LW.get (pc := 1) (f := 4) (ci := 4) (T := TX4) ht (by decide) rfl dX4_hazards_1 tw_624 rfl (by decide) rfl ?_
  refine LW.getN (pc := 4) (f := 12) (ci := 3) (T := TX3) ht (by decide) rfl dX4_hazards_4 tw_573 rfl (by decide) rfl ?_
  exact AW.iret (pc := 7) dX4_hazards_7 rfl rfl (by omega) (by omega) (hQ _ _ hw)
set_option maxRecDepth 100000 in
set_option maxHeartbeats 4000000 in
theorem c_N_hazards {d k t : Nat} {ex : Hp} {o : Nat → Int64} {K : Int32 → Mem → Prop} {m : Mem}  (ht : tok t) (hd : 2 ≤ d) (hw : w_N_hazards  m K) : AM mX4_hazards d [.ref 1] (lay t ex o m) k 0 0 (fun oc h' k' => k = k' ∧ ∃ (r : Int32) (m' : Mem), oc = .inl (some (.int r)) ∧ h' = lay t ex o m' ∧ K r m') :=
  AM.intro (μ := mX4_hazards) (n := 0) (by decide) rfl rfl rfl (b_N_hazards ht hd (by omega) (by omega) (fun _ _ hK => ⟨rfl, _, _, rfl, rfl, hK⟩)  hw)
def w_N_ofHazard (p1 : Int32) (p2 : Int32) (m : Mem) (K : Int32 → Mem → Prop) (X : String → Mem → Prop) : Prop :=
  ((p1 < 0 → X "java/lang/IndexOutOfBoundsException" m) ∧ (¬ (p1 < 0) → ((p1 < (m 23 12) → ((p2 = 0 → vp_in p1 40 ∧ K (m 32 (p1).toNatClampNeg) m) ∧ (p2 = 1 → vp_in p1 40 ∧ K (m 33 (p1).toNatClampNeg) m) ∧ (p2 = 2 → vp_in p1 40 ∧ K (m 34 (p1).toNatClampNeg) m) ∧ (¬ p2 = 0 → ¬ p2 = 1 → ¬ p2 = 2 → X "java/lang/IllegalArgumentException" m))) ∧ (¬ (p1 < (m 23 12)) → X "java/lang/IndexOutOfBoundsException" m))))
set_option maxRecDepth 100000 in
set_option maxHeartbeats 4000000 in
theorem b_N_ofHazard {Z : Gz} {d k0 mc ms cs ss k t : Nat} {Q : Po} {ex : Hp} {o : Nat → Int64} {K : Int32 → Mem → Prop}  {X : String → Mem → Prop} (ht : tok t) (hd : 2 ≤ d) (hcs : cs + 1 ≤ mc) (hss : ss + 6 ≤ ms) (hQ : ∀ (r : Int32) (m : Mem), K r m → Q (.inl (some (.int r))) (lay t ex o m) k) (hX : ∀ (E : String) (m : Mem), X E m → Q (.inr E) (lay t ex o m) k) {m : Mem} (p1 : Int32) (p2 : Int32) (hw : w_N_ofHazard p1 p2 m K X) : AW Z mX4_ofHazard d k0 mc ms Q 0 [.ref 1, .int p1, .int p2] [] (lay t ex o m) k cs ss := by
  unfold w_N_ofHazard at hw
  refine AW.iload_n (pc := 0) dX4_ofHazard_0 rfl rfl ?_
  refine AW.if_lt (pc := 1) (tgt := 15) dX4_ofHazard_1 (by decide) (fun c1 => ?_) (fun c1 => ?_)
  · have hw := hw.1 c1
    exact AW.throwS (pc := 15) (E := "java/lang/IndexOutOfBoundsException") (text := "no such hazard") dX4_ofHazard_15 dX4_ofHazard_18 dX4_ofHazard_19 dX4_ofHazard_21 dX4_ofHazard_24 rfl (by decide) th_names (by decide) tw_27 tw_12 (by decide +kernel) th_IOOBE_110 th_IOOBE_110g (by decide) (by omega) (by omega) (hX _ _ hw)
  · have hw := hw.2 c1
    refine AW.iload_n (pc := 4) dX4_ofHazard_4 rfl rfl ?_
    refine AW.aload_n (pc := 5) dX4_ofHazard_5 rfl rfl ?_
    refine LW.get (pc := 6) (f := 4) (ci := 4) (T := TX4) ht (by decide) rfl dX4_ofHazard_6 tw_624 rfl (by decide) rfl ?_
    refine LW.getN (pc := 9) (f := 12) (ci := 3) (T := TX3) ht (by decide) rfl dX4_ofHazard_9 tw_573 rfl (by decide) rfl ?_
    refine AW.icmp_lt (pc := 12) (tgt := 25) dX4_ofHazard_12 (by decide) (fun c2 => ?_) (fun c2 => ?_)
    · have hw := hw.1 c2
      refine AW.iload_n (pc := 25) dX4_ofHazard_25 rfl rfl ?_
      by_cases s0 : p2 = 0
      · have hw := hw.1 s0
        refine AW.tableIn (pc := 26) (tgt := 52) dX4_ofHazard_26 (by rw [s0]; decide) (by rw [s0]; decide) (off := 26) (by rw [s0]; decide) (by decide) ?_
        refine AW.aload_n (pc := 52) dX4_ofHazard_52 rfl rfl ?_
        refine LW.get (pc := 53) (f := 4) (ci := 4) (T := TX4) ht (by decide) rfl dX4_ofHazard_53 tw_624 rfl (by decide) rfl ?_
        refine LW.getN (pc := 56) (f := 9) (ci := 3) (T := TX3) ht (by decide) rfl dX4_ofHazard_56 tw_567 rfl (by decide) rfl ?_
        refine AW.iload_n (pc := 59) dX4_ofHazard_59 rfl rfl ?_
        obtain ⟨hin, hw⟩ := hw
        refine LW.iald (pc := 60) (j := p1.toNatClampNeg) ht (by decide) rfl dX4_ofHazard_60 hin rfl ?_
        exact AW.iret (pc := 61) dX4_ofHazard_61 rfl rfl (by omega) (by omega) (hQ _ _ hw)
      by_cases s1 : p2 = 1
      · have hw := hw.2.1 s1
        refine AW.tableIn (pc := 26) (tgt := 62) dX4_ofHazard_26 (by rw [s1]; decide) (by rw [s1]; decide) (off := 36) (by rw [s1]; decide) (by decide) ?_
        refine AW.aload_n (pc := 62) dX4_ofHazard_62 rfl rfl ?_
        refine LW.get (pc := 63) (f := 4) (ci := 4) (T := TX4) ht (by decide) rfl dX4_ofHazard_63 tw_624 rfl (by decide) rfl ?_
        refine LW.getN (pc := 66) (f := 10) (ci := 3) (T := TX3) ht (by decide) rfl dX4_ofHazard_66 tw_569 rfl (by decide) rfl ?_
        refine AW.iload_n (pc := 69) dX4_ofHazard_69 rfl rfl ?_
        obtain ⟨hin, hw⟩ := hw
        refine LW.iald (pc := 70) (j := p1.toNatClampNeg) ht (by decide) rfl dX4_ofHazard_70 hin rfl ?_
        exact AW.iret (pc := 71) dX4_ofHazard_71 rfl rfl (by omega) (by omega) (hQ _ _ hw)
      by_cases s2 : p2 = 2
      · have hw := hw.2.2.1 s2
        refine AW.tableIn (pc := 26) (tgt := 72) dX4_ofHazard_26 (by rw [s2]; decide) (by rw [s2]; decide) (off := 46) (by rw [s2]; decide) (by decide) ?_
        refine AW.aload_n (pc := 72) dX4_ofHazard_72 rfl rfl ?_
        refine LW.get (pc := 73) (f := 4) (ci := 4) (T := TX4) ht (by decide) rfl dX4_ofHazard_73 tw_624 rfl (by decide) rfl ?_
        refine LW.getN (pc := 76) (f := 11) (ci := 3) (T := TX3) ht (by decide) rfl dX4_ofHazard_76 tw_571 rfl (by decide) rfl ?_
        refine AW.iload_n (pc := 79) dX4_ofHazard_79 rfl rfl ?_
        obtain ⟨hin, hw⟩ := hw
        refine LW.iald (pc := 80) (j := p1.toNatClampNeg) ht (by decide) rfl dX4_ofHazard_80 hin rfl ?_
        exact AW.iret (pc := 81) dX4_ofHazard_81 rfl rfl (by omega) (by omega) (hQ _ _ hw)
      have hw := hw.2.2.2 s0 s1 s2
      refine AW.tableOut (pc := 26) (tgt := 82) dX4_ofHazard_26 (by
          have q0 := lv_neT s0 (show (0 : Int32).toInt = 0 by decide)
          have q1 := lv_neT s1 (show (1 : Int32).toInt = 1 by decide)
          have q2 := lv_neT s2 (show (2 : Int32).toInt = 2 by decide)
          omega) (by decide) ?_
      exact AW.throwS (pc := 82) (E := "java/lang/IllegalArgumentException") (text := "nothing of that number is kept of a hazard") dX4_ofHazard_82 dX4_ofHazard_85 dX4_ofHazard_86 dX4_ofHazard_88 dX4_ofHazard_91 rfl (by decide) th_names (by decide) tw_169 tw_15 (by decide +kernel) th_IAE_64 th_IAE_64g (by decide) (by omega) (by omega) (hX _ _ hw)
    · have hw := hw.2 c2
      exact AW.throwS (pc := 15) (E := "java/lang/IndexOutOfBoundsException") (text := "no such hazard") dX4_ofHazard_15 dX4_ofHazard_18 dX4_ofHazard_19 dX4_ofHazard_21 dX4_ofHazard_24 rfl (by decide) th_names (by decide) tw_27 tw_12 (by decide +kernel) th_IOOBE_110 th_IOOBE_110g (by decide) (by omega) (by omega) (hX _ _ hw)
set_option maxRecDepth 100000 in
set_option maxHeartbeats 4000000 in
theorem c_N_ofHazard {d k t : Nat} {ex : Hp} {o : Nat → Int64} {K : Int32 → Mem → Prop} {X : String → Mem → Prop} {m : Mem} {p1 : Int32} {p2 : Int32} (ht : tok t) (hd : 2 ≤ d) (hw : w_N_ofHazard p1 p2 m K X) : AM mX4_ofHazard d [.ref 1, .int p1, .int p2] (lay t ex o m) k 1 6 (fun oc h' k' => k = k' ∧ ∃ (m' : Mem), h' = lay t ex o m' ∧ ((∃ r : Int32, oc = .inl (some (.int r)) ∧ K r m') ∨ ∃ E : String, oc = .inr E ∧ X E m')) :=
  AM.intro (μ := mX4_ofHazard) (n := 0) (by decide) rfl rfl rfl (b_N_ofHazard ht hd (by omega) (by omega) (fun _ _ hK => ⟨rfl, _, rfl, Or.inl ⟨_, rfl, hK⟩⟩) (fun _ _ hX => ⟨rfl, _, rfl, Or.inr ⟨_, rfl, hX⟩⟩) p1 p2 hw)
def w_N_pending (p1 : Int32) (m : Mem) (K : Int32 → Mem → Prop) (X : String → Mem → Prop) : Prop :=
  w_N_checkLine p1 m (fun m1 => vp_in p1 30 ∧ K (m1 28 (p1).toNatClampNeg) m1) X
set_option maxRecDepth 100000 in
set_option maxHeartbeats 4000000 in
theorem b_N_pending {Z : Gz} {d k0 mc ms cs ss k t : Nat} {Q : Po} {ex : Hp} {o : Nat → Int64} {K : Int32 → Mem → Prop}  {X : String → Mem → Prop} (ht : tok t) (hd : 3 ≤ d) (hcs : cs + 1 ≤ mc) (hss : ss + 6 ≤ ms) (hQ : ∀ (r : Int32) (m : Mem), K r m → Q (.inl (some (.int r))) (lay t ex o m) k) (hX : ∀ (E : String) (m : Mem), X E m → Q (.inr E) (lay t ex o m) k) {m : Mem} (p1 : Int32) (hw : w_N_pending p1 m K X) : AW Z mX4_pending d k0 mc ms Q 0 [.ref 1, .int p1] [] (lay t ex o m) k cs ss := by
  unfold w_N_pending at hw
  refine AW.aload_n (pc := 0) dX4_pending_0 rfl rfl ?_
  refine AW.iload_n (pc := 1) dX4_pending_1 rfl rfl ?_
  refine AW.callV (pc := 2) (S' := []) dX4_pending_2 (c_N_checkLine (d := d - 1) ht (by omega) hw) ok_X4_checkLine tw_317 ts_17 tw_315 (fix_pos (by decide)) (lay_at ht (by decide)) (show aw_cl[4]? = some _ from rfl) rfl rfl (by omega) rfl (Nat.le_of_ble_eq_true rfl) (by omega) (by omega) ?_ ?_
  · intro v h' k' hq
    obtain ⟨rfl, m1, rfl, (⟨hv, hw⟩ | ⟨E, hv, hw⟩)⟩ := hq
    · cases hv
      show AW _ _ _ _ _ _ _ 5 [.ref 1, .int p1] [] (lay t ex o m1) k _ _
      refine AW.aload_n (pc := 5) dX4_pending_5 rfl rfl ?_
      refine LW.get (pc := 6) (f := 4) (ci := 4) (T := TX4) ht (by decide) rfl dX4_pending_6 tw_624 rfl (by decide) rfl ?_
      refine LW.getN (pc := 9) (f := 5) (ci := 3) (T := TX3) ht (by decide) rfl dX4_pending_9 tw_562 rfl (by decide) rfl ?_
      refine AW.iload_n (pc := 12) dX4_pending_12 rfl rfl ?_
      obtain ⟨hin, hw⟩ := hw
      refine LW.iald (pc := 13) (j := p1.toNatClampNeg) ht (by decide) rfl dX4_pending_13 hin rfl ?_
      exact AW.iret (pc := 14) dX4_pending_14 rfl rfl (by omega) (by omega) (hQ _ _ hw)
    · cases hv
  · intro E h' k' hq
    obtain ⟨rfl, m1, rfl, (⟨hv, hw⟩ | ⟨E2, hv, hw⟩)⟩ := hq
    · cases hv
    · cases hv; exact AX.out rfl (by omega) (by omega) (hX _ _ hw)
set_option maxRecDepth 100000 in
set_option maxHeartbeats 4000000 in
theorem c_N_pending {d k t : Nat} {ex : Hp} {o : Nat → Int64} {K : Int32 → Mem → Prop} {X : String → Mem → Prop} {m : Mem} {p1 : Int32} (ht : tok t) (hd : 3 ≤ d) (hw : w_N_pending p1 m K X) : AM mX4_pending d [.ref 1, .int p1] (lay t ex o m) k 1 6 (fun oc h' k' => k = k' ∧ ∃ (m' : Mem), h' = lay t ex o m' ∧ ((∃ r : Int32, oc = .inl (some (.int r)) ∧ K r m') ∨ ∃ E : String, oc = .inr E ∧ X E m')) :=
  AM.intro (μ := mX4_pending) (n := 0) (by decide) rfl rfl rfl (b_N_pending ht hd (by omega) (by omega) (fun _ _ hK => ⟨rfl, _, rfl, Or.inl ⟨_, rfl, hK⟩⟩) (fun _ _ hX => ⟨rfl, _, rfl, Or.inr ⟨_, rfl, hX⟩⟩) p1 hw)
def w_N_told (p1 : Int32) (m : Mem) (K : Int32 → Mem → Prop) (X : String → Mem → Prop) : Prop :=
  ((p1 = 0 → K (m 23 13) m) ∧ (p1 = 1 → w_R_linesPending 23  m (fun r2 m1 => K r2 m1)) ∧ (p1 = 2 → w_R_nextTime 23  m (fun r4 m3 => K r4 m3)) ∧ (p1 = 3 → K (m 23 15) m) ∧ (p1 = 4 → K (m 23 16) m) ∧ (p1 = 5 → K (m 23 17) m) ∧ (¬ p1 = 0 → ¬ p1 = 1 → ¬ p1 = 2 → ¬ p1 = 3 → ¬ p1 = 4 → ¬ p1 = 5 → X "java/lang/IllegalArgumentException" m))
set_option maxRecDepth 100000 in
set_option maxHeartbeats 4000000 in
theorem b_N_told {Z : Gz} {d k0 mc ms cs ss k t : Nat} {Q : Po} {ex : Hp} {o : Nat → Int64} {K : Int32 → Mem → Prop}  {X : String → Mem → Prop} (ht : tok t) (hd : 5 ≤ d) (hcs : cs + 1 ≤ mc) (hss : ss + 6 ≤ ms) (hQ : ∀ (r : Int32) (m : Mem), K r m → Q (.inl (some (.int r))) (lay t ex o m) k) (hX : ∀ (E : String) (m : Mem), X E m → Q (.inr E) (lay t ex o m) k) {m : Mem} (p1 : Int32) (hw : w_N_told p1 m K X) : AW Z mX4_told d k0 mc ms Q 0 [.ref 1, .int p1] [] (lay t ex o m) k cs ss := by
  unfold w_N_told at hw
  refine AW.iload_n (pc := 0) dX4_told_0 rfl rfl ?_
  by_cases s0 : p1 = 0
  · have hw := hw.1 s0
    refine AW.tableIn (pc := 1) (tgt := 40) dX4_told_1 (by rw [s0]; decide) (by rw [s0]; decide) (off := 39) (by rw [s0]; decide) (by decide) ?_
    refine AW.aload_n (pc := 40) dX4_told_40 rfl rfl ?_
    refine LW.get (pc := 41) (f := 4) (ci := 4) (T := TX4) ht (by decide) rfl dX4_told_41 tw_624 rfl (by decide) rfl ?_
    refine LW.getN (pc := 44) (f := 13) (ci := 3) (T := TX3) ht (by decide) rfl dX4_told_44 tw_575 rfl (by decide) rfl ?_
    exact AW.iret (pc := 47) dX4_told_47 rfl rfl (by omega) (by omega) (hQ _ _ hw)
  by_cases s1 : p1 = 1
  · have hw := hw.2.1 s1
    refine AW.tableIn (pc := 1) (tgt := 48) dX4_told_1 (by rw [s1]; decide) (by rw [s1]; decide) (off := 47) (by rw [s1]; decide) (by decide) ?_
    refine AW.aload_n (pc := 48) dX4_told_48 rfl rfl ?_
    refine LW.get (pc := 49) (f := 4) (ci := 4) (T := TX4) ht (by decide) rfl dX4_told_49 tw_624 rfl (by decide) rfl ?_
    refine AW.callV (pc := 52) (S' := []) dX4_told_52 (c_R_linesPending_23 (d := d - 1) ht (by omega) hw) ok_X3_linesPending tw_298 tw_299 tw_297 (fix_pos (by decide)) (lay_at ht (by decide)) (show aw_cl[3]? = some _ from rfl) rfl rfl (by omega) rfl (Nat.le_of_ble_eq_true rfl) (by omega) (by omega) ?_ (fun E h' k' hq => by obtain ⟨rfl, r2, m1, hv, -⟩ := hq; cases hv)
    intro v h' k' hq
    obtain ⟨rfl, r2, m1, hv, rfl, hw⟩ := hq
    cases hv
    show AW _ _ _ _ _ _ _ 55 [.ref 1, .int p1] [.int r2] (lay t ex o m1) k _ _
    exact AW.iret (pc := 55) dX4_told_55 rfl rfl (by omega) (by omega) (hQ _ _ hw)
  by_cases s2 : p1 = 2
  · have hw := hw.2.2.1 s2
    refine AW.tableIn (pc := 1) (tgt := 56) dX4_told_1 (by rw [s2]; decide) (by rw [s2]; decide) (off := 55) (by rw [s2]; decide) (by decide) ?_
    refine AW.aload_n (pc := 56) dX4_told_56 rfl rfl ?_
    refine LW.get (pc := 57) (f := 4) (ci := 4) (T := TX4) ht (by decide) rfl dX4_told_57 tw_624 rfl (by decide) rfl ?_
    refine AW.callV (pc := 60) (S' := []) dX4_told_60 (c_R_nextTime_23 (d := d - 1) ht (by omega) hw) ok_X3_nextTime tw_302 tw_303 tw_301 (fix_pos (by decide)) (lay_at ht (by decide)) (show aw_cl[3]? = some _ from rfl) rfl rfl (by omega) rfl (Nat.le_of_ble_eq_true rfl) (by omega) (by omega) ?_ (fun E h' k' hq => by obtain ⟨rfl, r4, m3, hv, -⟩ := hq; cases hv)
    intro v h' k' hq
    obtain ⟨rfl, r4, m3, hv, rfl, hw⟩ := hq
    cases hv
    show AW _ _ _ _ _ _ _ 63 [.ref 1, .int p1] [.int r4] (lay t ex o m3) k _ _
    exact AW.iret (pc := 63) dX4_told_63 rfl rfl (by omega) (by omega) (hQ _ _ hw)
  by_cases s3 : p1 = 3
  · have hw := hw.2.2.2.1 s3
    refine AW.tableIn (pc := 1) (tgt := 64) dX4_told_1 (by rw [s3]; decide) (by rw [s3]; decide) (off := 63) (by rw [s3]; decide) (by decide) ?_
    refine AW.aload_n (pc := 64) dX4_told_64 rfl rfl ?_
    refine LW.get (pc := 65) (f := 4) (ci := 4) (T := TX4) ht (by decide) rfl dX4_told_65 tw_624 rfl (by decide) rfl ?_
    refine LW.getN (pc := 68) (f := 15) (ci := 3) (T := TX3) ht (by decide) rfl dX4_told_68 tw_578 rfl (by decide) rfl ?_
    exact AW.iret (pc := 71) dX4_told_71 rfl rfl (by omega) (by omega) (hQ _ _ hw)
  by_cases s4 : p1 = 4
  · have hw := hw.2.2.2.2.1 s4
    refine AW.tableIn (pc := 1) (tgt := 72) dX4_told_1 (by rw [s4]; decide) (by rw [s4]; decide) (off := 71) (by rw [s4]; decide) (by decide) ?_
    refine AW.aload_n (pc := 72) dX4_told_72 rfl rfl ?_
    refine LW.get (pc := 73) (f := 4) (ci := 4) (T := TX4) ht (by decide) rfl dX4_told_73 tw_624 rfl (by decide) rfl ?_
    refine LW.getN (pc := 76) (f := 16) (ci := 3) (T := TX3) ht (by decide) rfl dX4_told_76 tw_580 rfl (by decide) rfl ?_
    exact AW.iret (pc := 79) dX4_told_79 rfl rfl (by omega) (by omega) (hQ _ _ hw)
  by_cases s5 : p1 = 5
  · have hw := hw.2.2.2.2.2.1 s5
    refine AW.tableIn (pc := 1) (tgt := 80) dX4_told_1 (by rw [s5]; decide) (by rw [s5]; decide) (off := 79) (by rw [s5]; decide) (by decide) ?_
    refine AW.aload_n (pc := 80) dX4_told_80 rfl rfl ?_
    refine LW.get (pc := 81) (f := 4) (ci := 4) (T := TX4) ht (by decide) rfl dX4_told_81 tw_624 rfl (by decide) rfl ?_
    refine LW.getN (pc := 84) (f := 17) (ci := 3) (T := TX3) ht (by decide) rfl dX4_told_84 tw_582 rfl (by decide) rfl ?_
    exact AW.iret (pc := 87) dX4_told_87 rfl rfl (by omega) (by omega) (hQ _ _ hw)
  have hw := hw.2.2.2.2.2.2 s0 s1 s2 s3 s4 s5
  refine AW.tableOut (pc := 1) (tgt := 88) dX4_told_1 (by
      have q0 := lv_neT s0 (show (0 : Int32).toInt = 0 by decide)
      have q1 := lv_neT s1 (show (1 : Int32).toInt = 1 by decide)
      have q2 := lv_neT s2 (show (2 : Int32).toInt = 2 by decide)
      have q3 := lv_neT s3 (show (3 : Int32).toInt = 3 by decide)
      have q4 := lv_neT s4 (show (4 : Int32).toInt = 4 by decide)
      have q5 := lv_neT s5 (show (5 : Int32).toInt = 5 by decide)
      omega) (by decide) ?_
  exact AW.throwS (pc := 88) (E := "java/lang/IllegalArgumentException") (text := "nothing of that number is told") dX4_told_88 dX4_told_91 dX4_told_92 dX4_told_94 dX4_told_97 rfl (by decide) th_names (by decide) tw_169 tw_15 (by decide +kernel) th_IAE_64 th_IAE_64g (by decide) (by omega) (by omega) (hX _ _ hw)
set_option maxRecDepth 100000 in
set_option maxHeartbeats 4000000 in
theorem c_N_told {d k t : Nat} {ex : Hp} {o : Nat → Int64} {K : Int32 → Mem → Prop} {X : String → Mem → Prop} {m : Mem} {p1 : Int32} (ht : tok t) (hd : 5 ≤ d) (hw : w_N_told p1 m K X) : AM mX4_told d [.ref 1, .int p1] (lay t ex o m) k 1 6 (fun oc h' k' => k = k' ∧ ∃ (m' : Mem), h' = lay t ex o m' ∧ ((∃ r : Int32, oc = .inl (some (.int r)) ∧ K r m') ∨ ∃ E : String, oc = .inr E ∧ X E m')) :=
  AM.intro (μ := mX4_told) (n := 0) (by decide) rfl rfl rfl (b_N_told ht hd (by omega) (by omega) (fun _ _ hK => ⟨rfl, _, rfl, Or.inl ⟨_, rfl, hK⟩⟩) (fun _ _ hX => ⟨rfl, _, rfl, Or.inr ⟨_, rfl, hX⟩⟩) p1 hw)
def w_N_ofWire (p1 : Int32) (p2 : Int32) (m : Mem) (K : Int32 → Mem → Prop) (X : String → Mem → Prop) : Prop :=
  w_N_checkWire p1 m (fun m1 => ((p2 = 0 → vp_in p1 24 ∧ K (m1 24 (p1).toNatClampNeg) m1) ∧ (p2 = 1 → vp_in p1 24 ∧ K (m1 25 (p1).toNatClampNeg) m1) ∧ (p2 = 2 → vp_in p1 24 ∧ K (m1 26 (p1).toNatClampNeg) m1) ∧ (p2 = 3 → vp_in p1 24 ∧ K (m1 27 (p1).toNatClampNeg) m1) ∧ (¬ p2 = 0 → ¬ p2 = 1 → ¬ p2 = 2 → ¬ p2 = 3 → X "java/lang/IllegalArgumentException" m1))) X
set_option maxRecDepth 100000 in
set_option maxHeartbeats 4000000 in
theorem b_N_ofWire {Z : Gz} {d k0 mc ms cs ss k t : Nat} {Q : Po} {ex : Hp} {o : Nat → Int64} {K : Int32 → Mem → Prop}  {X : String → Mem → Prop} (ht : tok t) (hd : 4 ≤ d) (hcs : cs + 2 ≤ mc) (hss : ss + 12 ≤ ms) (hQ : ∀ (r : Int32) (m : Mem), K r m → Q (.inl (some (.int r))) (lay t ex o m) k) (hX : ∀ (E : String) (m : Mem), X E m → Q (.inr E) (lay t ex o m) k) {m : Mem} (p1 : Int32) (p2 : Int32) (hw : w_N_ofWire p1 p2 m K X) : AW Z mX4_ofWire d k0 mc ms Q 0 [.ref 1, .int p1, .int p2] [] (lay t ex o m) k cs ss := by
  unfold w_N_ofWire at hw
  refine AW.iload_n (pc := 0) dX4_ofWire_0 rfl rfl ?_
  refine AW.callS (pc := 1) (S' := []) dX4_ofWire_1 (c_N_checkWire (d := d - 1) ht (by omega) hw) ok_X4_checkWire tw_22 tw_21 rfl (by omega) rfl (Nat.le_of_ble_eq_true rfl) (by omega) (by omega) ?_ ?_
  · intro v h' k' hq
    obtain ⟨rfl, m1, rfl, (⟨hv, hw⟩ | ⟨E, hv, hw⟩)⟩ := hq
    · cases hv
      show AW _ _ _ _ _ _ _ 4 [.ref 1, .int p1, .int p2] [] (lay t ex o m1) k _ _
      refine AW.iload_n (pc := 4) dX4_ofWire_4 rfl rfl ?_
      by_cases s0 : p2 = 0
      · have hw := hw.1 s0
        refine AW.tableIn (pc := 5) (tgt := 36) dX4_ofWire_5 (by rw [s0]; decide) (by rw [s0]; decide) (off := 31) (by rw [s0]; decide) (by decide) ?_
        refine AW.aload_n (pc := 36) dX4_ofWire_36 rfl rfl ?_
        refine LW.get (pc := 37) (f := 4) (ci := 4) (T := TX4) ht (by decide) rfl dX4_ofWire_37 tw_624 rfl (by decide) rfl ?_
        refine LW.getN (pc := 40) (f := 1) (ci := 3) (T := TX3) ht (by decide) rfl dX4_ofWire_40 tw_554 rfl (by decide) rfl ?_
        refine AW.iload_n (pc := 43) dX4_ofWire_43 rfl rfl ?_
        obtain ⟨hin, hw⟩ := hw
        refine LW.iald (pc := 44) (j := p1.toNatClampNeg) ht (by decide) rfl dX4_ofWire_44 hin rfl ?_
        exact AW.iret (pc := 45) dX4_ofWire_45 rfl rfl (by omega) (by omega) (hQ _ _ hw)
      by_cases s1 : p2 = 1
      · have hw := hw.2.1 s1
        refine AW.tableIn (pc := 5) (tgt := 46) dX4_ofWire_5 (by rw [s1]; decide) (by rw [s1]; decide) (off := 41) (by rw [s1]; decide) (by decide) ?_
        refine AW.aload_n (pc := 46) dX4_ofWire_46 rfl rfl ?_
        refine LW.get (pc := 47) (f := 4) (ci := 4) (T := TX4) ht (by decide) rfl dX4_ofWire_47 tw_624 rfl (by decide) rfl ?_
        refine LW.getN (pc := 50) (f := 2) (ci := 3) (T := TX3) ht (by decide) rfl dX4_ofWire_50 tw_556 rfl (by decide) rfl ?_
        refine AW.iload_n (pc := 53) dX4_ofWire_53 rfl rfl ?_
        obtain ⟨hin, hw⟩ := hw
        refine LW.iald (pc := 54) (j := p1.toNatClampNeg) ht (by decide) rfl dX4_ofWire_54 hin rfl ?_
        exact AW.iret (pc := 55) dX4_ofWire_55 rfl rfl (by omega) (by omega) (hQ _ _ hw)
      by_cases s2 : p2 = 2
      · have hw := hw.2.2.1 s2
        refine AW.tableIn (pc := 5) (tgt := 56) dX4_ofWire_5 (by rw [s2]; decide) (by rw [s2]; decide) (off := 51) (by rw [s2]; decide) (by decide) ?_
        refine AW.aload_n (pc := 56) dX4_ofWire_56 rfl rfl ?_
        refine LW.get (pc := 57) (f := 4) (ci := 4) (T := TX4) ht (by decide) rfl dX4_ofWire_57 tw_624 rfl (by decide) rfl ?_
        refine LW.getN (pc := 60) (f := 3) (ci := 3) (T := TX3) ht (by decide) rfl dX4_ofWire_60 tw_558 rfl (by decide) rfl ?_
        refine AW.iload_n (pc := 63) dX4_ofWire_63 rfl rfl ?_
        obtain ⟨hin, hw⟩ := hw
        refine LW.iald (pc := 64) (j := p1.toNatClampNeg) ht (by decide) rfl dX4_ofWire_64 hin rfl ?_
        exact AW.iret (pc := 65) dX4_ofWire_65 rfl rfl (by omega) (by omega) (hQ _ _ hw)
      by_cases s3 : p2 = 3
      · have hw := hw.2.2.2.1 s3
        refine AW.tableIn (pc := 5) (tgt := 66) dX4_ofWire_5 (by rw [s3]; decide) (by rw [s3]; decide) (off := 61) (by rw [s3]; decide) (by decide) ?_
        refine AW.aload_n (pc := 66) dX4_ofWire_66 rfl rfl ?_
        refine LW.get (pc := 67) (f := 4) (ci := 4) (T := TX4) ht (by decide) rfl dX4_ofWire_67 tw_624 rfl (by decide) rfl ?_
        refine LW.getN (pc := 70) (f := 4) (ci := 3) (T := TX3) ht (by decide) rfl dX4_ofWire_70 tw_560 rfl (by decide) rfl ?_
        refine AW.iload_n (pc := 73) dX4_ofWire_73 rfl rfl ?_
        obtain ⟨hin, hw⟩ := hw
        refine LW.iald (pc := 74) (j := p1.toNatClampNeg) ht (by decide) rfl dX4_ofWire_74 hin rfl ?_
        exact AW.iret (pc := 75) dX4_ofWire_75 rfl rfl (by omega) (by omega) (hQ _ _ hw)
      have hw := hw.2.2.2.2 s0 s1 s2 s3
      refine AW.tableOut (pc := 5) (tgt := 76) dX4_ofWire_5 (by
          have q0 := lv_neT s0 (show (0 : Int32).toInt = 0 by decide)
          have q1 := lv_neT s1 (show (1 : Int32).toInt = 1 by decide)
          have q2 := lv_neT s2 (show (2 : Int32).toInt = 2 by decide)
          have q3 := lv_neT s3 (show (3 : Int32).toInt = 3 by decide)
          omega) (by decide) ?_
      exact AW.throwS (pc := 76) (E := "java/lang/IllegalArgumentException") (text := "nothing of that number is known of a wire") dX4_ofWire_76 dX4_ofWire_79 dX4_ofWire_80 dX4_ofWire_82 dX4_ofWire_85 rfl (by decide) th_names (by decide) tw_169 tw_15 (by decide +kernel) th_IAE_64 th_IAE_64g (by decide) (by omega) (by omega) (hX _ _ hw)
    · cases hv
  · intro E h' k' hq
    obtain ⟨rfl, m1, rfl, (⟨hv, hw⟩ | ⟨E2, hv, hw⟩)⟩ := hq
    · cases hv
    · cases hv; exact AX.out rfl (by omega) (by omega) (hX _ _ hw)
set_option maxRecDepth 100000 in
set_option maxHeartbeats 4000000 in
theorem c_N_ofWire {d k t : Nat} {ex : Hp} {o : Nat → Int64} {K : Int32 → Mem → Prop} {X : String → Mem → Prop} {m : Mem} {p1 : Int32} {p2 : Int32} (ht : tok t) (hd : 4 ≤ d) (hw : w_N_ofWire p1 p2 m K X) : AM mX4_ofWire d [.ref 1, .int p1, .int p2] (lay t ex o m) k 2 12 (fun oc h' k' => k = k' ∧ ∃ (m' : Mem), h' = lay t ex o m' ∧ ((∃ r : Int32, oc = .inl (some (.int r)) ∧ K r m') ∨ ∃ E : String, oc = .inr E ∧ X E m')) :=
  AM.intro (μ := mX4_ofWire) (n := 0) (by decide) rfl rfl rfl (b_N_ofWire ht hd (by omega) (by omega) (fun _ _ hK => ⟨rfl, _, rfl, Or.inl ⟨_, rfl, hK⟩⟩) (fun _ _ hX => ⟨rfl, _, rfl, Or.inr ⟨_, rfl, hX⟩⟩) p1 p2 hw)
def w_N_users (p1 : Int32) (m : Mem) (K : Int32 → Mem → Prop) (X : String → Mem → Prop) : Prop :=
  w_N_checkWire p1 m (fun m1 => vp_in p1 24 ∧ K (jbc (m1 11 (p1).toNatClampNeg)) m1) X
set_option maxRecDepth 100000 in
set_option maxHeartbeats 4000000 in
theorem b_N_users {Z : Gz} {d k0 mc ms cs ss k t : Nat} {Q : Po} {ex : Hp} {o : Nat → Int64} {K : Int32 → Mem → Prop}  {X : String → Mem → Prop} (ht : tok t) (hd : 4 ≤ d) (hcs : cs + 1 ≤ mc) (hss : ss + 6 ≤ ms) (hQ : ∀ (r : Int32) (m : Mem), K r m → Q (.inl (some (.int r))) (lay t ex o m) k) (hX : ∀ (E : String) (m : Mem), X E m → Q (.inr E) (lay t ex o m) k) {m : Mem} (p1 : Int32) (hw : w_N_users p1 m K X) : AW Z mX4_users d k0 mc ms Q 0 [.ref 1, .int p1] [] (lay t ex o m) k cs ss := by
  unfold w_N_users at hw
  refine AW.iload_n (pc := 0) dX4_users_0 rfl rfl ?_
  refine AW.callS (pc := 1) (S' := []) dX4_users_1 (c_N_checkWire (d := d - 1) ht (by omega) hw) ok_X4_checkWire tw_22 tw_21 rfl (by omega) rfl (Nat.le_of_ble_eq_true rfl) (by omega) (by omega) ?_ ?_
  · intro v h' k' hq
    obtain ⟨rfl, m1, rfl, (⟨hv, hw⟩ | ⟨E, hv, hw⟩)⟩ := hq
    · cases hv
      show AW _ _ _ _ _ _ _ 4 [.ref 1, .int p1] [] (lay t ex o m1) k _ _
      refine AW.aload_n (pc := 4) dX4_users_4 rfl rfl ?_
      refine LW.get (pc := 5) (f := 0) (ci := 4) (T := TX4) ht (by decide) rfl dX4_users_5 tw_620 rfl (by decide) rfl ?_
      refine LW.getN (pc := 8) (f := 8) (ci := 1) (T := TX1) ht (by decide) rfl dX4_users_8 tw_467 rfl (by decide) rfl ?_
      refine AW.iload_n (pc := 11) dX4_users_11 rfl rfl ?_
      obtain ⟨hin, hw⟩ := hw
      refine LW.iald (pc := 12) (j := p1.toNatClampNeg) ht (by decide) rfl dX4_users_12 hin rfl ?_
      refine AW.callS (pc := 13) (S' := []) dX4_users_13 (c_J_bitCount (d := d - 1) (by omega)) ok_J6_bitCount_0f7a4 tw_410 tw_409 rfl (by omega) rfl (Nat.le_of_ble_eq_true rfl) (by omega) (by omega) ?_ (fun E h' k' hq => by obtain ⟨hv, -⟩ := hq; cases hv)
      intro v h' k' hq
      obtain ⟨hv, rfl, rfl⟩ := hq
      cases hv
      show AW _ _ _ _ _ _ _ 16 [.ref 1, .int p1] [.int (jbc (m1 11 (p1).toNatClampNeg))] (lay t ex o m1) k _ _
      exact AW.iret (pc := 16) dX4_users_16 rfl rfl (by omega) (by omega) (hQ _ _ hw)
    · cases hv
  · intro E h' k' hq
    obtain ⟨rfl, m1, rfl, (⟨hv, hw⟩ | ⟨E2, hv, hw⟩)⟩ := hq
    · cases hv
    · cases hv; exact AX.out rfl (by omega) (by omega) (hX _ _ hw)
set_option maxRecDepth 100000 in
set_option maxHeartbeats 4000000 in
theorem c_N_users {d k t : Nat} {ex : Hp} {o : Nat → Int64} {K : Int32 → Mem → Prop} {X : String → Mem → Prop} {m : Mem} {p1 : Int32} (ht : tok t) (hd : 4 ≤ d) (hw : w_N_users p1 m K X) : AM mX4_users d [.ref 1, .int p1] (lay t ex o m) k 1 6 (fun oc h' k' => k = k' ∧ ∃ (m' : Mem), h' = lay t ex o m' ∧ ((∃ r : Int32, oc = .inl (some (.int r)) ∧ K r m') ∨ ∃ E : String, oc = .inr E ∧ X E m')) :=
  AM.intro (μ := mX4_users) (n := 0) (by decide) rfl rfl rfl (b_N_users ht hd (by omega) (by omega) (fun _ _ hK => ⟨rfl, _, rfl, Or.inl ⟨_, rfl, hK⟩⟩) (fun _ _ hX => ⟨rfl, _, rfl, Or.inr ⟨_, rfl, hX⟩⟩) p1 hw)
def w_N_flaws (m : Mem) (K : Int32 → Mem → Prop) : Prop :=
  K (m 14 4) m
set_option maxRecDepth 100000 in
set_option maxHeartbeats 4000000 in
theorem b_N_flaws {Z : Gz} {d k0 mc ms cs ss k t : Nat} {Q : Po} {ex : Hp} {o : Nat → Int64} {K : Int32 → Mem → Prop}  (ht : tok t) (hd : 2 ≤ d) (hcs : cs + 0 ≤ mc) (hss : ss + 0 ≤ ms) (hQ : ∀ (r : Int32) (m : Mem), K r m → Q (.inl (some (.int r))) (lay t ex o m) k) {m : Mem}  (hw : w_N_flaws  m K) : AW Z mX4_flaws d k0 mc ms Q 0 [.ref 1] [] (lay t ex o m) k cs ss := by
  unfold w_N_flaws at hw
  refine AW.aload_n (pc := 0) dX4_flaws_0 rfl rfl ?_
  refine LW.get (pc := 1) (f := 1) (ci := 4) (T := TX4) ht (by decide) rfl dX4_flaws_1 tw_621 rfl (by decide) rfl ?_
  refine LW.getN (pc := 4) (f := 4) (ci := 2) (T := TX2) ht (by decide) rfl dX4_flaws_4 tw_516 rfl (by decide) rfl ?_
  exact AW.iret (pc := 7) dX4_flaws_7 rfl rfl (by omega) (by omega) (hQ _ _ hw)
set_option maxRecDepth 100000 in
set_option maxHeartbeats 4000000 in
theorem c_N_flaws {d k t : Nat} {ex : Hp} {o : Nat → Int64} {K : Int32 → Mem → Prop} {m : Mem}  (ht : tok t) (hd : 2 ≤ d) (hw : w_N_flaws  m K) : AM mX4_flaws d [.ref 1] (lay t ex o m) k 0 0 (fun oc h' k' => k = k' ∧ ∃ (r : Int32) (m' : Mem), oc = .inl (some (.int r)) ∧ h' = lay t ex o m' ∧ K r m') :=
  AM.intro (μ := mX4_flaws) (n := 0) (by decide) rfl rfl rfl (b_N_flaws ht hd (by omega) (by omega) (fun _ _ hK => ⟨rfl, _, _, rfl, rfl, hK⟩)  hw)
def w_N_isRunning (m : Mem) (K : Int32 → Mem → Prop) : Prop :=
  narrow .boolean (.int (m 1 6)) = .int (m 1 6) ∧ K (m 1 6) m
set_option maxRecDepth 100000 in
set_option maxHeartbeats 4000000 in
theorem b_N_isRunning {Z : Gz} {d k0 mc ms cs ss k t : Nat} {Q : Po} {ex : Hp} {o : Nat → Int64} {K : Int32 → Mem → Prop}  (ht : tok t) (hd : 2 ≤ d) (hcs : cs + 0 ≤ mc) (hss : ss + 0 ≤ ms) (hQ : ∀ (r : Int32) (m : Mem), K r m → Q (.inl (some (.int r))) (lay t ex o m) k) {m : Mem}  (hw : w_N_isRunning  m K) : AW Z mX4_isRunning d k0 mc ms Q 0 [.ref 1] [] (lay t ex o m) k cs ss := by
  unfold w_N_isRunning at hw
  refine AW.aload_n (pc := 0) dX4_isRunning_0 rfl rfl ?_
  refine LW.get (pc := 1) (f := 6) (ci := 4) (T := TX4) ht (by decide) rfl dX4_isRunning_1 tw_626 rfl (by decide) rfl ?_
  obtain ⟨hin, hw⟩ := hw
  exact AW.iret (pc := 4) dX4_isRunning_4 rfl hin (by omega) (by omega) (hQ _ _ hw)
set_option maxRecDepth 100000 in
set_option maxHeartbeats 4000000 in
theorem c_N_isRunning {d k t : Nat} {ex : Hp} {o : Nat → Int64} {K : Int32 → Mem → Prop} {m : Mem}  (ht : tok t) (hd : 2 ≤ d) (hw : w_N_isRunning  m K) : AM mX4_isRunning d [.ref 1] (lay t ex o m) k 0 0 (fun oc h' k' => k = k' ∧ ∃ (r : Int32) (m' : Mem), oc = .inl (some (.int r)) ∧ h' = lay t ex o m' ∧ K r m') :=
  AM.intro (μ := mX4_isRunning) (n := 0) (by decide) rfl rfl rfl (b_N_isRunning ht hd (by omega) (by omega) (fun _ _ hK => ⟨rfl, _, _, rfl, rfl, hK⟩)  hw)
def w_N_lines (m : Mem) (K : Int32 → Mem → Prop) : Prop :=
  K (m 2 11) m
set_option maxRecDepth 100000 in
set_option maxHeartbeats 4000000 in
theorem b_N_lines {Z : Gz} {d k0 mc ms cs ss k t : Nat} {Q : Po} {ex : Hp} {o : Nat → Int64} {K : Int32 → Mem → Prop}  (ht : tok t) (hd : 2 ≤ d) (hcs : cs + 0 ≤ mc) (hss : ss + 0 ≤ ms) (hQ : ∀ (r : Int32) (m : Mem), K r m → Q (.inl (some (.int r))) (lay t ex o m) k) {m : Mem}  (hw : w_N_lines  m K) : AW Z mX4_lines d k0 mc ms Q 0 [.ref 1] [] (lay t ex o m) k cs ss := by
  unfold w_N_lines at hw
  refine AW.aload_n (pc := 0) dX4_lines_0 rfl rfl ?_
  refine LW.get (pc := 1) (f := 0) (ci := 4) (T := TX4) ht (by decide) rfl dX4_lines_1 tw_620 rfl (by decide) rfl ?_
  refine LW.getN (pc := 4) (f := 11) (ci := 1) (T := TX1) ht (by decide) rfl dX4_lines_4 tw_475 rfl (by decide) rfl ?_
  exact AW.iret (pc := 7) dX4_lines_7 rfl rfl (by omega) (by omega) (hQ _ _ hw)
set_option maxRecDepth 100000 in
set_option maxHeartbeats 4000000 in
theorem c_N_lines {d k t : Nat} {ex : Hp} {o : Nat → Int64} {K : Int32 → Mem → Prop} {m : Mem}  (ht : tok t) (hd : 2 ≤ d) (hw : w_N_lines  m K) : AM mX4_lines d [.ref 1] (lay t ex o m) k 0 0 (fun oc h' k' => k = k' ∧ ∃ (r : Int32) (m' : Mem), oc = .inl (some (.int r)) ∧ h' = lay t ex o m' ∧ K r m') :=
  AM.intro (μ := mX4_lines) (n := 0) (by decide) rfl rfl rfl (b_N_lines ht hd (by omega) (by omega) (fun _ _ hK => ⟨rfl, _, _, rfl, rfl, hK⟩)  hw)
def w_N_longest (m : Mem) (K : Int32 → Mem → Prop) : Prop :=
  w_A_greatest 19  m (fun r2 m1 => K r2 m1)
set_option maxRecDepth 100000 in
set_option maxHeartbeats 4000000 in
theorem b_N_longest {Z : Gz} {d k0 mc ms cs ss k t : Nat} {Q : Po} {ex : Hp} {o : Nat → Int64} {K : Int32 → Mem → Prop}  (ht : tok t) (hd : 4 ≤ d) (hcs : cs + 0 ≤ mc) (hss : ss + 0 ≤ ms) (hQ : ∀ (r : Int32) (m : Mem), K r m → Q (.inl (some (.int r))) (lay t ex o m) k) {m : Mem}  (hw : w_N_longest  m K) : AW Z mX4_longest d k0 mc ms Q 0 [.ref 1] [] (lay t ex o m) k cs ss := by
  unfold w_N_longest at hw
  refine AW.aload_n (pc := 0) dX4_longest_0 rfl rfl ?_
  refine LW.get (pc := 1) (f := 2) (ci := 4) (T := TX4) ht (by decide) rfl dX4_longest_1 tw_622 rfl (by decide) rfl ?_
  refine AW.callV (pc := 4) (S' := []) dX4_longest_4 (c_A_greatest_19 (d := d - 1) ht (by omega) hw) ok_X0_greatest tw_102 tw_103 tw_101 (fix_pos (by decide)) (lay_at ht (by decide)) (show aw_cl[0]? = some _ from rfl) rfl rfl (by omega) rfl (Nat.le_of_ble_eq_true rfl) (by omega) (by omega) ?_ (fun E h' k' hq => by obtain ⟨rfl, r2, m1, hv, -⟩ := hq; cases hv)
  intro v h' k' hq
  obtain ⟨rfl, r2, m1, hv, rfl, hw⟩ := hq
  cases hv
  show AW _ _ _ _ _ _ _ 7 [.ref 1] [.int r2] (lay t ex o m1) k _ _
  exact AW.iret (pc := 7) dX4_longest_7 rfl rfl (by omega) (by omega) (hQ _ _ hw)
set_option maxRecDepth 100000 in
set_option maxHeartbeats 4000000 in
theorem c_N_longest {d k t : Nat} {ex : Hp} {o : Nat → Int64} {K : Int32 → Mem → Prop} {m : Mem}  (ht : tok t) (hd : 4 ≤ d) (hw : w_N_longest  m K) : AM mX4_longest d [.ref 1] (lay t ex o m) k 0 0 (fun oc h' k' => k = k' ∧ ∃ (r : Int32) (m' : Mem), oc = .inl (some (.int r)) ∧ h' = lay t ex o m' ∧ K r m') :=
  AM.intro (μ := mX4_longest) (n := 0) (by decide) rfl rfl rfl (b_N_longest ht hd (by omega) (by omega) (fun _ _ hK => ⟨rfl, _, _, rfl, rfl, hK⟩)  hw)
def w_N_settlesIn (m : Mem) (K : Int32 → Mem → Prop) (X : String → Mem → Prop) : Prop :=
  w_N_checkRunning  m (fun m1 => w_R_copyFrom 35  m1 (fun m2 => w_R_letCome 35 (2147483647 : Int32) m2 (fun r4 m3 => ((¬ ((m3 35 16) = (m3 23 16)) → K (-1 : Int32) m3) ∧ ((m3 35 16) = (m3 23 16) → K ((m3 35 13) - (m3 23 13)) m3))))) X
set_option maxRecDepth 100000 in
set_option maxHeartbeats 4000000 in
theorem b_N_settlesIn {Z : Gz} {d k0 mc ms cs ss k t : Nat} {Q : Po} {ex : Hp} {o : Nat → Int64} {K : Int32 → Mem → Prop}  {X : String → Mem → Prop} (ht : tok t) (hd : 7 ≤ d) (hcs : cs + 1 ≤ mc) (hss : ss + 6 ≤ ms) (hQ : ∀ (r : Int32) (m : Mem), K r m → Q (.inl (some (.int r))) (lay t ex o m) k) (hX : ∀ (E : String) (m : Mem), X E m → Q (.inr E) (lay t ex o m) k) {m : Mem}  (hw : w_N_settlesIn  m K X) : AW Z mX4_settlesIn d k0 mc ms Q 0 [.ref 1] [] (lay t ex o m) k cs ss := by
  unfold w_N_settlesIn at hw
  refine AW.aload_n (pc := 0) dX4_settlesIn_0 rfl rfl ?_
  refine AW.callV (pc := 1) (S' := []) dX4_settlesIn_1 (c_N_checkRunning (d := d - 1) ht (by omega) hw) ok_X4_checkRunning tw_141 ts_2 tw_139 (fix_pos (by decide)) (lay_at ht (by decide)) (show aw_cl[4]? = some _ from rfl) rfl rfl (by omega) rfl (Nat.le_of_ble_eq_true rfl) (by omega) (by omega) ?_ ?_
  · intro v h' k' hq
    obtain ⟨rfl, m1, rfl, (⟨hv, hw⟩ | ⟨E, hv, hw⟩)⟩ := hq
    · cases hv
      show AW _ _ _ _ _ _ _ 4 [.ref 1] [] (lay t ex o m1) k _ _
      refine AW.aload_n (pc := 4) dX4_settlesIn_4 rfl rfl ?_
      refine LW.get (pc := 5) (f := 5) (ci := 4) (T := TX4) ht (by decide) rfl dX4_settlesIn_5 tw_625 rfl (by decide) rfl ?_
      refine AW.aload_n (pc := 8) dX4_settlesIn_8 rfl rfl ?_
      refine LW.get (pc := 9) (f := 4) (ci := 4) (T := TX4) ht (by decide) rfl dX4_settlesIn_9 tw_624 rfl (by decide) rfl ?_
      refine AW.callV (pc := 12) (S' := []) dX4_settlesIn_12 (c_R_copyFrom_35 (d := d - 1) ht (by omega) hw) ok_X3_copyFrom tw_335 tw_336 tw_334 (fix_pos (by decide)) (lay_at ht (by decide)) (show aw_cl[3]? = some _ from rfl) rfl rfl (by omega) rfl (Nat.le_of_ble_eq_true rfl) (by omega) (by omega) ?_ (fun E h' k' hq => by obtain ⟨rfl, m2, hv, -⟩ := hq; cases hv)
      intro v h' k' hq
      obtain ⟨rfl, m2, hv, rfl, hw⟩ := hq
      cases hv
      show AW _ _ _ _ _ _ _ 15 [.ref 1] [] (lay t ex o m2) k _ _
      refine AW.aload_n (pc := 15) dX4_settlesIn_15 rfl rfl ?_
      refine LW.get (pc := 16) (f := 5) (ci := 4) (T := TX4) ht (by decide) rfl dX4_settlesIn_16 tw_625 rfl (by decide) rfl ?_
      refine AW.ldc (pc := 19) dX4_settlesIn_19 tw_342 ?_
      refine AW.callV (pc := 21) (S' := []) dX4_settlesIn_21 (c_R_letCome_35 (d := d - 1) ht (by omega) hw) ok_X3_letCome tw_262 tw_263 tw_261 (fix_pos (by decide)) (lay_at ht (by decide)) (show aw_cl[3]? = some _ from rfl) rfl rfl (by omega) rfl (Nat.le_of_ble_eq_true rfl) (by omega) (by omega) ?_ (fun E h' k' hq => by obtain ⟨rfl, r4, m3, hv, -⟩ := hq; cases hv)
      intro v h' k' hq
      obtain ⟨rfl, r4, m3, hv, rfl, hw⟩ := hq
      cases hv
      show AW _ _ _ _ _ _ _ 24 [.ref 1] [.int r4] (lay t ex o m3) k _ _
      refine AW.pop (pc := 24) dX4_settlesIn_24 rfl ?_
      refine AW.aload_n (pc := 25) dX4_settlesIn_25 rfl rfl ?_
      refine LW.get (pc := 26) (f := 5) (ci := 4) (T := TX4) ht (by decide) rfl dX4_settlesIn_26 tw_625 rfl (by decide) rfl ?_
      refine LW.getN (pc := 29) (f := 16) (ci := 3) (T := TX3) ht (by decide) rfl dX4_settlesIn_29 tw_580 rfl (by decide) rfl ?_
      refine AW.aload_n (pc := 32) dX4_settlesIn_32 rfl rfl ?_
      refine LW.get (pc := 33) (f := 4) (ci := 4) (T := TX4) ht (by decide) rfl dX4_settlesIn_33 tw_624 rfl (by decide) rfl ?_
      refine LW.getN (pc := 36) (f := 16) (ci := 3) (T := TX3) ht (by decide) rfl dX4_settlesIn_36 tw_580 rfl (by decide) rfl ?_
      refine AW.icmp_ne (pc := 39) (tgt := 60) dX4_settlesIn_39 (by decide) (fun c5 => ?_) (fun c5 => ?_)
      · have hw := hw.1 c5
        refine AW.iconst (v := -1) (pc := 60) dX4_settlesIn_60 (by decide) ?_
        exact AW.iret (pc := 61) dX4_settlesIn_61 rfl rfl (by omega) (by omega) (hQ _ _ hw)
      · have hw := hw.2 c5
        refine AW.aload_n (pc := 42) dX4_settlesIn_42 rfl rfl ?_
        refine LW.get (pc := 43) (f := 5) (ci := 4) (T := TX4) ht (by decide) rfl dX4_settlesIn_43 tw_625 rfl (by decide) rfl ?_
        refine LW.getN (pc := 46) (f := 13) (ci := 3) (T := TX3) ht (by decide) rfl dX4_settlesIn_46 tw_575 rfl (by decide) rfl ?_
        refine AW.aload_n (pc := 49) dX4_settlesIn_49 rfl rfl ?_
        refine LW.get (pc := 50) (f := 4) (ci := 4) (T := TX4) ht (by decide) rfl dX4_settlesIn_50 tw_624 rfl (by decide) rfl ?_
        refine LW.getN (pc := 53) (f := 13) (ci := 3) (T := TX3) ht (by decide) rfl dX4_settlesIn_53 tw_575 rfl (by decide) rfl ?_
        refine AW.isub (pc := 56) dX4_settlesIn_56 ?_
        refine AW.goto (pc := 57) (tgt := 61) dX4_settlesIn_57 (by decide) ?_
        exact AW.iret (pc := 61) dX4_settlesIn_61 rfl rfl (by omega) (by omega) (hQ _ _ hw)
    · cases hv
  · intro E h' k' hq
    obtain ⟨rfl, m1, rfl, (⟨hv, hw⟩ | ⟨E2, hv, hw⟩)⟩ := hq
    · cases hv
    · cases hv; exact AX.out rfl (by omega) (by omega) (hX _ _ hw)
set_option maxRecDepth 100000 in
set_option maxHeartbeats 4000000 in
theorem c_N_settlesIn {d k t : Nat} {ex : Hp} {o : Nat → Int64} {K : Int32 → Mem → Prop} {X : String → Mem → Prop} {m : Mem}  (ht : tok t) (hd : 7 ≤ d) (hw : w_N_settlesIn  m K X) : AM mX4_settlesIn d [.ref 1] (lay t ex o m) k 1 6 (fun oc h' k' => k = k' ∧ ∃ (m' : Mem), h' = lay t ex o m' ∧ ((∃ r : Int32, oc = .inl (some (.int r)) ∧ K r m') ∨ ∃ E : String, oc = .inr E ∧ X E m')) :=
  AM.intro (μ := mX4_settlesIn) (n := 0) (by decide) rfl rfl rfl (b_N_settlesIn ht hd (by omega) (by omega) (fun _ _ hK => ⟨rfl, _, rfl, Or.inl ⟨_, rfl, hK⟩⟩) (fun _ _ hX => ⟨rfl, _, rfl, Or.inr ⟨_, rfl, hX⟩⟩)  hw)
def w_N_gate (p1 : Int32) (p2 : Int32) (p3 : Int32) (p4 : Int32) (p5 : Int32) (p6 : Int32) (m : Mem) (K : Int32 → Mem → Prop) (X : String → Mem → Prop) : Prop :=
  ((p1 < 0 → X "java/lang/IllegalArgumentException" m) ∧ (¬ (p1 < 0) → ((p1 ≤ (7 : Int32) → w_N_checkDelay p6 m (fun m3 => (∀ J6 : Int32 → Mem → Prop, (∀ (v4 : Int32) (m5 : Mem), ((∀ J10 : Int32 → Mem → Prop, (∀ (v8 : Int32) (m9 : Mem), (w_N_checkWire p2 m9 (fun m12 => w_N_checkWire p3 m12 (fun m13 => w_N_checkWire v4 m13 (fun m14 => w_N_checkWire v8 m14 (fun m15 => w_N_checkRoom  m15 (fun m16 => w_N_addLine p1 p2 p3 v4 v8 p6 m16 (fun r18 m17 => K r18 m17)) X) X) X) X) X) → J10 v8 m9) → ((¬ (p1 = (7 : Int32)) → J10 p3 m5) ∧ (p1 = (7 : Int32) → J10 p5 m5)))) → J6 v4 m5) → ((p1 < (2 : Int32) → J6 p3 m3) ∧ (¬ (p1 < (2 : Int32)) → J6 p4 m3)))) X) ∧ (¬ (p1 ≤ (7 : Int32)) → X "java/lang/IllegalArgumentException" m))))
set_option maxRecDepth 100000 in
set_option maxHeartbeats 4000000 in
theorem b_N_gate {Z : Gz} {d k0 mc ms cs ss k t : Nat} {Q : Po} {ex : Hp} {o : Nat → Int64} {K : Int32 → Mem → Prop}  {X : String → Mem → Prop} (ht : tok t) (hd : 7 ≤ d) (hcs : cs + 6 ≤ mc) (hss : ss + 36 ≤ ms) (hQ : ∀ (r : Int32) (m : Mem), K r m → Q (.inl (some (.int r))) (lay t ex o m) k) (hX : ∀ (E : String) (m : Mem), X E m → Q (.inr E) (lay t ex o m) k) {m : Mem} (p1 : Int32) (p2 : Int32) (p3 : Int32) (p4 : Int32) (p5 : Int32) (p6 : Int32) (hw : w_N_gate p1 p2 p3 p4 p5 p6 m K X) : AW Z mX4_gate d k0 mc ms Q 0 [.ref 1, .int p1, .int p2, .int p3, .int p4, .int p5, .int p6, .null, .null] [] (lay t ex o m) k cs ss := by
  unfold w_N_gate at hw
  refine AW.iload_n (pc := 0) dX4_gate_0 rfl rfl ?_
  refine AW.if_lt (pc := 1) (tgt := 10) dX4_gate_1 (by decide) (fun c1 => ?_) (fun c1 => ?_)
  · have hw := hw.1 c1
    exact AW.throwS (pc := 10) (E := "java/lang/IllegalArgumentException") (text := "no such kind") dX4_gate_10 dX4_gate_13 dX4_gate_14 dX4_gate_16 dX4_gate_19 rfl (by decide) th_names (by decide) tw_169 tw_15 (by decide +kernel) th_IAE_64 th_IAE_64g (by decide) (by omega) (by omega) (hX _ _ hw)
  · have hw := hw.2 c1
    refine AW.iload_n (pc := 4) dX4_gate_4 rfl rfl ?_
    refine AW.bipush (v := 7) (pc := 5) dX4_gate_5 (by decide) ?_
    refine AW.icmp_le (pc := 7) (tgt := 20) dX4_gate_7 (by decide) (fun c2 => ?_) (fun c2 => ?_)
    · have hw := hw.1 c2
      refine AW.iload (pc := 20) dX4_gate_20 rfl ?_
      refine AW.callS (pc := 22) (S' := []) dX4_gate_22 (c_N_checkDelay (d := d - 1) ht (by omega) hw) ok_X4_checkDelay tw_353 tw_352 rfl (by omega) rfl (Nat.le_of_ble_eq_true rfl) (by omega) (by omega) ?_ ?_
      · intro v h' k' hq
        obtain ⟨rfl, m3, rfl, (⟨hv, hw⟩ | ⟨E, hv, hw⟩)⟩ := hq
        · cases hv
          show AW _ _ _ _ _ _ _ 25 [.ref 1, .int p1, .int p2, .int p3, .int p4, .int p5, .int p6, .null, .null] [] (lay t ex o m3) k _ _
          refine AW.iload_n (pc := 25) dX4_gate_25 rfl rfl ?_
          refine AW.iconst (v := 2) (pc := 26) dX4_gate_26 (by decide) ?_
          have hw := hw (fun v4 m5 => AW Z mX4_gate d k0 mc ms Q 36 [.ref 1, .int p1, .int p2, .int p3, .int p4, .int p5, .int p6, .null, .null] [.int v4] (lay t ex o m5) k (cs + 1) (ss + 6)) (by
              intro v4 m5 hw
              refine AW.istore (L' := [.ref 1, .int p1, .int p2, .int p3, .int p4, .int p5, .int p6, .int v4, .null]) (pc := 36) dX4_gate_36 (by decide) rfl rfl ?_
              refine AW.iload_n (pc := 38) dX4_gate_38 rfl rfl ?_
              refine AW.bipush (v := 7) (pc := 39) dX4_gate_39 (by decide) ?_
              have hw := hw (fun v8 m9 => AW Z mX4_gate d k0 mc ms Q 50 [.ref 1, .int p1, .int p2, .int p3, .int p4, .int p5, .int p6, .int v4, .null] [.int v8] (lay t ex o m9) k (cs + 1) (ss + 6)) (by
                  intro v8 m9 hw
                  refine AW.istore (L' := [.ref 1, .int p1, .int p2, .int p3, .int p4, .int p5, .int p6, .int v4, .int v8]) (pc := 50) dX4_gate_50 (by decide) rfl rfl ?_
                  refine AW.iload_n (pc := 52) dX4_gate_52 rfl rfl ?_
                  refine AW.callS (pc := 53) (S' := []) dX4_gate_53 (c_N_checkWire (d := d - 1) ht (by omega) hw) ok_X4_checkWire tw_22 tw_21 rfl (by omega) rfl (Nat.le_of_ble_eq_true rfl) (by omega) (by omega) ?_ ?_
                  · intro v h' k' hq
                    obtain ⟨rfl, m12, rfl, (⟨hv, hw⟩ | ⟨E, hv, hw⟩)⟩ := hq
                    · cases hv
                      show AW _ _ _ _ _ _ _ 56 [.ref 1, .int p1, .int p2, .int p3, .int p4, .int p5, .int p6, .int v4, .int v8] [] (lay t ex o m12) k _ _
                      refine AW.iload_n (pc := 56) dX4_gate_56 rfl rfl ?_
                      refine AW.callS (pc := 57) (S' := []) dX4_gate_57 (c_N_checkWire (d := d - 1) ht (by omega) hw) ok_X4_checkWire tw_22 tw_21 rfl (by omega) rfl (Nat.le_of_ble_eq_true rfl) (by omega) (by omega) ?_ ?_
                      · intro v h' k' hq
                        obtain ⟨rfl, m13, rfl, (⟨hv, hw⟩ | ⟨E, hv, hw⟩)⟩ := hq
                        · cases hv
                          show AW _ _ _ _ _ _ _ 60 [.ref 1, .int p1, .int p2, .int p3, .int p4, .int p5, .int p6, .int v4, .int v8] [] (lay t ex o m13) k _ _
                          refine AW.iload (pc := 60) dX4_gate_60 rfl ?_
                          refine AW.callS (pc := 62) (S' := []) dX4_gate_62 (c_N_checkWire (d := d - 1) ht (by omega) hw) ok_X4_checkWire tw_22 tw_21 rfl (by omega) rfl (Nat.le_of_ble_eq_true rfl) (by omega) (by omega) ?_ ?_
                          · intro v h' k' hq
                            obtain ⟨rfl, m14, rfl, (⟨hv, hw⟩ | ⟨E, hv, hw⟩)⟩ := hq
                            · cases hv
                              show AW _ _ _ _ _ _ _ 65 [.ref 1, .int p1, .int p2, .int p3, .int p4, .int p5, .int p6, .int v4, .int v8] [] (lay t ex o m14) k _ _
                              refine AW.iload (pc := 65) dX4_gate_65 rfl ?_
                              refine AW.callS (pc := 67) (S' := []) dX4_gate_67 (c_N_checkWire (d := d - 1) ht (by omega) hw) ok_X4_checkWire tw_22 tw_21 rfl (by omega) rfl (Nat.le_of_ble_eq_true rfl) (by omega) (by omega) ?_ ?_
                              · intro v h' k' hq
                                obtain ⟨rfl, m15, rfl, (⟨hv, hw⟩ | ⟨E, hv, hw⟩)⟩ := hq
                                · cases hv
                                  show AW _ _ _ _ _ _ _ 70 [.ref 1, .int p1, .int p2, .int p3, .int p4, .int p5, .int p6, .int v4, .int v8] [] (lay t ex o m15) k _ _
                                  refine AW.aload_n (pc := 70) dX4_gate_70 rfl rfl ?_
                                  refine AW.callV (pc := 71) (S' := []) dX4_gate_71 (c_N_checkRoom (d := d - 1) ht (by omega) hw) ok_X4_checkRoom tw_720 ts_27 tw_718 (fix_pos (by decide)) (lay_at ht (by decide)) (show aw_cl[4]? = some _ from rfl) rfl rfl (by omega) rfl (Nat.le_of_ble_eq_true rfl) (by omega) (by omega) ?_ ?_
                                  · intro v h' k' hq
                                    obtain ⟨rfl, m16, rfl, (⟨hv, hw⟩ | ⟨E, hv, hw⟩)⟩ := hq
                                    · cases hv
                                      show AW _ _ _ _ _ _ _ 74 [.ref 1, .int p1, .int p2, .int p3, .int p4, .int p5, .int p6, .int v4, .int v8] [] (lay t ex o m16) k _ _
                                      refine AW.aload_n (pc := 74) dX4_gate_74 rfl rfl ?_
                                      refine AW.iload_n (pc := 75) dX4_gate_75 rfl rfl ?_
                                      refine AW.iload_n (pc := 76) dX4_gate_76 rfl rfl ?_
                                      refine AW.iload_n (pc := 77) dX4_gate_77 rfl rfl ?_
                                      refine AW.iload (pc := 78) dX4_gate_78 rfl ?_
                                      refine AW.iload (pc := 80) dX4_gate_80 rfl ?_
                                      refine AW.iload (pc := 82) dX4_gate_82 rfl ?_
                                      refine AW.callV (pc := 84) (S' := []) dX4_gate_84 (c_N_addLine (d := d - 1) ht (by omega) hw) ok_X4_addLine tw_725 ts_28 tw_723 (fix_pos (by decide)) (lay_at ht (by decide)) (show aw_cl[4]? = some _ from rfl) rfl rfl (by omega) rfl (Nat.le_of_ble_eq_true rfl) (by omega) (by omega) ?_ (fun E h' k' hq => by obtain ⟨rfl, r18, m17, hv, -⟩ := hq; cases hv)
                                      intro v h' k' hq
                                      obtain ⟨rfl, r18, m17, hv, rfl, hw⟩ := hq
                                      cases hv
                                      show AW _ _ _ _ _ _ _ 87 [.ref 1, .int p1, .int p2, .int p3, .int p4, .int p5, .int p6, .int v4, .int v8] [.int r18] (lay t ex o m17) k _ _
                                      exact AW.iret (pc := 87) dX4_gate_87 rfl rfl (by omega) (by omega) (hQ _ _ hw)
                                    · cases hv
                                  · intro E h' k' hq
                                    obtain ⟨rfl, m16, rfl, (⟨hv, hw⟩ | ⟨E2, hv, hw⟩)⟩ := hq
                                    · cases hv
                                    · cases hv; exact AX.out rfl (by omega) (by omega) (hX _ _ hw)
                                · cases hv
                              · intro E h' k' hq
                                obtain ⟨rfl, m15, rfl, (⟨hv, hw⟩ | ⟨E2, hv, hw⟩)⟩ := hq
                                · cases hv
                                · cases hv; exact AX.out rfl (by omega) (by omega) (hX _ _ hw)
                            · cases hv
                          · intro E h' k' hq
                            obtain ⟨rfl, m14, rfl, (⟨hv, hw⟩ | ⟨E2, hv, hw⟩)⟩ := hq
                            · cases hv
                            · cases hv; exact AX.out rfl (by omega) (by omega) (hX _ _ hw)
                        · cases hv
                      · intro E h' k' hq
                        obtain ⟨rfl, m13, rfl, (⟨hv, hw⟩ | ⟨E2, hv, hw⟩)⟩ := hq
                        · cases hv
                        · cases hv; exact AX.out rfl (by omega) (by omega) (hX _ _ hw)
                    · cases hv
                  · intro E h' k' hq
                    obtain ⟨rfl, m12, rfl, (⟨hv, hw⟩ | ⟨E2, hv, hw⟩)⟩ := hq
                    · cases hv
                    · cases hv; exact AX.out rfl (by omega) (by omega) (hX _ _ hw))
              refine AW.icmp_ne (pc := 41) (tgt := 49) dX4_gate_41 (by decide) (fun c11 => ?_) (fun c11 => ?_)
              · have hw := hw.1 c11
                refine AW.iload_n (pc := 49) dX4_gate_49 rfl rfl ?_
                exact hw
              · have hw := hw.2 c11
                refine AW.iload (pc := 44) dX4_gate_44 rfl ?_
                refine AW.goto (pc := 46) (tgt := 50) dX4_gate_46 (by decide) ?_
                exact hw)
          refine AW.icmp_lt (pc := 27) (tgt := 35) dX4_gate_27 (by decide) (fun c7 => ?_) (fun c7 => ?_)
          · have hw := hw.1 c7
            refine AW.iload_n (pc := 35) dX4_gate_35 rfl rfl ?_
            exact hw
          · have hw := hw.2 c7
            refine AW.iload (pc := 30) dX4_gate_30 rfl ?_
            refine AW.goto (pc := 32) (tgt := 36) dX4_gate_32 (by decide) ?_
            exact hw
        · cases hv
      · intro E h' k' hq
        obtain ⟨rfl, m3, rfl, (⟨hv, hw⟩ | ⟨E2, hv, hw⟩)⟩ := hq
        · cases hv
        · cases hv; exact AX.out rfl (by omega) (by omega) (hX _ _ hw)
    · have hw := hw.2 c2
      exact AW.throwS (pc := 10) (E := "java/lang/IllegalArgumentException") (text := "no such kind") dX4_gate_10 dX4_gate_13 dX4_gate_14 dX4_gate_16 dX4_gate_19 rfl (by decide) th_names (by decide) tw_169 tw_15 (by decide +kernel) th_IAE_64 th_IAE_64g (by decide) (by omega) (by omega) (hX _ _ hw)
set_option maxRecDepth 100000 in
set_option maxHeartbeats 4000000 in
theorem c_N_gate {d k t : Nat} {ex : Hp} {o : Nat → Int64} {K : Int32 → Mem → Prop} {X : String → Mem → Prop} {m : Mem} {p1 : Int32} {p2 : Int32} {p3 : Int32} {p4 : Int32} {p5 : Int32} {p6 : Int32} (ht : tok t) (hd : 7 ≤ d) (hw : w_N_gate p1 p2 p3 p4 p5 p6 m K X) : AM mX4_gate d [.ref 1, .int p1, .int p2, .int p3, .int p4, .int p5, .int p6] (lay t ex o m) k 6 36 (fun oc h' k' => k = k' ∧ ∃ (m' : Mem), h' = lay t ex o m' ∧ ((∃ r : Int32, oc = .inl (some (.int r)) ∧ K r m') ∨ ∃ E : String, oc = .inr E ∧ X E m')) :=
  AM.intro (μ := mX4_gate) (n := 2) (by decide) rfl rfl rfl (b_N_gate ht hd (by omega) (by omega) (fun _ _ hK => ⟨rfl, _, rfl, Or.inl ⟨_, rfl, hK⟩⟩) (fun _ _ hX => ⟨rfl, _, rfl, Or.inr ⟨_, rfl, hX⟩⟩) p1 p2 p3 p4 p5 p6 hw)
def w_N_input (p1 : Int32) (m : Mem) (K : Int32 → Mem → Prop) (X : String → Mem → Prop) : Prop :=
  w_N_checkWire p1 m (fun m1 => w_N_checkRoom  m1 (fun m2 => w_N_addLine (8 : Int32) p1 (-1 : Int32) (-1 : Int32) (-1 : Int32) (0 : Int32) m2 (fun r4 m3 => K r4 m3)) X) X
set_option maxRecDepth 100000 in
set_option maxHeartbeats 4000000 in
theorem b_N_input {Z : Gz} {d k0 mc ms cs ss k t : Nat} {Q : Po} {ex : Hp} {o : Nat → Int64} {K : Int32 → Mem → Prop}  {X : String → Mem → Prop} (ht : tok t) (hd : 7 ≤ d) (hcs : cs + 2 ≤ mc) (hss : ss + 12 ≤ ms) (hQ : ∀ (r : Int32) (m : Mem), K r m → Q (.inl (some (.int r))) (lay t ex o m) k) (hX : ∀ (E : String) (m : Mem), X E m → Q (.inr E) (lay t ex o m) k) {m : Mem} (p1 : Int32) (hw : w_N_input p1 m K X) : AW Z mX4_input d k0 mc ms Q 0 [.ref 1, .int p1] [] (lay t ex o m) k cs ss := by
  unfold w_N_input at hw
  refine AW.iload_n (pc := 0) dX4_input_0 rfl rfl ?_
  refine AW.callS (pc := 1) (S' := []) dX4_input_1 (c_N_checkWire (d := d - 1) ht (by omega) hw) ok_X4_checkWire tw_22 tw_21 rfl (by omega) rfl (Nat.le_of_ble_eq_true rfl) (by omega) (by omega) ?_ ?_
  · intro v h' k' hq
    obtain ⟨rfl, m1, rfl, (⟨hv, hw⟩ | ⟨E, hv, hw⟩)⟩ := hq
    · cases hv
      show AW _ _ _ _ _ _ _ 4 [.ref 1, .int p1] [] (lay t ex o m1) k _ _
      refine AW.aload_n (pc := 4) dX4_input_4 rfl rfl ?_
      refine AW.callV (pc := 5) (S' := []) dX4_input_5 (c_N_checkRoom (d := d - 1) ht (by omega) hw) ok_X4_checkRoom tw_720 ts_27 tw_718 (fix_pos (by decide)) (lay_at ht (by decide)) (show aw_cl[4]? = some _ from rfl) rfl rfl (by omega) rfl (Nat.le_of_ble_eq_true rfl) (by omega) (by omega) ?_ ?_
      · intro v h' k' hq
        obtain ⟨rfl, m2, rfl, (⟨hv, hw⟩ | ⟨E, hv, hw⟩)⟩ := hq
        · cases hv
          show AW _ _ _ _ _ _ _ 8 [.ref 1, .int p1] [] (lay t ex o m2) k _ _
          refine AW.aload_n (pc := 8) dX4_input_8 rfl rfl ?_
          refine AW.bipush (v := 8) (pc := 9) dX4_input_9 (by decide) ?_
          refine AW.iload_n (pc := 11) dX4_input_11 rfl rfl ?_
          refine AW.iconst (v := -1) (pc := 12) dX4_input_12 (by decide) ?_
          refine AW.iconst (v := -1) (pc := 13) dX4_input_13 (by decide) ?_
          refine AW.iconst (v := -1) (pc := 14) dX4_input_14 (by decide) ?_
          refine AW.iconst (v := 0) (pc := 15) dX4_input_15 (by decide) ?_
          refine AW.callV (pc := 16) (S' := []) dX4_input_16 (c_N_addLine (d := d - 1) ht (by omega) hw) ok_X4_addLine tw_725 ts_28 tw_723 (fix_pos (by decide)) (lay_at ht (by decide)) (show aw_cl[4]? = some _ from rfl) rfl rfl (by omega) rfl (Nat.le_of_ble_eq_true rfl) (by omega) (by omega) ?_ (fun E h' k' hq => by obtain ⟨rfl, r4, m3, hv, -⟩ := hq; cases hv)
          intro v h' k' hq
          obtain ⟨rfl, r4, m3, hv, rfl, hw⟩ := hq
          cases hv
          show AW _ _ _ _ _ _ _ 19 [.ref 1, .int p1] [.int r4] (lay t ex o m3) k _ _
          exact AW.iret (pc := 19) dX4_input_19 rfl rfl (by omega) (by omega) (hQ _ _ hw)
        · cases hv
      · intro E h' k' hq
        obtain ⟨rfl, m2, rfl, (⟨hv, hw⟩ | ⟨E2, hv, hw⟩)⟩ := hq
        · cases hv
        · cases hv; exact AX.out rfl (by omega) (by omega) (hX _ _ hw)
    · cases hv
  · intro E h' k' hq
    obtain ⟨rfl, m1, rfl, (⟨hv, hw⟩ | ⟨E2, hv, hw⟩)⟩ := hq
    · cases hv
    · cases hv; exact AX.out rfl (by omega) (by omega) (hX _ _ hw)
set_option maxRecDepth 100000 in
set_option maxHeartbeats 4000000 in
theorem c_N_input {d k t : Nat} {ex : Hp} {o : Nat → Int64} {K : Int32 → Mem → Prop} {X : String → Mem → Prop} {m : Mem} {p1 : Int32} (ht : tok t) (hd : 7 ≤ d) (hw : w_N_input p1 m K X) : AM mX4_input d [.ref 1, .int p1] (lay t ex o m) k 2 12 (fun oc h' k' => k = k' ∧ ∃ (m' : Mem), h' = lay t ex o m' ∧ ((∃ r : Int32, oc = .inl (some (.int r)) ∧ K r m') ∨ ∃ E : String, oc = .inr E ∧ X E m')) :=
  AM.intro (μ := mX4_input) (n := 0) (by decide) rfl rfl rfl (b_N_input ht hd (by omega) (by omega) (fun _ _ hK => ⟨rfl, _, rfl, Or.inl ⟨_, rfl, hK⟩⟩) (fun _ _ hX => ⟨rfl, _, rfl, Or.inr ⟨_, rfl, hX⟩⟩) p1 hw)
def w_N_longestWith (p1 : Int32) (p2 : Int32) (m : Mem) (K : Int32 → Mem → Prop) (X : String → Mem → Prop) : Prop :=
  w_N_checkLine p1 m (fun m1 => w_N_checkHasDelay p1 m1 (fun m2 => w_N_checkDelay p2 m2 (fun m3 => w_A_reckon 21 p1 p2 m3 (fun m4 => w_A_greatest 21  m4 (fun r6 m5 => K r6 m5))) X) X) X
set_option maxRecDepth 100000 in
set_option maxHeartbeats 4000000 in
theorem b_N_longestWith {Z : Gz} {d k0 mc ms cs ss k t : Nat} {Q : Po} {ex : Hp} {o : Nat → Int64} {K : Int32 → Mem → Prop}  {X : String → Mem → Prop} (ht : tok t) (hd : 6 ≤ d) (hcs : cs + 3 ≤ mc) (hss : ss + 18 ≤ ms) (hQ : ∀ (r : Int32) (m : Mem), K r m → Q (.inl (some (.int r))) (lay t ex o m) k) (hX : ∀ (E : String) (m : Mem), X E m → Q (.inr E) (lay t ex o m) k) {m : Mem} (p1 : Int32) (p2 : Int32) (hw : w_N_longestWith p1 p2 m K X) : AW Z mX4_longestWith d k0 mc ms Q 0 [.ref 1, .int p1, .int p2] [] (lay t ex o m) k cs ss := by
  unfold w_N_longestWith at hw
  refine AW.aload_n (pc := 0) dX4_longestWith_0 rfl rfl ?_
  refine AW.iload_n (pc := 1) dX4_longestWith_1 rfl rfl ?_
  refine AW.callV (pc := 2) (S' := []) dX4_longestWith_2 (c_N_checkLine (d := d - 1) ht (by omega) hw) ok_X4_checkLine tw_317 ts_17 tw_315 (fix_pos (by decide)) (lay_at ht (by decide)) (show aw_cl[4]? = some _ from rfl) rfl rfl (by omega) rfl (Nat.le_of_ble_eq_true rfl) (by omega) (by omega) ?_ ?_
  · intro v h' k' hq
    obtain ⟨rfl, m1, rfl, (⟨hv, hw⟩ | ⟨E, hv, hw⟩)⟩ := hq
    · cases hv
      show AW _ _ _ _ _ _ _ 5 [.ref 1, .int p1, .int p2] [] (lay t ex o m1) k _ _
      refine AW.aload_n (pc := 5) dX4_longestWith_5 rfl rfl ?_
      refine AW.iload_n (pc := 6) dX4_longestWith_6 rfl rfl ?_
      refine AW.callV (pc := 7) (S' := []) dX4_longestWith_7 (c_N_checkHasDelay (d := d - 1) ht (by omega) hw) ok_X4_checkHasDelay tw_349 ts_18 tw_347 (fix_pos (by decide)) (lay_at ht (by decide)) (show aw_cl[4]? = some _ from rfl) rfl rfl (by omega) rfl (Nat.le_of_ble_eq_true rfl) (by omega) (by omega) ?_ ?_
      · intro v h' k' hq
        obtain ⟨rfl, m2, rfl, (⟨hv, hw⟩ | ⟨E, hv, hw⟩)⟩ := hq
        · cases hv
          show AW _ _ _ _ _ _ _ 10 [.ref 1, .int p1, .int p2] [] (lay t ex o m2) k _ _
          refine AW.iload_n (pc := 10) dX4_longestWith_10 rfl rfl ?_
          refine AW.callS (pc := 11) (S' := []) dX4_longestWith_11 (c_N_checkDelay (d := d - 1) ht (by omega) hw) ok_X4_checkDelay tw_353 tw_352 rfl (by omega) rfl (Nat.le_of_ble_eq_true rfl) (by omega) (by omega) ?_ ?_
          · intro v h' k' hq
            obtain ⟨rfl, m3, rfl, (⟨hv, hw⟩ | ⟨E, hv, hw⟩)⟩ := hq
            · cases hv
              show AW _ _ _ _ _ _ _ 14 [.ref 1, .int p1, .int p2] [] (lay t ex o m3) k _ _
              refine AW.aload_n (pc := 14) dX4_longestWith_14 rfl rfl ?_
              refine LW.get (pc := 15) (f := 3) (ci := 4) (T := TX4) ht (by decide) rfl dX4_longestWith_15 tw_623 rfl (by decide) rfl ?_
              refine AW.aload_n (pc := 18) dX4_longestWith_18 rfl rfl ?_
              refine LW.get (pc := 19) (f := 0) (ci := 4) (T := TX4) ht (by decide) rfl dX4_longestWith_19 tw_620 rfl (by decide) rfl ?_
              refine AW.aload_n (pc := 22) dX4_longestWith_22 rfl rfl ?_
              refine LW.get (pc := 23) (f := 1) (ci := 4) (T := TX4) ht (by decide) rfl dX4_longestWith_23 tw_621 rfl (by decide) rfl ?_
              refine AW.iload_n (pc := 26) dX4_longestWith_26 rfl rfl ?_
              refine AW.iload_n (pc := 27) dX4_longestWith_27 rfl rfl ?_
              refine AW.callV (pc := 28) (S' := []) dX4_longestWith_28 (c_A_reckon_21 (d := d - 1) ht (by omega) hw) ok_X0_reckon tw_357 tw_358 tw_356 (fix_pos (by decide)) (lay_at ht (by decide)) (show aw_cl[0]? = some _ from rfl) rfl rfl (by omega) rfl (Nat.le_of_ble_eq_true rfl) (by omega) (by omega) ?_ (fun E h' k' hq => by obtain ⟨rfl, m4, hv, -⟩ := hq; cases hv)
              intro v h' k' hq
              obtain ⟨rfl, m4, hv, rfl, hw⟩ := hq
              cases hv
              show AW _ _ _ _ _ _ _ 31 [.ref 1, .int p1, .int p2] [] (lay t ex o m4) k _ _
              refine AW.aload_n (pc := 31) dX4_longestWith_31 rfl rfl ?_
              refine LW.get (pc := 32) (f := 3) (ci := 4) (T := TX4) ht (by decide) rfl dX4_longestWith_32 tw_623 rfl (by decide) rfl ?_
              refine AW.callV (pc := 35) (S' := []) dX4_longestWith_35 (c_A_greatest_21 (d := d - 1) ht (by omega) hw) ok_X0_greatest tw_102 tw_103 tw_101 (fix_pos (by decide)) (lay_at ht (by decide)) (show aw_cl[0]? = some _ from rfl) rfl rfl (by omega) rfl (Nat.le_of_ble_eq_true rfl) (by omega) (by omega) ?_ (fun E h' k' hq => by obtain ⟨rfl, r6, m5, hv, -⟩ := hq; cases hv)
              intro v h' k' hq
              obtain ⟨rfl, r6, m5, hv, rfl, hw⟩ := hq
              cases hv
              show AW _ _ _ _ _ _ _ 38 [.ref 1, .int p1, .int p2] [.int r6] (lay t ex o m5) k _ _
              exact AW.iret (pc := 38) dX4_longestWith_38 rfl rfl (by omega) (by omega) (hQ _ _ hw)
            · cases hv
          · intro E h' k' hq
            obtain ⟨rfl, m3, rfl, (⟨hv, hw⟩ | ⟨E2, hv, hw⟩)⟩ := hq
            · cases hv
            · cases hv; exact AX.out rfl (by omega) (by omega) (hX _ _ hw)
        · cases hv
      · intro E h' k' hq
        obtain ⟨rfl, m2, rfl, (⟨hv, hw⟩ | ⟨E2, hv, hw⟩)⟩ := hq
        · cases hv
        · cases hv; exact AX.out rfl (by omega) (by omega) (hX _ _ hw)
    · cases hv
  · intro E h' k' hq
    obtain ⟨rfl, m1, rfl, (⟨hv, hw⟩ | ⟨E2, hv, hw⟩)⟩ := hq
    · cases hv
    · cases hv; exact AX.out rfl (by omega) (by omega) (hX _ _ hw)
set_option maxRecDepth 100000 in
set_option maxHeartbeats 4000000 in
theorem c_N_longestWith {d k t : Nat} {ex : Hp} {o : Nat → Int64} {K : Int32 → Mem → Prop} {X : String → Mem → Prop} {m : Mem} {p1 : Int32} {p2 : Int32} (ht : tok t) (hd : 6 ≤ d) (hw : w_N_longestWith p1 p2 m K X) : AM mX4_longestWith d [.ref 1, .int p1, .int p2] (lay t ex o m) k 3 18 (fun oc h' k' => k = k' ∧ ∃ (m' : Mem), h' = lay t ex o m' ∧ ((∃ r : Int32, oc = .inl (some (.int r)) ∧ K r m') ∨ ∃ E : String, oc = .inr E ∧ X E m')) :=
  AM.intro (μ := mX4_longestWith) (n := 0) (by decide) rfl rfl rfl (b_N_longestWith ht hd (by omega) (by omega) (fun _ _ hK => ⟨rfl, _, rfl, Or.inl ⟨_, rfl, hK⟩⟩) (fun _ _ hX => ⟨rfl, _, rfl, Or.inr ⟨_, rfl, hX⟩⟩) p1 p2 hw)
def w_N_pass (p1 : Int32) (m : Mem) (K : Int32 → Mem → Prop) (X : String → Mem → Prop) : Prop :=
  w_N_checkRunning  m (fun m1 => w_N_isWithin p1 (100 : Int32) m1 (fun r3 m2 => ((¬ (r3 = 0) → w_R_letCome 23 ((m2 23 13) + p1) m2 (fun r6 m5 => ∀ m7 : Mem, m7 = up2 m5 23 13 ((m2 23 13) + p1) → K r6 m7)) ∧ (r3 = 0 → X "java/lang/IllegalArgumentException" m2)))) X
set_option maxRecDepth 100000 in
set_option maxHeartbeats 4000000 in
theorem b_N_pass {Z : Gz} {d k0 mc ms cs ss k t : Nat} {Q : Po} {ex : Hp} {o : Nat → Int64} {K : Int32 → Mem → Prop}  {X : String → Mem → Prop} (ht : tok t) (hd : 7 ≤ d) (hcs : cs + 2 ≤ mc) (hss : ss + 12 ≤ ms) (hQ : ∀ (r : Int32) (m : Mem), K r m → Q (.inl (some (.int r))) (lay t ex o m) k) (hX : ∀ (E : String) (m : Mem), X E m → Q (.inr E) (lay t ex o m) k) {m : Mem} (p1 : Int32) (hw : w_N_pass p1 m K X) : AW Z mX4_pass d k0 mc ms Q 0 [.ref 1, .int p1, .null, .null] [] (lay t ex o m) k cs ss := by
  unfold w_N_pass at hw
  refine AW.aload_n (pc := 0) dX4_pass_0 rfl rfl ?_
  refine AW.callV (pc := 1) (S' := []) dX4_pass_1 (c_N_checkRunning (d := d - 1) ht (by omega) hw) ok_X4_checkRunning tw_141 ts_2 tw_139 (fix_pos (by decide)) (lay_at ht (by decide)) (show aw_cl[4]? = some _ from rfl) rfl rfl (by omega) rfl (Nat.le_of_ble_eq_true rfl) (by omega) (by omega) ?_ ?_
  · intro v h' k' hq
    obtain ⟨rfl, m1, rfl, (⟨hv, hw⟩ | ⟨E, hv, hw⟩)⟩ := hq
    · cases hv
      show AW _ _ _ _ _ _ _ 4 [.ref 1, .int p1, .null, .null] [] (lay t ex o m1) k _ _
      refine AW.iload_n (pc := 4) dX4_pass_4 rfl rfl ?_
      refine AW.bipush (v := 100) (pc := 5) dX4_pass_5 (by decide) ?_
      refine AW.callS (pc := 7) (S' := []) dX4_pass_7 (c_N_isWithin (d := d - 1) ht (by omega) hw) ok_X4_isWithin tw_258 tw_257 rfl (by omega) rfl (Nat.le_of_ble_eq_true rfl) (by omega) (by omega) ?_ (fun E h' k' hq => by obtain ⟨rfl, r3, m2, hv, -⟩ := hq; cases hv)
      intro v h' k' hq
      obtain ⟨rfl, r3, m2, hv, rfl, hw⟩ := hq
      cases hv
      show AW _ _ _ _ _ _ _ 10 [.ref 1, .int p1, .null, .null] [.int r3] (lay t ex o m2) k _ _
      refine AW.if_ne (pc := 10) (tgt := 23) dX4_pass_10 (by decide) (fun c4 => ?_) (fun c4 => ?_)
      · have hw := hw.1 c4
        refine AW.aload_n (pc := 23) dX4_pass_23 rfl rfl ?_
        refine LW.get (pc := 24) (f := 4) (ci := 4) (T := TX4) ht (by decide) rfl dX4_pass_24 tw_624 rfl (by decide) rfl ?_
        refine LW.getN (pc := 27) (f := 13) (ci := 3) (T := TX3) ht (by decide) rfl dX4_pass_27 tw_575 rfl (by decide) rfl ?_
        refine AW.iload_n (pc := 30) dX4_pass_30 rfl rfl ?_
        refine AW.iadd (pc := 31) dX4_pass_31 ?_
        refine AW.istore_n (L' := [.ref 1, .int p1, .int ((m2 23 13) + p1), .null]) (pc := 32) dX4_pass_32 rfl (by decide) rfl rfl ?_
        refine AW.aload_n (pc := 33) dX4_pass_33 rfl rfl ?_
        refine LW.get (pc := 34) (f := 4) (ci := 4) (T := TX4) ht (by decide) rfl dX4_pass_34 tw_624 rfl (by decide) rfl ?_
        refine AW.iload_n (pc := 37) dX4_pass_37 rfl rfl ?_
        refine AW.callV (pc := 38) (S' := []) dX4_pass_38 (c_R_letCome_23 (d := d - 1) ht (by omega) hw) ok_X3_letCome tw_262 tw_263 tw_261 (fix_pos (by decide)) (lay_at ht (by decide)) (show aw_cl[3]? = some _ from rfl) rfl rfl (by omega) rfl (Nat.le_of_ble_eq_true rfl) (by omega) (by omega) ?_ (fun E h' k' hq => by obtain ⟨rfl, r6, m5, hv, -⟩ := hq; cases hv)
        intro v h' k' hq
        obtain ⟨rfl, r6, m5, hv, rfl, hw⟩ := hq
        cases hv
        show AW _ _ _ _ _ _ _ 41 [.ref 1, .int p1, .int ((m2 23 13) + p1), .null] [.int r6] (lay t ex o m5) k _ _
        refine AW.istore_n (L' := [.ref 1, .int p1, .int ((m2 23 13) + p1), .int r6]) (pc := 41) dX4_pass_41 rfl (by decide) rfl rfl ?_
        refine AW.aload_n (pc := 42) dX4_pass_42 rfl rfl ?_
        refine LW.get (pc := 43) (f := 4) (ci := 4) (T := TX4) ht (by decide) rfl dX4_pass_43 tw_624 rfl (by decide) rfl ?_
        refine AW.iload_n (pc := 46) dX4_pass_46 rfl rfl ?_
        have hw := hw _ rfl
        refine LW.putN (pc := 47) (f := 13) (ci := 3) (T := TX3) ht (by decide) rfl sp_23_13 dX4_pass_47 tw_575 rfl (by decide) (Nat.le_of_ble_eq_true rfl) rfl ⟨rfl, rfl⟩ ?_
        generalize up2 m5 23 13 ((m2 23 13) + p1) = m7 at hw ⊢
        refine AW.iload_n (pc := 50) dX4_pass_50 rfl rfl ?_
        exact AW.iret (pc := 51) dX4_pass_51 rfl rfl (by omega) (by omega) (hQ _ _ hw)
      · have hw := hw.2 c4
        exact AW.throwS (pc := 13) (E := "java/lang/IllegalArgumentException") (text := "no such step") dX4_pass_13 dX4_pass_16 dX4_pass_17 dX4_pass_19 dX4_pass_22 rfl (by decide) th_names (by decide) tw_169 tw_15 (by decide +kernel) th_IAE_64 th_IAE_64g (by decide) (by omega) (by omega) (hX _ _ hw)
    · cases hv
  · intro E h' k' hq
    obtain ⟨rfl, m1, rfl, (⟨hv, hw⟩ | ⟨E2, hv, hw⟩)⟩ := hq
    · cases hv
    · cases hv; exact AX.out rfl (by omega) (by omega) (hX _ _ hw)
set_option maxRecDepth 100000 in
set_option maxHeartbeats 4000000 in
theorem c_N_pass {d k t : Nat} {ex : Hp} {o : Nat → Int64} {K : Int32 → Mem → Prop} {X : String → Mem → Prop} {m : Mem} {p1 : Int32} (ht : tok t) (hd : 7 ≤ d) (hw : w_N_pass p1 m K X) : AM mX4_pass d [.ref 1, .int p1] (lay t ex o m) k 2 12 (fun oc h' k' => k = k' ∧ ∃ (m' : Mem), h' = lay t ex o m' ∧ ((∃ r : Int32, oc = .inl (some (.int r)) ∧ K r m') ∨ ∃ E : String, oc = .inr E ∧ X E m')) :=
  AM.intro (μ := mX4_pass) (n := 2) (by decide) rfl rfl rfl (b_N_pass ht hd (by omega) (by omega) (fun _ _ hK => ⟨rfl, _, rfl, Or.inl ⟨_, rfl, hK⟩⟩) (fun _ _ hX => ⟨rfl, _, rfl, Or.inr ⟨_, rfl, hX⟩⟩) p1 hw)
def w_N_register (p1 : Int32) (p2 : Int32) (p3 : Int32) (p4 : Int32) (p5 : Int32) (m : Mem) (K : Int32 → Mem → Prop) (X : String → Mem → Prop) : Prop :=
  w_N_checkWire p1 m (fun m1 => w_N_checkWire p2 m1 (fun m2 => w_N_checkWire p3 m2 (fun m3 => (∀ J5 : Mem → Prop, (∀  (m4 : Mem), (w_N_checkDelay p5 m4 (fun m8 => w_N_checkRoom  m8 (fun m9 => w_N_addLine (9 : Int32) p1 p2 p3 p4 p5 m9 (fun r11 m10 => K r11 m10)) X) X) → J5 m4) → ((p4 = (-1 : Int32) → J5  m3) ∧ (¬ (p4 = (-1 : Int32)) → w_N_checkWire p4 m3 (fun m7 => J5  m7) X)))) X) X) X
set_option maxRecDepth 100000 in
set_option maxHeartbeats 4000000 in
theorem b_N_register {Z : Gz} {d k0 mc ms cs ss k t : Nat} {Q : Po} {ex : Hp} {o : Nat → Int64} {K : Int32 → Mem → Prop}  {X : String → Mem → Prop} (ht : tok t) (hd : 7 ≤ d) (hcs : cs + 6 ≤ mc) (hss : ss + 36 ≤ ms) (hQ : ∀ (r : Int32) (m : Mem), K r m → Q (.inl (some (.int r))) (lay t ex o m) k) (hX : ∀ (E : String) (m : Mem), X E m → Q (.inr E) (lay t ex o m) k) {m : Mem} (p1 : Int32) (p2 : Int32) (p3 : Int32) (p4 : Int32) (p5 : Int32) (hw : w_N_register p1 p2 p3 p4 p5 m K X) : AW Z mX4_register d k0 mc ms Q 0 [.ref 1, .int p1, .int p2, .int p3, .int p4, .int p5] [] (lay t ex o m) k cs ss := by
  unfold w_N_register at hw
  refine AW.iload_n (pc := 0) dX4_register_0 rfl rfl ?_
  refine AW.callS (pc := 1) (S' := []) dX4_register_1 (c_N_checkWire (d := d - 1) ht (by omega) hw) ok_X4_checkWire tw_22 tw_21 rfl (by omega) rfl (Nat.le_of_ble_eq_true rfl) (by omega) (by omega) ?_ ?_
  · intro v h' k' hq
    obtain ⟨rfl, m1, rfl, (⟨hv, hw⟩ | ⟨E, hv, hw⟩)⟩ := hq
    · cases hv
      show AW _ _ _ _ _ _ _ 4 [.ref 1, .int p1, .int p2, .int p3, .int p4, .int p5] [] (lay t ex o m1) k _ _
      refine AW.iload_n (pc := 4) dX4_register_4 rfl rfl ?_
      refine AW.callS (pc := 5) (S' := []) dX4_register_5 (c_N_checkWire (d := d - 1) ht (by omega) hw) ok_X4_checkWire tw_22 tw_21 rfl (by omega) rfl (Nat.le_of_ble_eq_true rfl) (by omega) (by omega) ?_ ?_
      · intro v h' k' hq
        obtain ⟨rfl, m2, rfl, (⟨hv, hw⟩ | ⟨E, hv, hw⟩)⟩ := hq
        · cases hv
          show AW _ _ _ _ _ _ _ 8 [.ref 1, .int p1, .int p2, .int p3, .int p4, .int p5] [] (lay t ex o m2) k _ _
          refine AW.iload_n (pc := 8) dX4_register_8 rfl rfl ?_
          refine AW.callS (pc := 9) (S' := []) dX4_register_9 (c_N_checkWire (d := d - 1) ht (by omega) hw) ok_X4_checkWire tw_22 tw_21 rfl (by omega) rfl (Nat.le_of_ble_eq_true rfl) (by omega) (by omega) ?_ ?_
          · intro v h' k' hq
            obtain ⟨rfl, m3, rfl, (⟨hv, hw⟩ | ⟨E, hv, hw⟩)⟩ := hq
            · cases hv
              show AW _ _ _ _ _ _ _ 12 [.ref 1, .int p1, .int p2, .int p3, .int p4, .int p5] [] (lay t ex o m3) k _ _
              refine AW.iload (pc := 12) dX4_register_12 rfl ?_
              refine AW.iconst (v := -1) (pc := 14) dX4_register_14 (by decide) ?_
              have hw := hw (fun m4 => AW Z mX4_register d k0 mc ms Q 23 [.ref 1, .int p1, .int p2, .int p3, .int p4, .int p5] [] (lay t ex o m4) k (cs + 4) (ss + 24)) (by
                  intro m4 hw
                  refine AW.iload (pc := 23) dX4_register_23 rfl ?_
                  refine AW.callS (pc := 25) (S' := []) dX4_register_25 (c_N_checkDelay (d := d - 1) ht (by omega) hw) ok_X4_checkDelay tw_353 tw_352 rfl (by omega) rfl (Nat.le_of_ble_eq_true rfl) (by omega) (by omega) ?_ ?_
                  · intro v h' k' hq
                    obtain ⟨rfl, m8, rfl, (⟨hv, hw⟩ | ⟨E, hv, hw⟩)⟩ := hq
                    · cases hv
                      show AW _ _ _ _ _ _ _ 28 [.ref 1, .int p1, .int p2, .int p3, .int p4, .int p5] [] (lay t ex o m8) k _ _
                      refine AW.aload_n (pc := 28) dX4_register_28 rfl rfl ?_
                      refine AW.callV (pc := 29) (S' := []) dX4_register_29 (c_N_checkRoom (d := d - 1) ht (by omega) hw) ok_X4_checkRoom tw_720 ts_27 tw_718 (fix_pos (by decide)) (lay_at ht (by decide)) (show aw_cl[4]? = some _ from rfl) rfl rfl (by omega) rfl (Nat.le_of_ble_eq_true rfl) (by omega) (by omega) ?_ ?_
                      · intro v h' k' hq
                        obtain ⟨rfl, m9, rfl, (⟨hv, hw⟩ | ⟨E, hv, hw⟩)⟩ := hq
                        · cases hv
                          show AW _ _ _ _ _ _ _ 32 [.ref 1, .int p1, .int p2, .int p3, .int p4, .int p5] [] (lay t ex o m9) k _ _
                          refine AW.aload_n (pc := 32) dX4_register_32 rfl rfl ?_
                          refine AW.bipush (v := 9) (pc := 33) dX4_register_33 (by decide) ?_
                          refine AW.iload_n (pc := 35) dX4_register_35 rfl rfl ?_
                          refine AW.iload_n (pc := 36) dX4_register_36 rfl rfl ?_
                          refine AW.iload_n (pc := 37) dX4_register_37 rfl rfl ?_
                          refine AW.iload (pc := 38) dX4_register_38 rfl ?_
                          refine AW.iload (pc := 40) dX4_register_40 rfl ?_
                          refine AW.callV (pc := 42) (S' := []) dX4_register_42 (c_N_addLine (d := d - 1) ht (by omega) hw) ok_X4_addLine tw_725 ts_28 tw_723 (fix_pos (by decide)) (lay_at ht (by decide)) (show aw_cl[4]? = some _ from rfl) rfl rfl (by omega) rfl (Nat.le_of_ble_eq_true rfl) (by omega) (by omega) ?_ (fun E h' k' hq => by obtain ⟨rfl, r11, m10, hv, -⟩ := hq; cases hv)
                          intro v h' k' hq
                          obtain ⟨rfl, r11, m10, hv, rfl, hw⟩ := hq
                          cases hv
                          show AW _ _ _ _ _ _ _ 45 [.ref 1, .int p1, .int p2, .int p3, .int p4, .int p5] [.int r11] (lay t ex o m10) k _ _
                          exact AW.iret (pc := 45) dX4_register_45 rfl rfl (by omega) (by omega) (hQ _ _ hw)
                        · cases hv
                      · intro E h' k' hq
                        obtain ⟨rfl, m9, rfl, (⟨hv, hw⟩ | ⟨E2, hv, hw⟩)⟩ := hq
                        · cases hv
                        · cases hv; exact AX.out rfl (by omega) (by omega) (hX _ _ hw)
                    · cases hv
                  · intro E h' k' hq
                    obtain ⟨rfl, m8, rfl, (⟨hv, hw⟩ | ⟨E2, hv, hw⟩)⟩ := hq
                    · cases hv
                    · cases hv; exact AX.out rfl (by omega) (by omega) (hX _ _ hw))
              refine AW.icmp_eq (pc := 15) (tgt := 23) dX4_register_15 (by decide) (fun c6 => ?_) (fun c6 => ?_)
              · have hw := hw.1 c6
                refine AW.widen (cs' := cs + 4) (ss' := ss + 24) (by omega) (by omega) ?_
                exact hw
              · have hw := hw.2 c6
                refine AW.iload (pc := 18) dX4_register_18 rfl ?_
                refine AW.callS (pc := 20) (S' := []) dX4_register_20 (c_N_checkWire (d := d - 1) ht (by omega) hw) ok_X4_checkWire tw_22 tw_21 rfl (by omega) rfl (Nat.le_of_ble_eq_true rfl) (by omega) (by omega) ?_ ?_
                · intro v h' k' hq
                  obtain ⟨rfl, m7, rfl, (⟨hv, hw⟩ | ⟨E, hv, hw⟩)⟩ := hq
                  · cases hv
                    show AW _ _ _ _ _ _ _ 23 [.ref 1, .int p1, .int p2, .int p3, .int p4, .int p5] [] (lay t ex o m7) k _ _
                    refine AW.widen (cs' := cs + 4) (ss' := ss + 24) (by omega) (by omega) ?_
                    exact hw
                  · cases hv
                · intro E h' k' hq
                  obtain ⟨rfl, m7, rfl, (⟨hv, hw⟩ | ⟨E2, hv, hw⟩)⟩ := hq
                  · cases hv
                  · cases hv; exact AX.out rfl (by omega) (by omega) (hX _ _ hw)
            · cases hv
          · intro E h' k' hq
            obtain ⟨rfl, m3, rfl, (⟨hv, hw⟩ | ⟨E2, hv, hw⟩)⟩ := hq
            · cases hv
            · cases hv; exact AX.out rfl (by omega) (by omega) (hX _ _ hw)
        · cases hv
      · intro E h' k' hq
        obtain ⟨rfl, m2, rfl, (⟨hv, hw⟩ | ⟨E2, hv, hw⟩)⟩ := hq
        · cases hv
        · cases hv; exact AX.out rfl (by omega) (by omega) (hX _ _ hw)
    · cases hv
  · intro E h' k' hq
    obtain ⟨rfl, m1, rfl, (⟨hv, hw⟩ | ⟨E2, hv, hw⟩)⟩ := hq
    · cases hv
    · cases hv; exact AX.out rfl (by omega) (by omega) (hX _ _ hw)
set_option maxRecDepth 100000 in
set_option maxHeartbeats 4000000 in
theorem c_N_register {d k t : Nat} {ex : Hp} {o : Nat → Int64} {K : Int32 → Mem → Prop} {X : String → Mem → Prop} {m : Mem} {p1 : Int32} {p2 : Int32} {p3 : Int32} {p4 : Int32} {p5 : Int32} (ht : tok t) (hd : 7 ≤ d) (hw : w_N_register p1 p2 p3 p4 p5 m K X) : AM mX4_register d [.ref 1, .int p1, .int p2, .int p3, .int p4, .int p5] (lay t ex o m) k 6 36 (fun oc h' k' => k = k' ∧ ∃ (m' : Mem), h' = lay t ex o m' ∧ ((∃ r : Int32, oc = .inl (some (.int r)) ∧ K r m') ∨ ∃ E : String, oc = .inr E ∧ X E m')) :=
  AM.intro (μ := mX4_register) (n := 0) (by decide) rfl rfl rfl (b_N_register ht hd (by omega) (by omega) (fun _ _ hK => ⟨rfl, _, rfl, Or.inl ⟨_, rfl, hK⟩⟩) (fun _ _ hX => ⟨rfl, _, rfl, Or.inr ⟨_, rfl, hX⟩⟩) p1 p2 p3 p4 p5 hw)
def w_N_set (p1 : Int32) (p2 : Int32) (m : Mem) (K : Int32 → Mem → Prop) (X : String → Mem → Prop) : Prop :=
  w_N_checkRunning  m (fun m1 => w_N_checkWire p1 m1 (fun m2 => w_N_checkSetting p1 p2 m2 (fun m3 => vp_in p1 24 ∧ w_R_put 23 p1 p2 m3 (fun m4 => K (m3 24 (p1).toNatClampNeg) m4)) X) X) X
set_option maxRecDepth 100000 in
set_option maxHeartbeats 4000000 in
theorem b_N_set {Z : Gz} {d k0 mc ms cs ss k t : Nat} {Q : Po} {ex : Hp} {o : Nat → Int64} {K : Int32 → Mem → Prop}  {X : String → Mem → Prop} (ht : tok t) (hd : 7 ≤ d) (hcs : cs + 3 ≤ mc) (hss : ss + 18 ≤ ms) (hQ : ∀ (r : Int32) (m : Mem), K r m → Q (.inl (some (.int r))) (lay t ex o m) k) (hX : ∀ (E : String) (m : Mem), X E m → Q (.inr E) (lay t ex o m) k) {m : Mem} (p1 : Int32) (p2 : Int32) (hw : w_N_set p1 p2 m K X) : AW Z mX4_set d k0 mc ms Q 0 [.ref 1, .int p1, .int p2, .null] [] (lay t ex o m) k cs ss := by
  unfold w_N_set at hw
  refine AW.aload_n (pc := 0) dX4_set_0 rfl rfl ?_
  refine AW.callV (pc := 1) (S' := []) dX4_set_1 (c_N_checkRunning (d := d - 1) ht (by omega) hw) ok_X4_checkRunning tw_141 ts_2 tw_139 (fix_pos (by decide)) (lay_at ht (by decide)) (show aw_cl[4]? = some _ from rfl) rfl rfl (by omega) rfl (Nat.le_of_ble_eq_true rfl) (by omega) (by omega) ?_ ?_
  · intro v h' k' hq
    obtain ⟨rfl, m1, rfl, (⟨hv, hw⟩ | ⟨E, hv, hw⟩)⟩ := hq
    · cases hv
      show AW _ _ _ _ _ _ _ 4 [.ref 1, .int p1, .int p2, .null] [] (lay t ex o m1) k _ _
      refine AW.iload_n (pc := 4) dX4_set_4 rfl rfl ?_
      refine AW.callS (pc := 5) (S' := []) dX4_set_5 (c_N_checkWire (d := d - 1) ht (by omega) hw) ok_X4_checkWire tw_22 tw_21 rfl (by omega) rfl (Nat.le_of_ble_eq_true rfl) (by omega) (by omega) ?_ ?_
      · intro v h' k' hq
        obtain ⟨rfl, m2, rfl, (⟨hv, hw⟩ | ⟨E, hv, hw⟩)⟩ := hq
        · cases hv
          show AW _ _ _ _ _ _ _ 8 [.ref 1, .int p1, .int p2, .null] [] (lay t ex o m2) k _ _
          refine AW.aload_n (pc := 8) dX4_set_8 rfl rfl ?_
          refine AW.iload_n (pc := 9) dX4_set_9 rfl rfl ?_
          refine AW.iload_n (pc := 10) dX4_set_10 rfl rfl ?_
          refine AW.callV (pc := 11) (S' := []) dX4_set_11 (c_N_checkSetting (d := d - 1) ht (by omega) hw) ok_X4_checkSetting tw_162 ts_3 tw_160 (fix_pos (by decide)) (lay_at ht (by decide)) (show aw_cl[4]? = some _ from rfl) rfl rfl (by omega) rfl (Nat.le_of_ble_eq_true rfl) (by omega) (by omega) ?_ ?_
          · intro v h' k' hq
            obtain ⟨rfl, m3, rfl, (⟨hv, hw⟩ | ⟨E, hv, hw⟩)⟩ := hq
            · cases hv
              show AW _ _ _ _ _ _ _ 14 [.ref 1, .int p1, .int p2, .null] [] (lay t ex o m3) k _ _
              refine AW.aload_n (pc := 14) dX4_set_14 rfl rfl ?_
              refine LW.get (pc := 15) (f := 4) (ci := 4) (T := TX4) ht (by decide) rfl dX4_set_15 tw_624 rfl (by decide) rfl ?_
              refine LW.getN (pc := 18) (f := 1) (ci := 3) (T := TX3) ht (by decide) rfl dX4_set_18 tw_554 rfl (by decide) rfl ?_
              refine AW.iload_n (pc := 21) dX4_set_21 rfl rfl ?_
              obtain ⟨hin, hw⟩ := hw
              refine LW.iald (pc := 22) (j := p1.toNatClampNeg) ht (by decide) rfl dX4_set_22 hin rfl ?_
              refine AW.istore_n (L' := [.ref 1, .int p1, .int p2, .int (m3 24 (p1).toNatClampNeg)]) (pc := 23) dX4_set_23 rfl (by decide) rfl rfl ?_
              refine AW.aload_n (pc := 24) dX4_set_24 rfl rfl ?_
              refine LW.get (pc := 25) (f := 4) (ci := 4) (T := TX4) ht (by decide) rfl dX4_set_25 tw_624 rfl (by decide) rfl ?_
              refine AW.iload_n (pc := 28) dX4_set_28 rfl rfl ?_
              refine AW.iload_n (pc := 29) dX4_set_29 rfl rfl ?_
              refine AW.callV (pc := 30) (S' := []) dX4_set_30 (c_R_put_23 (d := d - 1) ht (by omega) hw) ok_X3_put tw_187 tw_188 tw_186 (fix_pos (by decide)) (lay_at ht (by decide)) (show aw_cl[3]? = some _ from rfl) rfl rfl (by omega) rfl (Nat.le_of_ble_eq_true rfl) (by omega) (by omega) ?_ (fun E h' k' hq => by obtain ⟨rfl, m4, hv, -⟩ := hq; cases hv)
              intro v h' k' hq
              obtain ⟨rfl, m4, hv, rfl, hw⟩ := hq
              cases hv
              show AW _ _ _ _ _ _ _ 33 [.ref 1, .int p1, .int p2, .int (m3 24 (p1).toNatClampNeg)] [] (lay t ex o m4) k _ _
              refine AW.iload_n (pc := 33) dX4_set_33 rfl rfl ?_
              exact AW.iret (pc := 34) dX4_set_34 rfl rfl (by omega) (by omega) (hQ _ _ hw)
            · cases hv
          · intro E h' k' hq
            obtain ⟨rfl, m3, rfl, (⟨hv, hw⟩ | ⟨E2, hv, hw⟩)⟩ := hq
            · cases hv
            · cases hv; exact AX.out rfl (by omega) (by omega) (hX _ _ hw)
        · cases hv
      · intro E h' k' hq
        obtain ⟨rfl, m2, rfl, (⟨hv, hw⟩ | ⟨E2, hv, hw⟩)⟩ := hq
        · cases hv
        · cases hv; exact AX.out rfl (by omega) (by omega) (hX _ _ hw)
    · cases hv
  · intro E h' k' hq
    obtain ⟨rfl, m1, rfl, (⟨hv, hw⟩ | ⟨E2, hv, hw⟩)⟩ := hq
    · cases hv
    · cases hv; exact AX.out rfl (by omega) (by omega) (hX _ _ hw)
set_option maxRecDepth 100000 in
set_option maxHeartbeats 4000000 in
theorem c_N_set {d k t : Nat} {ex : Hp} {o : Nat → Int64} {K : Int32 → Mem → Prop} {X : String → Mem → Prop} {m : Mem} {p1 : Int32} {p2 : Int32} (ht : tok t) (hd : 7 ≤ d) (hw : w_N_set p1 p2 m K X) : AM mX4_set d [.ref 1, .int p1, .int p2] (lay t ex o m) k 3 18 (fun oc h' k' => k = k' ∧ ∃ (m' : Mem), h' = lay t ex o m' ∧ ((∃ r : Int32, oc = .inl (some (.int r)) ∧ K r m') ∨ ∃ E : String, oc = .inr E ∧ X E m')) :=
  AM.intro (μ := mX4_set) (n := 1) (by decide) rfl rfl rfl (b_N_set ht hd (by omega) (by omega) (fun _ _ hK => ⟨rfl, _, rfl, Or.inl ⟨_, rfl, hK⟩⟩) (fun _ _ hX => ⟨rfl, _, rfl, Or.inr ⟨_, rfl, hX⟩⟩) p1 p2 hw)
def w_N_settle (m : Mem) (K : Int32 → Mem → Prop) (X : String → Mem → Prop) : Prop :=
  w_N_checkRunning  m (fun m1 => w_R_comeToRest 23  m1 (fun r3 m2 => K r3 m2)) X
set_option maxRecDepth 100000 in
set_option maxHeartbeats 4000000 in
theorem b_N_settle {Z : Gz} {d k0 mc ms cs ss k t : Nat} {Q : Po} {ex : Hp} {o : Nat → Int64} {K : Int32 → Mem → Prop}  {X : String → Mem → Prop} (ht : tok t) (hd : 8 ≤ d) (hcs : cs + 1 ≤ mc) (hss : ss + 6 ≤ ms) (hQ : ∀ (r : Int32) (m : Mem), K r m → Q (.inl (some (.int r))) (lay t ex o m) k) (hX : ∀ (E : String) (m : Mem), X E m → Q (.inr E) (lay t ex o m) k) {m : Mem}  (hw : w_N_settle  m K X) : AW Z mX4_settle d k0 mc ms Q 0 [.ref 1] [] (lay t ex o m) k cs ss := by
  unfold w_N_settle at hw
  refine AW.aload_n (pc := 0) dX4_settle_0 rfl rfl ?_
  refine AW.callV (pc := 1) (S' := []) dX4_settle_1 (c_N_checkRunning (d := d - 1) ht (by omega) hw) ok_X4_checkRunning tw_141 ts_2 tw_139 (fix_pos (by decide)) (lay_at ht (by decide)) (show aw_cl[4]? = some _ from rfl) rfl rfl (by omega) rfl (Nat.le_of_ble_eq_true rfl) (by omega) (by omega) ?_ ?_
  · intro v h' k' hq
    obtain ⟨rfl, m1, rfl, (⟨hv, hw⟩ | ⟨E, hv, hw⟩)⟩ := hq
    · cases hv
      show AW _ _ _ _ _ _ _ 4 [.ref 1] [] (lay t ex o m1) k _ _
      refine AW.aload_n (pc := 4) dX4_settle_4 rfl rfl ?_
      refine LW.get (pc := 5) (f := 4) (ci := 4) (T := TX4) ht (by decide) rfl dX4_settle_5 tw_624 rfl (by decide) rfl ?_
      refine AW.callV (pc := 8) (S' := []) dX4_settle_8 (c_R_comeToRest_23 (d := d - 1) ht (by omega) hw) ok_X3_comeToRest tw_282 tw_283 tw_281 (fix_pos (by decide)) (lay_at ht (by decide)) (show aw_cl[3]? = some _ from rfl) rfl rfl (by omega) rfl (Nat.le_of_ble_eq_true rfl) (by omega) (by omega) ?_ (fun E h' k' hq => by obtain ⟨rfl, r3, m2, hv, -⟩ := hq; cases hv)
      intro v h' k' hq
      obtain ⟨rfl, r3, m2, hv, rfl, hw⟩ := hq
      cases hv
      show AW _ _ _ _ _ _ _ 11 [.ref 1] [.int r3] (lay t ex o m2) k _ _
      exact AW.iret (pc := 11) dX4_settle_11 rfl rfl (by omega) (by omega) (hQ _ _ hw)
    · cases hv
  · intro E h' k' hq
    obtain ⟨rfl, m1, rfl, (⟨hv, hw⟩ | ⟨E2, hv, hw⟩)⟩ := hq
    · cases hv
    · cases hv; exact AX.out rfl (by omega) (by omega) (hX _ _ hw)
set_option maxRecDepth 100000 in
set_option maxHeartbeats 4000000 in
theorem c_N_settle {d k t : Nat} {ex : Hp} {o : Nat → Int64} {K : Int32 → Mem → Prop} {X : String → Mem → Prop} {m : Mem}  (ht : tok t) (hd : 8 ≤ d) (hw : w_N_settle  m K X) : AM mX4_settle d [.ref 1] (lay t ex o m) k 1 6 (fun oc h' k' => k = k' ∧ ∃ (m' : Mem), h' = lay t ex o m' ∧ ((∃ r : Int32, oc = .inl (some (.int r)) ∧ K r m') ∨ ∃ E : String, oc = .inr E ∧ X E m')) :=
  AM.intro (μ := mX4_settle) (n := 0) (by decide) rfl rfl rfl (b_N_settle ht hd (by omega) (by omega) (fun _ _ hK => ⟨rfl, _, rfl, Or.inl ⟨_, rfl, hK⟩⟩) (fun _ _ hX => ⟨rfl, _, rfl, Or.inr ⟨_, rfl, hX⟩⟩)  hw)
def w_N_start (m : Mem) (K : Int32 → Mem → Prop) (X : String → Mem → Prop) : Prop :=
  (((m 14 5) = 0 → ∀ m2 : Mem, m2 = up2 m 1 6 (1 : Int32) → w_R_begin 23  m2 (fun m3 => w_R_linesPending 23  m3 (fun r5 m4 => K r5 m4))) ∧ (¬ ((m 14 5) = 0) → X "java/lang/IllegalStateException" m))
set_option maxRecDepth 100000 in
set_option maxHeartbeats 4000000 in
theorem b_N_start {Z : Gz} {d k0 mc ms cs ss k t : Nat} {Q : Po} {ex : Hp} {o : Nat → Int64} {K : Int32 → Mem → Prop}  {X : String → Mem → Prop} (ht : tok t) (hd : 7 ≤ d) (hcs : cs + 1 ≤ mc) (hss : ss + 6 ≤ ms) (hQ : ∀ (r : Int32) (m : Mem), K r m → Q (.inl (some (.int r))) (lay t ex o m) k) (hX : ∀ (E : String) (m : Mem), X E m → Q (.inr E) (lay t ex o m) k) {m : Mem}  (hw : w_N_start  m K X) : AW Z mX4_start d k0 mc ms Q 0 [.ref 1] [] (lay t ex o m) k cs ss := by
  unfold w_N_start at hw
  refine AW.aload_n (pc := 0) dX4_start_0 rfl rfl ?_
  refine LW.get (pc := 1) (f := 1) (ci := 4) (T := TX4) ht (by decide) rfl dX4_start_1 tw_621 rfl (by decide) rfl ?_
  refine LW.getN (pc := 4) (f := 5) (ci := 2) (T := TX2) ht (by decide) rfl dX4_start_4 tw_518 rfl (by decide) rfl ?_
  refine AW.if_eq (pc := 7) (tgt := 20) dX4_start_7 (by decide) (fun c1 => ?_) (fun c1 => ?_)
  · have hw := hw.1 c1
    refine AW.aload_n (pc := 20) dX4_start_20 rfl rfl ?_
    refine AW.iconst (v := 1) (pc := 21) dX4_start_21 (by decide) ?_
    have hw := hw _ rfl
    refine LW.put (pc := 22) (f := 6) (ci := 4) (T := TX4) ht (by decide) rfl sp_1_6 dX4_start_22 tw_626 rfl (by decide) (Nat.le_of_ble_eq_true rfl) rfl ⟨by decide, by decide⟩ ?_
    generalize up2 m 1 6 (1 : Int32) = m2 at hw ⊢
    refine AW.aload_n (pc := 25) dX4_start_25 rfl rfl ?_
    refine LW.get (pc := 26) (f := 4) (ci := 4) (T := TX4) ht (by decide) rfl dX4_start_26 tw_624 rfl (by decide) rfl ?_
    refine AW.callV (pc := 29) (S' := []) dX4_start_29 (c_R_begin_23 (d := d - 1) ht (by omega) hw) ok_X3_begin tw_795 tw_796 tw_794 (fix_pos (by decide)) (lay_at ht (by decide)) (show aw_cl[3]? = some _ from rfl) rfl rfl (by omega) rfl (Nat.le_of_ble_eq_true rfl) (by omega) (by omega) ?_ (fun E h' k' hq => by obtain ⟨rfl, m3, hv, -⟩ := hq; cases hv)
    intro v h' k' hq
    obtain ⟨rfl, m3, hv, rfl, hw⟩ := hq
    cases hv
    show AW _ _ _ _ _ _ _ 32 [.ref 1] [] (lay t ex o m3) k _ _
    refine AW.aload_n (pc := 32) dX4_start_32 rfl rfl ?_
    refine LW.get (pc := 33) (f := 4) (ci := 4) (T := TX4) ht (by decide) rfl dX4_start_33 tw_624 rfl (by decide) rfl ?_
    refine AW.callV (pc := 36) (S' := []) dX4_start_36 (c_R_linesPending_23 (d := d - 1) ht (by omega) hw) ok_X3_linesPending tw_298 tw_299 tw_297 (fix_pos (by decide)) (lay_at ht (by decide)) (show aw_cl[3]? = some _ from rfl) rfl rfl (by omega) rfl (Nat.le_of_ble_eq_true rfl) (by omega) (by omega) ?_ (fun E h' k' hq => by obtain ⟨rfl, r5, m4, hv, -⟩ := hq; cases hv)
    intro v h' k' hq
    obtain ⟨rfl, r5, m4, hv, rfl, hw⟩ := hq
    cases hv
    show AW _ _ _ _ _ _ _ 39 [.ref 1] [.int r5] (lay t ex o m4) k _ _
    exact AW.iret (pc := 39) dX4_start_39 rfl rfl (by omega) (by omega) (hQ _ _ hw)
  · have hw := hw.2 c1
    exact AW.throwS (pc := 10) (E := "java/lang/IllegalStateException") (text := "there are flaws") dX4_start_10 dX4_start_13 dX4_start_14 dX4_start_16 dX4_start_19 rfl (by decide) th_names (by decide) tw_144 tw_13 (by decide +kernel) th_ISE_150 th_ISE_150g (by decide) (by omega) (by omega) (hX _ _ hw)
set_option maxRecDepth 100000 in
set_option maxHeartbeats 4000000 in
theorem c_N_start {d k t : Nat} {ex : Hp} {o : Nat → Int64} {K : Int32 → Mem → Prop} {X : String → Mem → Prop} {m : Mem}  (ht : tok t) (hd : 7 ≤ d) (hw : w_N_start  m K X) : AM mX4_start d [.ref 1] (lay t ex o m) k 1 6 (fun oc h' k' => k = k' ∧ ∃ (m' : Mem), h' = lay t ex o m' ∧ ((∃ r : Int32, oc = .inl (some (.int r)) ∧ K r m') ∨ ∃ E : String, oc = .inr E ∧ X E m')) :=
  AM.intro (μ := mX4_start) (n := 0) (by decide) rfl rfl rfl (b_N_start ht hd (by omega) (by omega) (fun _ _ hK => ⟨rfl, _, rfl, Or.inl ⟨_, rfl, hK⟩⟩) (fun _ _ hX => ⟨rfl, _, rfl, Or.inr ⟨_, rfl, hX⟩⟩)  hw)
def w_N_wouldBe (p1 : Int32) (p2 : Int32) (p3 : Int32) (m : Mem) (K : Int32 → Mem → Prop) (X : String → Mem → Prop) : Prop :=
  w_N_checkRunning  m (fun m1 => w_N_checkWire p1 m1 (fun m2 => w_N_checkWire p3 m2 (fun m3 => w_N_checkSetting p1 p2 m3 (fun m4 => w_R_copyFrom 35  m4 (fun m5 => w_R_put 35 p1 p2 m5 (fun m6 => w_R_comeToRest 35  m6 (fun r8 m7 => vp_in p3 24 ∧ K (m7 36 (p3).toNatClampNeg) m7)))) X) X) X) X
set_option maxRecDepth 100000 in
set_option maxHeartbeats 4000000 in
theorem b_N_wouldBe {Z : Gz} {d k0 mc ms cs ss k t : Nat} {Q : Po} {ex : Hp} {o : Nat → Int64} {K : Int32 → Mem → Prop}  {X : String → Mem → Prop} (ht : tok t) (hd : 8 ≤ d) (hcs : cs + 4 ≤ mc) (hss : ss + 24 ≤ ms) (hQ : ∀ (r : Int32) (m : Mem), K r m → Q (.inl (some (.int r))) (lay t ex o m) k) (hX : ∀ (E : String) (m : Mem), X E m → Q (.inr E) (lay t ex o m) k) {m : Mem} (p1 : Int32) (p2 : Int32) (p3 : Int32) (hw : w_N_wouldBe p1 p2 p3 m K X) : AW Z mX4_wouldBe d k0 mc ms Q 0 [.ref 1, .int p1, .int p2, .int p3] [] (lay t ex o m) k cs ss := by
  unfold w_N_wouldBe at hw
  refine AW.aload_n (pc := 0) dX4_wouldBe_0 rfl rfl ?_
  refine AW.callV (pc := 1) (S' := []) dX4_wouldBe_1 (c_N_checkRunning (d := d - 1) ht (by omega) hw) ok_X4_checkRunning tw_141 ts_2 tw_139 (fix_pos (by decide)) (lay_at ht (by decide)) (show aw_cl[4]? = some _ from rfl) rfl rfl (by omega) rfl (Nat.le_of_ble_eq_true rfl) (by omega) (by omega) ?_ ?_
  · intro v h' k' hq
    obtain ⟨rfl, m1, rfl, (⟨hv, hw⟩ | ⟨E, hv, hw⟩)⟩ := hq
    · cases hv
      show AW _ _ _ _ _ _ _ 4 [.ref 1, .int p1, .int p2, .int p3] [] (lay t ex o m1) k _ _
      refine AW.iload_n (pc := 4) dX4_wouldBe_4 rfl rfl ?_
      refine AW.callS (pc := 5) (S' := []) dX4_wouldBe_5 (c_N_checkWire (d := d - 1) ht (by omega) hw) ok_X4_checkWire tw_22 tw_21 rfl (by omega) rfl (Nat.le_of_ble_eq_true rfl) (by omega) (by omega) ?_ ?_
      · intro v h' k' hq
        obtain ⟨rfl, m2, rfl, (⟨hv, hw⟩ | ⟨E, hv, hw⟩)⟩ := hq
        · cases hv
          show AW _ _ _ _ _ _ _ 8 [.ref 1, .int p1, .int p2, .int p3] [] (lay t ex o m2) k _ _
          refine AW.iload_n (pc := 8) dX4_wouldBe_8 rfl rfl ?_
          refine AW.callS (pc := 9) (S' := []) dX4_wouldBe_9 (c_N_checkWire (d := d - 1) ht (by omega) hw) ok_X4_checkWire tw_22 tw_21 rfl (by omega) rfl (Nat.le_of_ble_eq_true rfl) (by omega) (by omega) ?_ ?_
          · intro v h' k' hq
            obtain ⟨rfl, m3, rfl, (⟨hv, hw⟩ | ⟨E, hv, hw⟩)⟩ := hq
            · cases hv
              show AW _ _ _ _ _ _ _ 12 [.ref 1, .int p1, .int p2, .int p3] [] (lay t ex o m3) k _ _
              refine AW.aload_n (pc := 12) dX4_wouldBe_12 rfl rfl ?_
              refine AW.iload_n (pc := 13) dX4_wouldBe_13 rfl rfl ?_
              refine AW.iload_n (pc := 14) dX4_wouldBe_14 rfl rfl ?_
              refine AW.callV (pc := 15) (S' := []) dX4_wouldBe_15 (c_N_checkSetting (d := d - 1) ht (by omega) hw) ok_X4_checkSetting tw_162 ts_3 tw_160 (fix_pos (by decide)) (lay_at ht (by decide)) (show aw_cl[4]? = some _ from rfl) rfl rfl (by omega) rfl (Nat.le_of_ble_eq_true rfl) (by omega) (by omega) ?_ ?_
              · intro v h' k' hq
                obtain ⟨rfl, m4, rfl, (⟨hv, hw⟩ | ⟨E, hv, hw⟩)⟩ := hq
                · cases hv
                  show AW _ _ _ _ _ _ _ 18 [.ref 1, .int p1, .int p2, .int p3] [] (lay t ex o m4) k _ _
                  refine AW.aload_n (pc := 18) dX4_wouldBe_18 rfl rfl ?_
                  refine LW.get (pc := 19) (f := 5) (ci := 4) (T := TX4) ht (by decide) rfl dX4_wouldBe_19 tw_625 rfl (by decide) rfl ?_
                  refine AW.aload_n (pc := 22) dX4_wouldBe_22 rfl rfl ?_
                  refine LW.get (pc := 23) (f := 4) (ci := 4) (T := TX4) ht (by decide) rfl dX4_wouldBe_23 tw_624 rfl (by decide) rfl ?_
                  refine AW.callV (pc := 26) (S' := []) dX4_wouldBe_26 (c_R_copyFrom_35 (d := d - 1) ht (by omega) hw) ok_X3_copyFrom tw_335 tw_336 tw_334 (fix_pos (by decide)) (lay_at ht (by decide)) (show aw_cl[3]? = some _ from rfl) rfl rfl (by omega) rfl (Nat.le_of_ble_eq_true rfl) (by omega) (by omega) ?_ (fun E h' k' hq => by obtain ⟨rfl, m5, hv, -⟩ := hq; cases hv)
                  intro v h' k' hq
                  obtain ⟨rfl, m5, hv, rfl, hw⟩ := hq
                  cases hv
                  show AW _ _ _ _ _ _ _ 29 [.ref 1, .int p1, .int p2, .int p3] [] (lay t ex o m5) k _ _
                  refine AW.aload_n (pc := 29) dX4_wouldBe_29 rfl rfl ?_
                  refine LW.get (pc := 30) (f := 5) (ci := 4) (T := TX4) ht (by decide) rfl dX4_wouldBe_30 tw_625 rfl (by decide) rfl ?_
                  refine AW.iload_n (pc := 33) dX4_wouldBe_33 rfl rfl ?_
                  refine AW.iload_n (pc := 34) dX4_wouldBe_34 rfl rfl ?_
                  refine AW.callV (pc := 35) (S' := []) dX4_wouldBe_35 (c_R_put_35 (d := d - 1) ht (by omega) hw) ok_X3_put tw_187 tw_188 tw_186 (fix_pos (by decide)) (lay_at ht (by decide)) (show aw_cl[3]? = some _ from rfl) rfl rfl (by omega) rfl (Nat.le_of_ble_eq_true rfl) (by omega) (by omega) ?_ (fun E h' k' hq => by obtain ⟨rfl, m6, hv, -⟩ := hq; cases hv)
                  intro v h' k' hq
                  obtain ⟨rfl, m6, hv, rfl, hw⟩ := hq
                  cases hv
                  show AW _ _ _ _ _ _ _ 38 [.ref 1, .int p1, .int p2, .int p3] [] (lay t ex o m6) k _ _
                  refine AW.aload_n (pc := 38) dX4_wouldBe_38 rfl rfl ?_
                  refine LW.get (pc := 39) (f := 5) (ci := 4) (T := TX4) ht (by decide) rfl dX4_wouldBe_39 tw_625 rfl (by decide) rfl ?_
                  refine AW.callV (pc := 42) (S' := []) dX4_wouldBe_42 (c_R_comeToRest_35 (d := d - 1) ht (by omega) hw) ok_X3_comeToRest tw_282 tw_283 tw_281 (fix_pos (by decide)) (lay_at ht (by decide)) (show aw_cl[3]? = some _ from rfl) rfl rfl (by omega) rfl (Nat.le_of_ble_eq_true rfl) (by omega) (by omega) ?_ (fun E h' k' hq => by obtain ⟨rfl, r8, m7, hv, -⟩ := hq; cases hv)
                  intro v h' k' hq
                  obtain ⟨rfl, r8, m7, hv, rfl, hw⟩ := hq
                  cases hv
                  show AW _ _ _ _ _ _ _ 45 [.ref 1, .int p1, .int p2, .int p3] [.int r8] (lay t ex o m7) k _ _
                  refine AW.pop (pc := 45) dX4_wouldBe_45 rfl ?_
                  refine AW.aload_n (pc := 46) dX4_wouldBe_46 rfl rfl ?_
                  refine LW.get (pc := 47) (f := 5) (ci := 4) (T := TX4) ht (by decide) rfl dX4_wouldBe_47 tw_625 rfl (by decide) rfl ?_
                  refine LW.getN (pc := 50) (f := 1) (ci := 3) (T := TX3) ht (by decide) rfl dX4_wouldBe_50 tw_554 rfl (by decide) rfl ?_
                  refine AW.iload_n (pc := 53) dX4_wouldBe_53 rfl rfl ?_
                  obtain ⟨hin, hw⟩ := hw
                  refine LW.iald (pc := 54) (j := p3.toNatClampNeg) ht (by decide) rfl dX4_wouldBe_54 hin rfl ?_
                  exact AW.iret (pc := 55) dX4_wouldBe_55 rfl rfl (by omega) (by omega) (hQ _ _ hw)
                · cases hv
              · intro E h' k' hq
                obtain ⟨rfl, m4, rfl, (⟨hv, hw⟩ | ⟨E2, hv, hw⟩)⟩ := hq
                · cases hv
                · cases hv; exact AX.out rfl (by omega) (by omega) (hX _ _ hw)
            · cases hv
          · intro E h' k' hq
            obtain ⟨rfl, m3, rfl, (⟨hv, hw⟩ | ⟨E2, hv, hw⟩)⟩ := hq
            · cases hv
            · cases hv; exact AX.out rfl (by omega) (by omega) (hX _ _ hw)
        · cases hv
      · intro E h' k' hq
        obtain ⟨rfl, m2, rfl, (⟨hv, hw⟩ | ⟨E2, hv, hw⟩)⟩ := hq
        · cases hv
        · cases hv; exact AX.out rfl (by omega) (by omega) (hX _ _ hw)
    · cases hv
  · intro E h' k' hq
    obtain ⟨rfl, m1, rfl, (⟨hv, hw⟩ | ⟨E2, hv, hw⟩)⟩ := hq
    · cases hv
    · cases hv; exact AX.out rfl (by omega) (by omega) (hX _ _ hw)
set_option maxRecDepth 100000 in
set_option maxHeartbeats 4000000 in
theorem c_N_wouldBe {d k t : Nat} {ex : Hp} {o : Nat → Int64} {K : Int32 → Mem → Prop} {X : String → Mem → Prop} {m : Mem} {p1 : Int32} {p2 : Int32} {p3 : Int32} (ht : tok t) (hd : 8 ≤ d) (hw : w_N_wouldBe p1 p2 p3 m K X) : AM mX4_wouldBe d [.ref 1, .int p1, .int p2, .int p3] (lay t ex o m) k 4 24 (fun oc h' k' => k = k' ∧ ∃ (m' : Mem), h' = lay t ex o m' ∧ ((∃ r : Int32, oc = .inl (some (.int r)) ∧ K r m') ∨ ∃ E : String, oc = .inr E ∧ X E m')) :=
  AM.intro (μ := mX4_wouldBe) (n := 0) (by decide) rfl rfl rfl (b_N_wouldBe ht hd (by omega) (by omega) (fun _ _ hK => ⟨rfl, _, rfl, Or.inl ⟨_, rfl, hK⟩⟩) (fun _ _ hX => ⟨rfl, _, rfl, Or.inr ⟨_, rfl, hX⟩⟩) p1 p2 p3 hw)
