/-! printed by wip/tools/gen.py: X5_add, X5_and, X5_isIn, X5_isWire, X5_no, X5_pend, X5_not, X5_valueOf, X5_reckon, X5_askGate, X5_noteHazard, X5_askRegister, X5_driver, X5_isInput, X5_asked, X5_beginCounting, X5_behind, X5_isGate, X5_uses, X5_change, X5_note, X5_usersNow, X5_nextLine, X5_pendingLines, X5_toldNow, X5_many, X5_gate, X5_ok, X5_hazards, X5_input, X5_isLine, X5_isRunning, X5_lines, X5_ofHazard, X5_ofWire, X5_passTo, X5_pass, X5_pending, X5_register, X5_setNow, X5_set, X5_setDelay, X5_setWindow, X5_settleNow, X5_settle, X5_thrown, X5_told, X5_users -/
abbrev mX5_add : Mt := (yX5_add, cX5_add, 7, (some .int), [])
set_option maxRecDepth 20000 in
theorem ok_X5_add : aw_mok mX5_add 6 := ⟨rfl, tw_868, tw_8, ⟨by decide, by decide⟩, by decide +kernel, by decide⟩
abbrev mX5_and : Mt := (yX5_and, cX5_and, 2, (some .int), [])
set_option maxRecDepth 20000 in
theorem ok_X5_and : aw_mok mX5_and 2 := ⟨rfl, tw_1005, tw_8, ⟨by decide, by decide⟩, by decide +kernel, by decide⟩
abbrev mX5_isIn : Mt := (yX5_isIn, cX5_isIn, 3, (some .boolean), [])
set_option maxRecDepth 20000 in
theorem ok_X5_isIn : aw_mok mX5_isIn 3 := ⟨rfl, tw_860, tw_8, ⟨by decide, by decide⟩, by decide +kernel, by decide⟩
abbrev mX5_isWire : Mt := (yX5_isWire, cX5_isWire, 1, (some .boolean), [])
set_option maxRecDepth 20000 in
theorem ok_X5_isWire : aw_mok mX5_isWire 1 := ⟨rfl, tw_857, tw_8, ⟨by decide, by decide⟩, by decide +kernel, by decide⟩
abbrev mX5_no : Mt := (yX5_no, cX5_no, 2, (some .int), [])
set_option maxRecDepth 20000 in
theorem ok_X5_no : aw_mok mX5_no 1 := ⟨rfl, tw_864, tw_8, ⟨by decide, by decide⟩, by decide +kernel, by decide⟩
abbrev mX5_pend : Mt := (yX5_pend, cX5_pend, 3, none, [])
set_option maxRecDepth 20000 in
theorem ok_X5_pend : aw_mok mX5_pend 2 := ⟨rfl, tw_1009, tw_8, ⟨by decide, by decide⟩, by decide +kernel, by decide⟩
abbrev mX5_not : Mt := (yX5_not, cX5_not, 1, (some .int), [])
set_option maxRecDepth 20000 in
theorem ok_X5_not : aw_mok mX5_not 1 := ⟨rfl, tw_1002, tw_8, ⟨by decide, by decide⟩, by decide +kernel, by decide⟩
abbrev mX5_valueOf : Mt := (yX5_valueOf, cX5_valueOf, 2, (some .int), [])
set_option maxRecDepth 20000 in
theorem ok_X5_valueOf : aw_mok mX5_valueOf 1 := ⟨rfl, tw_991, tw_8, ⟨by decide, by decide⟩, by decide +kernel, by decide⟩
abbrev mX5_reckon : Mt := (yX5_reckon, cX5_reckon, 4, (some .int), [])
set_option maxRecDepth 20000 in
theorem ok_X5_reckon : aw_mok mX5_reckon 1 := ⟨rfl, tw_999, tw_8, ⟨by decide, by decide⟩, by decide +kernel, by decide⟩
abbrev mX5_askGate : Mt := (yX5_askGate, cX5_askGate, 3, none, [])
set_option maxRecDepth 20000 in
theorem ok_X5_askGate : aw_mok mX5_askGate 1 := ⟨rfl, tw_995, tw_8, ⟨by decide, by decide⟩, by decide +kernel, by decide⟩
abbrev mX5_noteHazard : Mt := (yX5_noteHazard, cX5_noteHazard, 4, none, [])
set_option maxRecDepth 20000 in
theorem ok_X5_noteHazard : aw_mok mX5_noteHazard 2 := ⟨rfl, tw_1017, tw_8, ⟨by decide, by decide⟩, by decide +kernel, by decide⟩
abbrev mX5_askRegister : Mt := (yX5_askRegister, cX5_askRegister, 5, none, [])
set_option maxRecDepth 20000 in
theorem ok_X5_askRegister : aw_mok mX5_askRegister 3 := ⟨rfl, tw_1013, tw_8, ⟨by decide, by decide⟩, by decide +kernel, by decide⟩
abbrev mX5_driver : Mt := (yX5_driver, cX5_driver, 3, (some .int), [])
set_option maxRecDepth 20000 in
theorem ok_X5_driver : aw_mok mX5_driver 1 := ⟨rfl, tw_951, tw_8, ⟨by decide, by decide⟩, by decide +kernel, by decide⟩
abbrev mX5_isInput : Mt := (yX5_isInput, cX5_isInput, 2, (some .boolean), [])
set_option maxRecDepth 20000 in
theorem ok_X5_isInput : aw_mok mX5_isInput 1 := ⟨rfl, tw_1033, tw_8, ⟨by decide, by decide⟩, by decide +kernel, by decide⟩
abbrev mX5_asked : Mt := (yX5_asked, cX5_asked, 4, (some .int), [])
set_option maxRecDepth 20000 in
theorem ok_X5_asked : aw_mok mX5_asked 3 := ⟨rfl, tw_1029, tw_8, ⟨by decide, by decide⟩, by decide +kernel, by decide⟩
abbrev mX5_beginCounting : Mt := (yX5_beginCounting, cX5_beginCounting, 2, none, [])
set_option maxRecDepth 20000 in
theorem ok_X5_beginCounting : aw_mok mX5_beginCounting 0 := ⟨rfl, tw_1041, tw_8, ⟨by decide, by decide⟩, by decide +kernel, by decide⟩
abbrev mX5_behind : Mt := (yX5_behind, cX5_behind, 3, (some .int), [])
set_option maxRecDepth 20000 in
theorem ok_X5_behind : aw_mok mX5_behind 2 := ⟨rfl, tw_958, tw_8, ⟨by decide, by decide⟩, by decide +kernel, by decide⟩
abbrev mX5_isGate : Mt := (yX5_isGate, cX5_isGate, 2, (some .boolean), [])
set_option maxRecDepth 20000 in
theorem ok_X5_isGate : aw_mok mX5_isGate 1 := ⟨rfl, tw_923, tw_8, ⟨by decide, by decide⟩, by decide +kernel, by decide⟩
abbrev mX5_uses : Mt := (yX5_uses, cX5_uses, 3, (some .boolean), [])
set_option maxRecDepth 20000 in
theorem ok_X5_uses : aw_mok mX5_uses 2 := ⟨rfl, tw_919, tw_8, ⟨by decide, by decide⟩, by decide +kernel, by decide⟩
abbrev mX5_change : Mt := (yX5_change, cX5_change, 5, none, [])
set_option maxRecDepth 20000 in
theorem ok_X5_change : aw_mok mX5_change 2 := ⟨rfl, tw_987, tw_8, ⟨by decide, by decide⟩, by decide +kernel, by decide⟩
abbrev mX5_note : Mt := (yX5_note, cX5_note, 3, none, [])
set_option maxRecDepth 20000 in
theorem ok_X5_note : aw_mok mX5_note 2 := ⟨rfl, tw_911, tw_8, ⟨by decide, by decide⟩, by decide +kernel, by decide⟩
abbrev mX5_usersNow : Mt := (yX5_usersNow, cX5_usersNow, 4, (some .int), [])
set_option maxRecDepth 20000 in
theorem ok_X5_usersNow : aw_mok mX5_usersNow 1 := ⟨rfl, tw_915, tw_8, ⟨by decide, by decide⟩, by decide +kernel, by decide⟩
abbrev mX5_nextLine : Mt := (yX5_nextLine, cX5_nextLine, 3, (some .int), [])
set_option maxRecDepth 20000 in
theorem ok_X5_nextLine : aw_mok mX5_nextLine 0 := ⟨rfl, tw_1053, tw_8, ⟨by decide, by decide⟩, by decide +kernel, by decide⟩
abbrev mX5_pendingLines : Mt := (yX5_pendingLines, cX5_pendingLines, 3, (some .int), [])
set_option maxRecDepth 20000 in
theorem ok_X5_pendingLines : aw_mok mX5_pendingLines 0 := ⟨rfl, tw_1021, tw_8, ⟨by decide, by decide⟩, by decide +kernel, by decide⟩
abbrev mX5_toldNow : Mt := (yX5_toldNow, cX5_toldNow, 2, (some .int), [])
set_option maxRecDepth 20000 in
theorem ok_X5_toldNow : aw_mok mX5_toldNow 1 := ⟨rfl, tw_1074, tw_8, ⟨by decide, by decide⟩, by decide +kernel, by decide⟩
abbrev mX5_many : Mt := (yX5_many, cX5_many, 1, (some .int), [])
set_option maxRecDepth 20000 in
theorem ok_X5_many : aw_mok mX5_many 1 := ⟨rfl, tw_875, tw_8, ⟨by decide, by decide⟩, by decide +kernel, by decide⟩
abbrev mX5_gate : Mt := (yX5_gate, cX5_gate, 8, (some .int), [])
set_option maxRecDepth 20000 in
theorem ok_X5_gate : aw_mok mX5_gate 6 := ⟨rfl, tw_872, tw_8, ⟨by decide, by decide⟩, by decide +kernel, by decide⟩
abbrev mX5_ok : Mt := (yX5_ok, cX5_ok, 2, (some .int), [])
set_option maxRecDepth 20000 in
theorem ok_X5_ok : aw_mok mX5_ok 1 := ⟨rfl, tw_899, tw_8, ⟨by decide, by decide⟩, by decide +kernel, by decide⟩
abbrev mX5_hazards : Mt := (yX5_hazards, cX5_hazards, 1, (some .int), [])
set_option maxRecDepth 20000 in
theorem ok_X5_hazards : aw_mok mX5_hazards 0 := ⟨rfl, tw_1086, tw_8, ⟨by decide, by decide⟩, by decide +kernel, by decide⟩
abbrev mX5_input : Mt := (yX5_input, cX5_input, 2, (some .int), [])
set_option maxRecDepth 20000 in
theorem ok_X5_input : aw_mok mX5_input 1 := ⟨rfl, tw_854, tw_8, ⟨by decide, by decide⟩, by decide +kernel, by decide⟩
abbrev mX5_isLine : Mt := (yX5_isLine, cX5_isLine, 2, (some .boolean), [])
set_option maxRecDepth 20000 in
theorem ok_X5_isLine : aw_mok mX5_isLine 1 := ⟨rfl, tw_887, tw_8, ⟨by decide, by decide⟩, by decide +kernel, by decide⟩
abbrev mX5_isRunning : Mt := (yX5_isRunning, cX5_isRunning, 1, (some .boolean), [])
set_option maxRecDepth 20000 in
theorem ok_X5_isRunning : aw_mok mX5_isRunning 0 := ⟨rfl, tw_1066, tw_8, ⟨by decide, by decide⟩, by decide +kernel, by decide⟩
abbrev mX5_lines : Mt := (yX5_lines, cX5_lines, 1, (some .int), [])
set_option maxRecDepth 20000 in
theorem ok_X5_lines : aw_mok mX5_lines 0 := ⟨rfl, tw_895, tw_8, ⟨by decide, by decide⟩, by decide +kernel, by decide⟩
abbrev mX5_ofHazard : Mt := (yX5_ofHazard, cX5_ofHazard, 3, (some .int), [])
set_option maxRecDepth 20000 in
theorem ok_X5_ofHazard : aw_mok mX5_ofHazard 2 := ⟨rfl, tw_1090, tw_8, ⟨by decide, by decide⟩, by decide +kernel, by decide⟩
abbrev mX5_ofWire : Mt := (yX5_ofWire, cX5_ofWire, 3, (some .int), [])
set_option maxRecDepth 20000 in
theorem ok_X5_ofWire : aw_mok mX5_ofWire 2 := ⟨rfl, tw_1078, tw_8, ⟨by decide, by decide⟩, by decide +kernel, by decide⟩
abbrev mX5_passTo : Mt := (yX5_passTo, cX5_passTo, 6, (some .int), [])
set_option maxRecDepth 20000 in
theorem ok_X5_passTo : aw_mok mX5_passTo 1 := ⟨rfl, tw_1049, tw_8, ⟨by decide, by decide⟩, by decide +kernel, by decide⟩
abbrev mX5_pass : Mt := (yX5_pass, cX5_pass, 4, (some .int), [])
set_option maxRecDepth 20000 in
theorem ok_X5_pass : aw_mok mX5_pass 1 := ⟨rfl, tw_1045, tw_8, ⟨by decide, by decide⟩, by decide +kernel, by decide⟩
abbrev mX5_pending : Mt := (yX5_pending, cX5_pending, 2, (some .int), [])
set_option maxRecDepth 20000 in
theorem ok_X5_pending : aw_mok mX5_pending 1 := ⟨rfl, tw_1082, tw_8, ⟨by decide, by decide⟩, by decide +kernel, by decide⟩
abbrev mX5_register : Mt := (yX5_register, cX5_register, 6, (some .int), [])
set_option maxRecDepth 20000 in
theorem ok_X5_register : aw_mok mX5_register 5 := ⟨rfl, tw_879, tw_8, ⟨by decide, by decide⟩, by decide +kernel, by decide⟩
abbrev mX5_setNow : Mt := (yX5_setNow, cX5_setNow, 4, (some .int), [])
set_option maxRecDepth 20000 in
theorem ok_X5_setNow : aw_mok mX5_setNow 2 := ⟨rfl, tw_1037, tw_8, ⟨by decide, by decide⟩, by decide +kernel, by decide⟩
abbrev mX5_set : Mt := (yX5_set, cX5_set, 3, (some .int), [])
set_option maxRecDepth 20000 in
theorem ok_X5_set : aw_mok mX5_set 2 := ⟨rfl, tw_1025, tw_8, ⟨by decide, by decide⟩, by decide +kernel, by decide⟩
abbrev mX5_setDelay : Mt := (yX5_setDelay, cX5_setDelay, 4, (some .int), [])
set_option maxRecDepth 20000 in
theorem ok_X5_setDelay : aw_mok mX5_setDelay 2 := ⟨rfl, tw_891, tw_8, ⟨by decide, by decide⟩, by decide +kernel, by decide⟩
abbrev mX5_setWindow : Mt := (yX5_setWindow, cX5_setWindow, 5, (some .int), [])
set_option maxRecDepth 20000 in
theorem ok_X5_setWindow : aw_mok mX5_setWindow 3 := ⟨rfl, tw_883, tw_8, ⟨by decide, by decide⟩, by decide +kernel, by decide⟩
abbrev mX5_settleNow : Mt := (yX5_settleNow, cX5_settleNow, 4, (some .int), [])
set_option maxRecDepth 20000 in
theorem ok_X5_settleNow : aw_mok mX5_settleNow 0 := ⟨rfl, tw_1061, tw_8, ⟨by decide, by decide⟩, by decide +kernel, by decide⟩
abbrev mX5_settle : Mt := (yX5_settle, cX5_settle, 1, (some .int), [])
set_option maxRecDepth 20000 in
theorem ok_X5_settle : aw_mok mX5_settle 0 := ⟨rfl, tw_1057, tw_8, ⟨by decide, by decide⟩, by decide +kernel, by decide⟩
abbrev mX5_thrown : Mt := (yX5_thrown, cX5_thrown, 1, (some .int), [])
set_option maxRecDepth 20000 in
theorem ok_X5_thrown : aw_mok mX5_thrown 0 := ⟨rfl, tw_850, tw_8, ⟨by decide, by decide⟩, by decide +kernel, by decide⟩
abbrev mX5_told : Mt := (yX5_told, cX5_told, 2, (some .int), [])
set_option maxRecDepth 20000 in
theorem ok_X5_told : aw_mok mX5_told 1 := ⟨rfl, tw_1070, tw_8, ⟨by decide, by decide⟩, by decide +kernel, by decide⟩
abbrev mX5_users : Mt := (yX5_users, cX5_users, 2, (some .int), [])
set_option maxRecDepth 20000 in
theorem ok_X5_users : aw_mok mX5_users 1 := ⟨rfl, tw_979, tw_8, ⟨by decide, by decide⟩, by decide +kernel, by decide⟩
def w_M_add (p1 : Int32) (p2 : Int32) (p3 : Int32) (p4 : Int32) (p5 : Int32) (p6 : Int32) (m : Mem) (K : Int32 → Mem → Prop) : Prop :=
  ∀ m1 : Mem, m1 = up2 m 47 11 (0 : Int32) → vp_in (m1 47 1) 30 ∧ ∀ m2 : Mem, m2 = up2 m1 48 ((m1 47 1).toNatClampNeg) p1 → vp_in (m2 47 1) 30 ∧ ∀ m3 : Mem, m3 = up2 m2 49 ((m2 47 1).toNatClampNeg) p2 → vp_in (m3 47 1) 30 ∧ ∀ m4 : Mem, m4 = up2 m3 50 ((m3 47 1).toNatClampNeg) p3 → vp_in (m4 47 1) 30 ∧ ∀ m5 : Mem, m5 = up2 m4 51 ((m4 47 1).toNatClampNeg) p4 → vp_in (m5 47 1) 30 ∧ ∀ m6 : Mem, m6 = up2 m5 52 ((m5 47 1).toNatClampNeg) p5 → vp_in (m6 47 1) 30 ∧ ∀ m7 : Mem, m7 = up2 m6 53 ((m6 47 1).toNatClampNeg) p6 → ∀ m8 : Mem, m8 = up2 m7 47 1 ((m7 47 1) + (1 : Int32)) → K (m7 47 1) m8
set_option maxRecDepth 100000 in
set_option maxHeartbeats 4000000 in
theorem b_M_add {Z : Gz} {d k0 mc ms cs ss k t : Nat} {Q : Po} {ex : Hp} {o : Nat → Int64} {K : Int32 → Mem → Prop}  (ht : tok t) (hd : 2 ≤ d) (hcs : cs + 0 ≤ mc) (hss : ss + 0 ≤ ms) (hQ : ∀ (r : Int32) (m : Mem), K r m → Q (.inl (some (.int r))) (lay t ex o m) k) {m : Mem} (p1 : Int32) (p2 : Int32) (p3 : Int32) (p4 : Int32) (p5 : Int32) (p6 : Int32) (hw : w_M_add p1 p2 p3 p4 p5 p6 m K) : AW Z mX5_add d k0 mc ms Q 0 [.ref 47, .int p1, .int p2, .int p3, .int p4, .int p5, .int p6] [] (lay t ex o m) k cs ss := by
  unfold w_M_add at hw
  refine AW.aload_n (pc := 0) dX5_add_0 rfl rfl ?_
  refine AW.iconst (v := 0) (pc := 1) dX5_add_1 (by decide) ?_
  have hw := hw _ rfl
  refine LW.put (pc := 2) (f := 11) (ci := 5) (T := TX5) ht (by decide) rfl sp_47_11 dX5_add_2 tw_809 rfl (by decide) (Nat.le_of_ble_eq_true rfl) rfl ⟨by decide, by decide⟩ ?_
  generalize up2 m 47 11 (0 : Int32) = m1 at hw ⊢
  refine AW.aload_n (pc := 5) dX5_add_5 rfl rfl ?_
  refine LW.get (pc := 6) (f := 2) (ci := 5) (T := TX5) ht (by decide) rfl dX5_add_6 tw_800 rfl (by decide) rfl ?_
  refine AW.aload_n (pc := 9) dX5_add_9 rfl rfl ?_
  refine LW.get (pc := 10) (f := 1) (ci := 5) (T := TX5) ht (by decide) rfl dX5_add_10 tw_799 rfl (by decide) rfl ?_
  refine AW.iload_n (pc := 13) dX5_add_13 rfl rfl ?_
  obtain ⟨hin, hw⟩ := hw
  have hw := hw _ rfl
  refine LW.iast (pc := 14) (j := (m1 47 1).toNatClampNeg) ht (by decide) (fun _ => rfl) dX5_add_14 hin rfl ?_
  generalize up2 m1 48 ((m1 47 1).toNatClampNeg) p1 = m2 at hw ⊢
  refine AW.aload_n (pc := 15) dX5_add_15 rfl rfl ?_
  refine LW.get (pc := 16) (f := 3) (ci := 5) (T := TX5) ht (by decide) rfl dX5_add_16 tw_801 rfl (by decide) rfl ?_
  refine AW.aload_n (pc := 19) dX5_add_19 rfl rfl ?_
  refine LW.get (pc := 20) (f := 1) (ci := 5) (T := TX5) ht (by decide) rfl dX5_add_20 tw_799 rfl (by decide) rfl ?_
  refine AW.iload_n (pc := 23) dX5_add_23 rfl rfl ?_
  obtain ⟨hin, hw⟩ := hw
  have hw := hw _ rfl
  refine LW.iast (pc := 24) (j := (m2 47 1).toNatClampNeg) ht (by decide) (fun _ => rfl) dX5_add_24 hin rfl ?_
  generalize up2 m2 49 ((m2 47 1).toNatClampNeg) p2 = m3 at hw ⊢
  refine AW.aload_n (pc := 25) dX5_add_25 rfl rfl ?_
  refine LW.get (pc := 26) (f := 4) (ci := 5) (T := TX5) ht (by decide) rfl dX5_add_26 tw_802 rfl (by decide) rfl ?_
  refine AW.aload_n (pc := 29) dX5_add_29 rfl rfl ?_
  refine LW.get (pc := 30) (f := 1) (ci := 5) (T := TX5) ht (by decide) rfl dX5_add_30 tw_799 rfl (by decide) rfl ?_
  refine AW.iload_n (pc := 33) dX5_add_33 rfl rfl ?_
  obtain ⟨hin, hw⟩ := hw
  have hw := hw _ rfl
  refine LW.iast (pc := 34) (j := (m3 47 1).toNatClampNeg) ht (by decide) (fun _ => rfl) dX5_add_34 hin rfl ?_
  generalize up2 m3 50 ((m3 47 1).toNatClampNeg) p3 = m4 at hw ⊢
  refine AW.aload_n (pc := 35) dX5_add_35 rfl rfl ?_
  refine LW.get (pc := 36) (f := 5) (ci := 5) (T := TX5) ht (by decide) rfl dX5_add_36 tw_803 rfl (by decide) rfl ?_
  refine AW.aload_n (pc := 39) dX5_add_39 rfl rfl ?_
  refine LW.get (pc := 40) (f := 1) (ci := 5) (T := TX5) ht (by decide) rfl dX5_add_40 tw_799 rfl (by decide) rfl ?_
  refine AW.iload (pc := 43) dX5_add_43 rfl ?_
  obtain ⟨hin, hw⟩ := hw
  have hw := hw _ rfl
  refine LW.iast (pc := 45) (j := (m4 47 1).toNatClampNeg) ht (by decide) (fun _ => rfl) dX5_add_45 hin rfl ?_
  generalize up2 m4 51 ((m4 47 1).toNatClampNeg) p4 = m5 at hw ⊢
  refine AW.aload_n (pc := 46) dX5_add_46 rfl rfl ?_
  refine LW.get (pc := 47) (f := 6) (ci := 5) (T := TX5) ht (by decide) rfl dX5_add_47 tw_804 rfl (by decide) rfl ?_
  refine AW.aload_n (pc := 50) dX5_add_50 rfl rfl ?_
  refine LW.get (pc := 51) (f := 1) (ci := 5) (T := TX5) ht (by decide) rfl dX5_add_51 tw_799 rfl (by decide) rfl ?_
  refine AW.iload (pc := 54) dX5_add_54 rfl ?_
  obtain ⟨hin, hw⟩ := hw
  have hw := hw _ rfl
  refine LW.iast (pc := 56) (j := (m5 47 1).toNatClampNeg) ht (by decide) (fun _ => rfl) dX5_add_56 hin rfl ?_
  generalize up2 m5 52 ((m5 47 1).toNatClampNeg) p5 = m6 at hw ⊢
  refine AW.aload_n (pc := 57) dX5_add_57 rfl rfl ?_
  refine LW.get (pc := 58) (f := 7) (ci := 5) (T := TX5) ht (by decide) rfl dX5_add_58 tw_805 rfl (by decide) rfl ?_
  refine AW.aload_n (pc := 61) dX5_add_61 rfl rfl ?_
  refine LW.get (pc := 62) (f := 1) (ci := 5) (T := TX5) ht (by decide) rfl dX5_add_62 tw_799 rfl (by decide) rfl ?_
  refine AW.iload (pc := 65) dX5_add_65 rfl ?_
  obtain ⟨hin, hw⟩ := hw
  have hw := hw _ rfl
  refine LW.iast (pc := 67) (j := (m6 47 1).toNatClampNeg) ht (by decide) (fun _ => rfl) dX5_add_67 hin rfl ?_
  generalize up2 m6 53 ((m6 47 1).toNatClampNeg) p6 = m7 at hw ⊢
  refine AW.aload_n (pc := 68) dX5_add_68 rfl rfl ?_
  refine AW.dup (pc := 69) dX5_add_69 rfl ?_
  refine LW.get (pc := 70) (f := 1) (ci := 5) (T := TX5) ht (by decide) rfl dX5_add_70 tw_799 rfl (by decide) rfl ?_
  refine AW.dup_x1 (pc := 73) dX5_add_73 rfl rfl ?_
  refine AW.iconst (v := 1) (pc := 74) dX5_add_74 (by decide) ?_
  refine AW.iadd (pc := 75) dX5_add_75 ?_
  have hw := hw _ rfl
  refine LW.put (pc := 76) (f := 1) (ci := 5) (T := TX5) ht (by decide) rfl sp_47_1 dX5_add_76 tw_799 rfl (by decide) (Nat.le_of_ble_eq_true rfl) rfl ⟨rfl, rfl⟩ ?_
  generalize up2 m7 47 1 ((m7 47 1) + (1 : Int32)) = m8 at hw ⊢
  exact AW.iret (pc := 79) dX5_add_79 rfl rfl (by omega) (by omega) (hQ _ _ hw)
set_option maxRecDepth 100000 in
set_option maxHeartbeats 4000000 in
theorem c_M_add {d k t : Nat} {ex : Hp} {o : Nat → Int64} {K : Int32 → Mem → Prop} {m : Mem} {p1 : Int32} {p2 : Int32} {p3 : Int32} {p4 : Int32} {p5 : Int32} {p6 : Int32} (ht : tok t) (hd : 2 ≤ d) (hw : w_M_add p1 p2 p3 p4 p5 p6 m K) : AM mX5_add d [.ref 47, .int p1, .int p2, .int p3, .int p4, .int p5, .int p6] (lay t ex o m) k 0 0 (fun oc h' k' => k = k' ∧ ∃ (r : Int32) (m' : Mem), oc = .inl (some (.int r)) ∧ h' = lay t ex o m' ∧ K r m') :=
  AM.intro (μ := mX5_add) (n := 0) (by decide) rfl rfl rfl (b_M_add ht hd (by omega) (by omega) (fun _ _ hK => ⟨rfl, _, _, rfl, rfl, hK⟩) p1 p2 p3 p4 p5 p6 hw)
def w_M_and (p0 : Int32) (p1 : Int32) (m : Mem) (K : Int32 → Mem → Prop) : Prop :=
  ((p0 = 0 → K (0 : Int32) m) ∧ (¬ (p0 = 0) → ((¬ (p1 = 0) → ((¬ (p0 = (1 : Int32)) → K (2 : Int32) m) ∧ (p0 = (1 : Int32) → ((¬ (p1 = (1 : Int32)) → K (2 : Int32) m) ∧ (p1 = (1 : Int32) → K (1 : Int32) m))))) ∧ (p1 = 0 → K (0 : Int32) m))))
set_option maxRecDepth 100000 in
set_option maxHeartbeats 4000000 in
theorem b_M_and {Z : Gz} {d k0 mc ms cs ss k t : Nat} {Q : Po} {ex : Hp} {o : Nat → Int64} {K : Int32 → Mem → Prop}  (ht : tok t) (hd : 2 ≤ d) (hcs : cs + 0 ≤ mc) (hss : ss + 0 ≤ ms) (hQ : ∀ (r : Int32) (m : Mem), K r m → Q (.inl (some (.int r))) (lay t ex o m) k) {m : Mem} (p0 : Int32) (p1 : Int32) (hw : w_M_and p0 p1 m K) : AW Z mX5_and d k0 mc ms Q 0 [.int p0, .int p1] [] (lay t ex o m) k cs ss := by
  unfold w_M_and at hw
  refine AW.iload_n (pc := 0) dX5_and_0 rfl rfl ?_
  refine AW.if_eq (pc := 1) (tgt := 8) dX5_and_1 (by decide) (fun c1 => ?_) (fun c1 => ?_)
  · have hw := hw.1 c1
    refine AW.iconst (v := 0) (pc := 8) dX5_and_8 (by decide) ?_
    exact AW.iret (pc := 9) dX5_and_9 rfl rfl (by omega) (by omega) (hQ _ _ hw)
  · have hw := hw.2 c1
    refine AW.iload_n (pc := 4) dX5_and_4 rfl rfl ?_
    refine AW.if_ne (pc := 5) (tgt := 10) dX5_and_5 (by decide) (fun c2 => ?_) (fun c2 => ?_)
    · have hw := hw.1 c2
      refine AW.iload_n (pc := 10) dX5_and_10 rfl rfl ?_
      refine AW.iconst (v := 1) (pc := 11) dX5_and_11 (by decide) ?_
      refine AW.icmp_ne (pc := 12) (tgt := 24) dX5_and_12 (by decide) (fun c3 => ?_) (fun c3 => ?_)
      · have hw := hw.1 c3
        refine AW.iconst (v := 2) (pc := 24) dX5_and_24 (by decide) ?_
        exact AW.iret (pc := 25) dX5_and_25 rfl rfl (by omega) (by omega) (hQ _ _ hw)
      · have hw := hw.2 c3
        refine AW.iload_n (pc := 15) dX5_and_15 rfl rfl ?_
        refine AW.iconst (v := 1) (pc := 16) dX5_and_16 (by decide) ?_
        refine AW.icmp_ne (pc := 17) (tgt := 24) dX5_and_17 (by decide) (fun c4 => ?_) (fun c4 => ?_)
        · have hw := hw.1 c4
          refine AW.iconst (v := 2) (pc := 24) dX5_and_24 (by decide) ?_
          exact AW.iret (pc := 25) dX5_and_25 rfl rfl (by omega) (by omega) (hQ _ _ hw)
        · have hw := hw.2 c4
          refine AW.iconst (v := 1) (pc := 20) dX5_and_20 (by decide) ?_
          refine AW.goto (pc := 21) (tgt := 25) dX5_and_21 (by decide) ?_
          exact AW.iret (pc := 25) dX5_and_25 rfl rfl (by omega) (by omega) (hQ _ _ hw)
    · have hw := hw.2 c2
      refine AW.iconst (v := 0) (pc := 8) dX5_and_8 (by decide) ?_
      exact AW.iret (pc := 9) dX5_and_9 rfl rfl (by omega) (by omega) (hQ _ _ hw)
set_option maxRecDepth 100000 in
set_option maxHeartbeats 4000000 in
theorem c_M_and {d k t : Nat} {ex : Hp} {o : Nat → Int64} {K : Int32 → Mem → Prop} {m : Mem} {p0 : Int32} {p1 : Int32} (ht : tok t) (hd : 2 ≤ d) (hw : w_M_and p0 p1 m K) : AM mX5_and d [.int p0, .int p1] (lay t ex o m) k 0 0 (fun oc h' k' => k = k' ∧ ∃ (r : Int32) (m' : Mem), oc = .inl (some (.int r)) ∧ h' = lay t ex o m' ∧ K r m') :=
  AM.intro (μ := mX5_and) (n := 0) (by decide) rfl rfl rfl (b_M_and ht hd (by omega) (by omega) (fun _ _ hK => ⟨rfl, _, _, rfl, rfl, hK⟩) p0 p1 hw)
def w_M_isIn (p0 : Int32) (p1 : Int32) (p2 : Int32) (m : Mem) (K : Int32 → Mem → Prop) : Prop :=
  ((p0 < p1 → K (0 : Int32) m) ∧ (¬ (p0 < p1) → ((p2 < p0 → K (0 : Int32) m) ∧ (¬ (p2 < p0) → K (1 : Int32) m))))
set_option maxRecDepth 100000 in
set_option maxHeartbeats 4000000 in
theorem b_M_isIn {Z : Gz} {d k0 mc ms cs ss k t : Nat} {Q : Po} {ex : Hp} {o : Nat → Int64} {K : Int32 → Mem → Prop}  (ht : tok t) (hd : 2 ≤ d) (hcs : cs + 0 ≤ mc) (hss : ss + 0 ≤ ms) (hQ : ∀ (r : Int32) (m : Mem), K r m → Q (.inl (some (.int r))) (lay t ex o m) k) {m : Mem} (p0 : Int32) (p1 : Int32) (p2 : Int32) (hw : w_M_isIn p0 p1 p2 m K) : AW Z mX5_isIn d k0 mc ms Q 0 [.int p0, .int p1, .int p2] [] (lay t ex o m) k cs ss := by
  unfold w_M_isIn at hw
  refine AW.iload_n (pc := 0) dX5_isIn_0 rfl rfl ?_
  refine AW.iload_n (pc := 1) dX5_isIn_1 rfl rfl ?_
  refine AW.icmp_lt (pc := 2) (tgt := 14) dX5_isIn_2 (by decide) (fun c1 => ?_) (fun c1 => ?_)
  · have hw := hw.1 c1
    refine AW.iconst (v := 0) (pc := 14) dX5_isIn_14 (by decide) ?_
    exact AW.iret (pc := 15) dX5_isIn_15 rfl (by decide) (by omega) (by omega) (hQ _ _ hw)
  · have hw := hw.2 c1
    refine AW.iload_n (pc := 5) dX5_isIn_5 rfl rfl ?_
    refine AW.iload_n (pc := 6) dX5_isIn_6 rfl rfl ?_
    refine AW.icmp_gt (pc := 7) (tgt := 14) dX5_isIn_7 (by decide) (fun c2 => ?_) (fun c2 => ?_)
    · have hw := hw.1 c2
      refine AW.iconst (v := 0) (pc := 14) dX5_isIn_14 (by decide) ?_
      exact AW.iret (pc := 15) dX5_isIn_15 rfl (by decide) (by omega) (by omega) (hQ _ _ hw)
    · have hw := hw.2 c2
      refine AW.iconst (v := 1) (pc := 10) dX5_isIn_10 (by decide) ?_
      refine AW.goto (pc := 11) (tgt := 15) dX5_isIn_11 (by decide) ?_
      exact AW.iret (pc := 15) dX5_isIn_15 rfl (by decide) (by omega) (by omega) (hQ _ _ hw)
set_option maxRecDepth 100000 in
set_option maxHeartbeats 4000000 in
theorem c_M_isIn {d k t : Nat} {ex : Hp} {o : Nat → Int64} {K : Int32 → Mem → Prop} {m : Mem} {p0 : Int32} {p1 : Int32} {p2 : Int32} (ht : tok t) (hd : 2 ≤ d) (hw : w_M_isIn p0 p1 p2 m K) : AM mX5_isIn d [.int p0, .int p1, .int p2] (lay t ex o m) k 0 0 (fun oc h' k' => k = k' ∧ ∃ (r : Int32) (m' : Mem), oc = .inl (some (.int r)) ∧ h' = lay t ex o m' ∧ K r m') :=
  AM.intro (μ := mX5_isIn) (n := 0) (by decide) rfl rfl rfl (b_M_isIn ht hd (by omega) (by omega) (fun _ _ hK => ⟨rfl, _, _, rfl, rfl, hK⟩) p0 p1 p2 hw)
def w_M_isWire (p0 : Int32) (m : Mem) (K : Int32 → Mem → Prop) : Prop :=
  w_M_isIn p0 (0 : Int32) (23 : Int32) m (fun r2 m1 => narrow .boolean (.int r2) = .int r2 ∧ K r2 m1)
set_option maxRecDepth 100000 in
set_option maxHeartbeats 4000000 in
theorem b_M_isWire {Z : Gz} {d k0 mc ms cs ss k t : Nat} {Q : Po} {ex : Hp} {o : Nat → Int64} {K : Int32 → Mem → Prop}  (ht : tok t) (hd : 3 ≤ d) (hcs : cs + 0 ≤ mc) (hss : ss + 0 ≤ ms) (hQ : ∀ (r : Int32) (m : Mem), K r m → Q (.inl (some (.int r))) (lay t ex o m) k) {m : Mem} (p0 : Int32) (hw : w_M_isWire p0 m K) : AW Z mX5_isWire d k0 mc ms Q 0 [.int p0] [] (lay t ex o m) k cs ss := by
  unfold w_M_isWire at hw
  refine AW.iload_n (pc := 0) dX5_isWire_0 rfl rfl ?_
  refine AW.iconst (v := 0) (pc := 1) dX5_isWire_1 (by decide) ?_
  refine AW.bipush (v := 23) (pc := 2) dX5_isWire_2 (by decide) ?_
  refine AW.callS (pc := 4) (S' := []) dX5_isWire_4 (c_M_isIn (d := d - 1) ht (by omega) hw) ok_X5_isIn tw_859 tw_858 rfl (by omega) rfl (Nat.le_of_ble_eq_true rfl) (by omega) (by omega) ?_ (fun E h' k' hq => by obtain ⟨rfl, r2, m1, hv, -⟩ := hq; cases hv)
  intro v h' k' hq
  obtain ⟨rfl, r2, m1, hv, rfl, hw⟩ := hq
  cases hv
  show AW _ _ _ _ _ _ _ 7 [.int p0] [.int r2] (lay t ex o m1) k _ _
  obtain ⟨hin, hw⟩ := hw
  exact AW.iret (pc := 7) dX5_isWire_7 rfl hin (by omega) (by omega) (hQ _ _ hw)
set_option maxRecDepth 100000 in
set_option maxHeartbeats 4000000 in
theorem c_M_isWire {d k t : Nat} {ex : Hp} {o : Nat → Int64} {K : Int32 → Mem → Prop} {m : Mem} {p0 : Int32} (ht : tok t) (hd : 3 ≤ d) (hw : w_M_isWire p0 m K) : AM mX5_isWire d [.int p0] (lay t ex o m) k 0 0 (fun oc h' k' => k = k' ∧ ∃ (r : Int32) (m' : Mem), oc = .inl (some (.int r)) ∧ h' = lay t ex o m' ∧ K r m') :=
  AM.intro (μ := mX5_isWire) (n := 0) (by decide) rfl rfl rfl (b_M_isWire ht hd (by omega) (by omega) (fun _ _ hK => ⟨rfl, _, _, rfl, rfl, hK⟩) p0 hw)
def w_M_no (p1 : Int32) (m : Mem) (K : Int32 → Mem → Prop) : Prop :=
  ∀ m1 : Mem, m1 = up2 m 47 0 p1 → K (0 : Int32) m1
set_option maxRecDepth 100000 in
set_option maxHeartbeats 4000000 in
theorem b_M_no {Z : Gz} {d k0 mc ms cs ss k t : Nat} {Q : Po} {ex : Hp} {o : Nat → Int64} {K : Int32 → Mem → Prop}  (ht : tok t) (hd : 2 ≤ d) (hcs : cs + 0 ≤ mc) (hss : ss + 0 ≤ ms) (hQ : ∀ (r : Int32) (m : Mem), K r m → Q (.inl (some (.int r))) (lay t ex o m) k) {m : Mem} (p1 : Int32) (hw : w_M_no p1 m K) : AW Z mX5_no d k0 mc ms Q 0 [.ref 47, .int p1] [] (lay t ex o m) k cs ss := by
  unfold w_M_no at hw
  refine AW.aload_n (pc := 0) dX5_no_0 rfl rfl ?_
  refine AW.iload_n (pc := 1) dX5_no_1 rfl rfl ?_
  have hw := hw _ rfl
  refine LW.put (pc := 2) (f := 0) (ci := 5) (T := TX5) ht (by decide) rfl sp_47_0 dX5_no_2 tw_798 rfl (by decide) (Nat.le_of_ble_eq_true rfl) rfl ⟨rfl, rfl⟩ ?_
  generalize up2 m 47 0 p1 = m1 at hw ⊢
  refine AW.iconst (v := 0) (pc := 5) dX5_no_5 (by decide) ?_
  exact AW.iret (pc := 6) dX5_no_6 rfl rfl (by omega) (by omega) (hQ _ _ hw)
set_option maxRecDepth 100000 in
set_option maxHeartbeats 4000000 in
theorem c_M_no {d k t : Nat} {ex : Hp} {o : Nat → Int64} {K : Int32 → Mem → Prop} {m : Mem} {p1 : Int32} (ht : tok t) (hd : 2 ≤ d) (hw : w_M_no p1 m K) : AM mX5_no d [.ref 47, .int p1] (lay t ex o m) k 0 0 (fun oc h' k' => k = k' ∧ ∃ (r : Int32) (m' : Mem), oc = .inl (some (.int r)) ∧ h' = lay t ex o m' ∧ K r m') :=
  AM.intro (μ := mX5_no) (n := 0) (by decide) rfl rfl rfl (b_M_no ht hd (by omega) (by omega) (fun _ _ hK => ⟨rfl, _, _, rfl, rfl, hK⟩) p1 hw)
def w_M_pend (p1 : Int32) (p2 : Int32) (m : Mem) (K : Mem → Prop) : Prop :=
  vp_in ((102 : Int32) + p1) 342 ∧ ∀ m1 : Mem, m1 = up2 m 60 (((102 : Int32) + p1).toNatClampNeg) p2 → vp_in p1 30 ∧ vp_in ((132 : Int32) + p1) 342 ∧ ∀ m2 : Mem, m2 = up2 m1 60 (((132 : Int32) + p1).toNatClampNeg) ((m1 60 0) + (m1 53 (p1).toNatClampNeg)) → ∀ m3 : Mem, m3 = up2 m2 60 (4) ((m2 60 4) + (1 : Int32)) → vp_in ((162 : Int32) + p1) 342 ∧ ∀ m4 : Mem, m4 = up2 m3 60 (((162 : Int32) + p1).toNatClampNeg) (m2 60 4) → K m4
set_option maxRecDepth 100000 in
set_option maxHeartbeats 4000000 in
theorem b_M_pend {Z : Gz} {d k0 mc ms cs ss k t : Nat} {Q : Po} {ex : Hp} {o : Nat → Int64} {K : Mem → Prop}  (ht : tok t) (hd : 2 ≤ d) (hcs : cs + 0 ≤ mc) (hss : ss + 0 ≤ ms) (hQ : ∀ (m : Mem), K m → Q (.inl none) (lay t ex o m) k) {m : Mem} (p1 : Int32) (p2 : Int32) (hw : w_M_pend p1 p2 m K) : AW Z mX5_pend d k0 mc ms Q 0 [.ref 47, .int p1, .int p2] [] (lay t ex o m) k cs ss := by
  unfold w_M_pend at hw
  refine AW.aload_n (pc := 0) dX5_pend_0 rfl rfl ?_
  refine LW.get (pc := 1) (f := 10) (ci := 5) (T := TX5) ht (by decide) rfl dX5_pend_1 tw_808 rfl (by decide) rfl ?_
  refine AW.bipush (v := 102) (pc := 4) dX5_pend_4 (by decide) ?_
  refine AW.iload_n (pc := 6) dX5_pend_6 rfl rfl ?_
  refine AW.iadd (pc := 7) dX5_pend_7 ?_
  refine AW.iload_n (pc := 8) dX5_pend_8 rfl rfl ?_
  obtain ⟨hin, hw⟩ := hw
  have hw := hw _ rfl
  refine LW.iastt (pc := 9) (j := ((102 : Int32) + p1).toNatClampNeg) ht dX5_pend_9 hin rfl ?_
  generalize up2 m 60 (((102 : Int32) + p1).toNatClampNeg) p2 = m1 at hw ⊢
  refine AW.aload_n (pc := 10) dX5_pend_10 rfl rfl ?_
  refine LW.get (pc := 11) (f := 10) (ci := 5) (T := TX5) ht (by decide) rfl dX5_pend_11 tw_808 rfl (by decide) rfl ?_
  refine AW.sipush (v := 132) (pc := 14) dX5_pend_14 (by decide) ?_
  refine AW.iload_n (pc := 17) dX5_pend_17 rfl rfl ?_
  refine AW.iadd (pc := 18) dX5_pend_18 ?_
  refine AW.aload_n (pc := 19) dX5_pend_19 rfl rfl ?_
  refine LW.get (pc := 20) (f := 10) (ci := 5) (T := TX5) ht (by decide) rfl dX5_pend_20 tw_808 rfl (by decide) rfl ?_
  refine AW.iconst (v := 0) (pc := 23) dX5_pend_23 (by decide) ?_
  refine LW.ialdt (pc := 24) (j := 0) ht dX5_pend_24 (vp_lit (by decide)) (by decide) ?_
  refine AW.aload_n (pc := 25) dX5_pend_25 rfl rfl ?_
  refine LW.get (pc := 26) (f := 7) (ci := 5) (T := TX5) ht (by decide) rfl dX5_pend_26 tw_805 rfl (by decide) rfl ?_
  refine AW.iload_n (pc := 29) dX5_pend_29 rfl rfl ?_
  obtain ⟨hin, hw⟩ := hw
  refine LW.iald (pc := 30) (j := p1.toNatClampNeg) ht (by decide) rfl dX5_pend_30 hin rfl ?_
  refine AW.iadd (pc := 31) dX5_pend_31 ?_
  obtain ⟨hin, hw⟩ := hw
  have hw := hw _ rfl
  refine LW.iastt (pc := 32) (j := ((132 : Int32) + p1).toNatClampNeg) ht dX5_pend_32 hin rfl ?_
  generalize up2 m1 60 (((132 : Int32) + p1).toNatClampNeg) ((m1 60 0) + (m1 53 (p1).toNatClampNeg)) = m2 at hw ⊢
  refine AW.aload_n (pc := 33) dX5_pend_33 rfl rfl ?_
  refine LW.get (pc := 34) (f := 10) (ci := 5) (T := TX5) ht (by decide) rfl dX5_pend_34 tw_808 rfl (by decide) rfl ?_
  refine AW.sipush (v := 162) (pc := 37) dX5_pend_37 (by decide) ?_
  refine AW.iload_n (pc := 40) dX5_pend_40 rfl rfl ?_
  refine AW.iadd (pc := 41) dX5_pend_41 ?_
  refine AW.aload_n (pc := 42) dX5_pend_42 rfl rfl ?_
  refine LW.get (pc := 43) (f := 10) (ci := 5) (T := TX5) ht (by decide) rfl dX5_pend_43 tw_808 rfl (by decide) rfl ?_
  refine AW.iconst (v := 4) (pc := 46) dX5_pend_46 (by decide) ?_
  refine AW.dup2 (pc := 47) dX5_pend_47 rfl rfl ?_
  refine LW.ialdt (pc := 48) (j := 4) ht dX5_pend_48 (vp_lit (by decide)) (by decide) ?_
  refine AW.dup_x2 (pc := 49) dX5_pend_49 rfl rfl rfl ?_
  refine AW.iconst (v := 1) (pc := 50) dX5_pend_50 (by decide) ?_
  refine AW.iadd (pc := 51) dX5_pend_51 ?_
  have hw := hw _ rfl
  refine LW.iastt (pc := 52) (j := 4) ht dX5_pend_52 (vp_lit (by decide)) (by decide) ?_
  generalize up2 m2 60 (4) ((m2 60 4) + (1 : Int32)) = m3 at hw ⊢
  obtain ⟨hin, hw⟩ := hw
  have hw := hw _ rfl
  refine LW.iastt (pc := 53) (j := ((162 : Int32) + p1).toNatClampNeg) ht dX5_pend_53 hin rfl ?_
  generalize up2 m3 60 (((162 : Int32) + p1).toNatClampNeg) (m2 60 4) = m4 at hw ⊢
  exact AW.vret (pc := 54) dX5_pend_54 rfl (by omega) (by omega) (hQ _ hw)
set_option maxRecDepth 100000 in
set_option maxHeartbeats 4000000 in
theorem c_M_pend {d k t : Nat} {ex : Hp} {o : Nat → Int64} {K : Mem → Prop} {m : Mem} {p1 : Int32} {p2 : Int32} (ht : tok t) (hd : 2 ≤ d) (hw : w_M_pend p1 p2 m K) : AM mX5_pend d [.ref 47, .int p1, .int p2] (lay t ex o m) k 0 0 (fun oc h' k' => k = k' ∧ ∃ (m' : Mem), oc = .inl none ∧ h' = lay t ex o m' ∧ K m') :=
  AM.intro (μ := mX5_pend) (n := 0) (by decide) rfl rfl rfl (b_M_pend ht hd (by omega) (by omega) (fun _ hK => ⟨rfl, _, rfl, rfl, hK⟩) p1 p2 hw)
def w_M_not (p0 : Int32) (m : Mem) (K : Int32 → Mem → Prop) : Prop :=
  ((¬ (p0 = (2 : Int32)) → K ((1 : Int32) - p0) m) ∧ (p0 = (2 : Int32) → K (2 : Int32) m))
set_option maxRecDepth 100000 in
set_option maxHeartbeats 4000000 in
theorem b_M_not {Z : Gz} {d k0 mc ms cs ss k t : Nat} {Q : Po} {ex : Hp} {o : Nat → Int64} {K : Int32 → Mem → Prop}  (ht : tok t) (hd : 2 ≤ d) (hcs : cs + 0 ≤ mc) (hss : ss + 0 ≤ ms) (hQ : ∀ (r : Int32) (m : Mem), K r m → Q (.inl (some (.int r))) (lay t ex o m) k) {m : Mem} (p0 : Int32) (hw : w_M_not p0 m K) : AW Z mX5_not d k0 mc ms Q 0 [.int p0] [] (lay t ex o m) k cs ss := by
  unfold w_M_not at hw
  refine AW.iload_n (pc := 0) dX5_not_0 rfl rfl ?_
  refine AW.iconst (v := 2) (pc := 1) dX5_not_1 (by decide) ?_
  refine AW.icmp_ne (pc := 2) (tgt := 9) dX5_not_2 (by decide) (fun c1 => ?_) (fun c1 => ?_)
  · have hw := hw.1 c1
    refine AW.iconst (v := 1) (pc := 9) dX5_not_9 (by decide) ?_
    refine AW.iload_n (pc := 10) dX5_not_10 rfl rfl ?_
    refine AW.isub (pc := 11) dX5_not_11 ?_
    exact AW.iret (pc := 12) dX5_not_12 rfl rfl (by omega) (by omega) (hQ _ _ hw)
  · have hw := hw.2 c1
    refine AW.iconst (v := 2) (pc := 5) dX5_not_5 (by decide) ?_
    refine AW.goto (pc := 6) (tgt := 12) dX5_not_6 (by decide) ?_
    exact AW.iret (pc := 12) dX5_not_12 rfl rfl (by omega) (by omega) (hQ _ _ hw)
set_option maxRecDepth 100000 in
set_option maxHeartbeats 4000000 in
theorem c_M_not {d k t : Nat} {ex : Hp} {o : Nat → Int64} {K : Int32 → Mem → Prop} {m : Mem} {p0 : Int32} (ht : tok t) (hd : 2 ≤ d) (hw : w_M_not p0 m K) : AM mX5_not d [.int p0] (lay t ex o m) k 0 0 (fun oc h' k' => k = k' ∧ ∃ (r : Int32) (m' : Mem), oc = .inl (some (.int r)) ∧ h' = lay t ex o m' ∧ K r m') :=
  AM.intro (μ := mX5_not) (n := 0) (by decide) rfl rfl rfl (b_M_not ht hd (by omega) (by omega) (fun _ _ hK => ⟨rfl, _, _, rfl, rfl, hK⟩) p0 hw)
def w_M_valueOf (p1 : Int32) (m : Mem) (K : Int32 → Mem → Prop) : Prop :=
  vp_in ((6 : Int32) + p1) 342 ∧ K (m 60 ((6 : Int32) + p1).toNatClampNeg) m
set_option maxRecDepth 100000 in
set_option maxHeartbeats 4000000 in
theorem b_M_valueOf {Z : Gz} {d k0 mc ms cs ss k t : Nat} {Q : Po} {ex : Hp} {o : Nat → Int64} {K : Int32 → Mem → Prop}  (ht : tok t) (hd : 2 ≤ d) (hcs : cs + 0 ≤ mc) (hss : ss + 0 ≤ ms) (hQ : ∀ (r : Int32) (m : Mem), K r m → Q (.inl (some (.int r))) (lay t ex o m) k) {m : Mem} (p1 : Int32) (hw : w_M_valueOf p1 m K) : AW Z mX5_valueOf d k0 mc ms Q 0 [.ref 47, .int p1] [] (lay t ex o m) k cs ss := by
  unfold w_M_valueOf at hw
  refine AW.aload_n (pc := 0) dX5_valueOf_0 rfl rfl ?_
  refine LW.get (pc := 1) (f := 10) (ci := 5) (T := TX5) ht (by decide) rfl dX5_valueOf_1 tw_808 rfl (by decide) rfl ?_
  refine AW.bipush (v := 6) (pc := 4) dX5_valueOf_4 (by decide) ?_
  refine AW.iload_n (pc := 6) dX5_valueOf_6 rfl rfl ?_
  refine AW.iadd (pc := 7) dX5_valueOf_7 ?_
  obtain ⟨hin, hw⟩ := hw
  refine LW.ialdt (pc := 8) (j := ((6 : Int32) + p1).toNatClampNeg) ht dX5_valueOf_8 hin rfl ?_
  exact AW.iret (pc := 9) dX5_valueOf_9 rfl rfl (by omega) (by omega) (hQ _ _ hw)
set_option maxRecDepth 100000 in
set_option maxHeartbeats 4000000 in
theorem c_M_valueOf {d k t : Nat} {ex : Hp} {o : Nat → Int64} {K : Int32 → Mem → Prop} {m : Mem} {p1 : Int32} (ht : tok t) (hd : 2 ≤ d) (hw : w_M_valueOf p1 m K) : AM mX5_valueOf d [.ref 47, .int p1] (lay t ex o m) k 0 0 (fun oc h' k' => k = k' ∧ ∃ (r : Int32) (m' : Mem), oc = .inl (some (.int r)) ∧ h' = lay t ex o m' ∧ K r m') :=
  AM.intro (μ := mX5_valueOf) (n := 0) (by decide) rfl rfl rfl (b_M_valueOf ht hd (by omega) (by omega) (fun _ _ hK => ⟨rfl, _, _, rfl, rfl, hK⟩) p1 hw)
def w_M_reckon (p1 : Int32) (m : Mem) (K : Int32 → Mem → Prop) : Prop :=
  vp_in p1 30 ∧ w_M_valueOf (m 50 (p1).toNatClampNeg) m (fun r2 m1 => vp_in p1 30 ∧ (∀ J5 : Int32 → Mem → Prop, (∀ (v3 : Int32) (m4 : Mem), (vp_in p1 30 ∧ (((m4 48 (p1).toNatClampNeg) = 0 → w_M_not r2 m4 (fun r10 m9 => K r10 m9)) ∧ ((m4 48 (p1).toNatClampNeg) = 1 → K r2 m4) ∧ ((m4 48 (p1).toNatClampNeg) = 2 → w_M_and r2 v3 m4 (fun r12 m11 => K r12 m11)) ∧ ((m4 48 (p1).toNatClampNeg) = 3 → w_M_not r2 m4 (fun r14 m13 => w_M_not v3 m13 (fun r16 m15 => w_M_and r14 r16 m15 (fun r18 m17 => w_M_not r18 m17 (fun r20 m19 => K r20 m19))))) ∧ ((m4 48 (p1).toNatClampNeg) = 4 → ((r2 = (2 : Int32) → K (2 : Int32) m4) ∧ (¬ (r2 = (2 : Int32)) → ((¬ (v3 = (2 : Int32)) → ((¬ (r2 = v3) → K (1 : Int32) m4) ∧ (r2 = v3 → K (0 : Int32) m4))) ∧ (v3 = (2 : Int32) → K (2 : Int32) m4))))) ∧ ((m4 48 (p1).toNatClampNeg) = 5 → w_M_and r2 v3 m4 (fun r25 m24 => w_M_not r25 m24 (fun r27 m26 => K r27 m26))) ∧ ((m4 48 (p1).toNatClampNeg) = 6 → w_M_not r2 m4 (fun r29 m28 => w_M_not v3 m28 (fun r31 m30 => w_M_and r29 r31 m30 (fun r33 m32 => K r33 m32)))) ∧ (¬ (m4 48 (p1).toNatClampNeg) = 0 → ¬ (m4 48 (p1).toNatClampNeg) = 1 → ¬ (m4 48 (p1).toNatClampNeg) = 2 → ¬ (m4 48 (p1).toNatClampNeg) = 3 → ¬ (m4 48 (p1).toNatClampNeg) = 4 → ¬ (m4 48 (p1).toNatClampNeg) = 5 → ¬ (m4 48 (p1).toNatClampNeg) = 6 → ((¬ (r2 = (1 : Int32)) → (∀ J36 : Mem → Prop, (∀  (m35 : Mem), (vp_in p1 30 ∧ w_M_valueOf (m35 52 (p1).toNatClampNeg) m35 (fun r42 m41 => K r42 m41)) → J36 m35) → ((r2 = 0 → J36  m4) ∧ (¬ (r2 = 0) → vp_in p1 30 ∧ w_M_valueOf (m4 52 (p1).toNatClampNeg) m4 (fun r39 m38 => ((¬ (v3 = r39) → K (2 : Int32) m38) ∧ (v3 = r39 → J36  m38))))))) ∧ (r2 = (1 : Int32) → K v3 m4))))) → J5 v3 m4) → ((¬ ((m1 51 (p1).toNatClampNeg) = (-1 : Int32)) → vp_in p1 30 ∧ w_M_valueOf (m1 51 (p1).toNatClampNeg) m1 (fun r8 m7 => J5 r8 m7)) ∧ ((m1 51 (p1).toNatClampNeg) = (-1 : Int32) → J5 (0 : Int32) m1))))
set_option maxRecDepth 100000 in
set_option maxHeartbeats 4000000 in
theorem b_M_reckon {Z : Gz} {d k0 mc ms cs ss k t : Nat} {Q : Po} {ex : Hp} {o : Nat → Int64} {K : Int32 → Mem → Prop}  (ht : tok t) (hd : 3 ≤ d) (hcs : cs + 0 ≤ mc) (hss : ss + 0 ≤ ms) (hQ : ∀ (r : Int32) (m : Mem), K r m → Q (.inl (some (.int r))) (lay t ex o m) k) {m : Mem} (p1 : Int32) (hw : w_M_reckon p1 m K) : AW Z mX5_reckon d k0 mc ms Q 0 [.ref 47, .int p1, .null, .null] [] (lay t ex o m) k cs ss := by
  unfold w_M_reckon at hw
  refine AW.aload_n (pc := 0) dX5_reckon_0 rfl rfl ?_
  refine AW.aload_n (pc := 1) dX5_reckon_1 rfl rfl ?_
  refine LW.get (pc := 2) (f := 4) (ci := 5) (T := TX5) ht (by decide) rfl dX5_reckon_2 tw_802 rfl (by decide) rfl ?_
  refine AW.iload_n (pc := 5) dX5_reckon_5 rfl rfl ?_
  obtain ⟨hin, hw⟩ := hw
  refine LW.iald (pc := 6) (j := p1.toNatClampNeg) ht (by decide) rfl dX5_reckon_6 hin rfl ?_
  refine AW.callV (pc := 7) (S' := []) dX5_reckon_7 (c_M_valueOf (d := d - 1) ht (by omega) hw) ok_X5_valueOf tw_990 ts_50 tw_988 (fix_pos (by decide)) (lay_at ht (by decide)) (show aw_cl[5]? = some _ from rfl) rfl rfl (by omega) rfl (Nat.le_of_ble_eq_true rfl) (by omega) (by omega) ?_ (fun E h' k' hq => by obtain ⟨rfl, r2, m1, hv, -⟩ := hq; cases hv)
  intro v h' k' hq
  obtain ⟨rfl, r2, m1, hv, rfl, hw⟩ := hq
  cases hv
  show AW _ _ _ _ _ _ _ 10 [.ref 47, .int p1, .null, .null] [.int r2] (lay t ex o m1) k _ _
  refine AW.istore_n (L' := [.ref 47, .int p1, .int r2, .null]) (pc := 10) dX5_reckon_10 rfl (by decide) rfl rfl ?_
  refine AW.aload_n (pc := 11) dX5_reckon_11 rfl rfl ?_
  refine LW.get (pc := 12) (f := 5) (ci := 5) (T := TX5) ht (by decide) rfl dX5_reckon_12 tw_803 rfl (by decide) rfl ?_
  refine AW.iload_n (pc := 15) dX5_reckon_15 rfl rfl ?_
  obtain ⟨hin, hw⟩ := hw
  refine LW.iald (pc := 16) (j := p1.toNatClampNeg) ht (by decide) rfl dX5_reckon_16 hin rfl ?_
  refine AW.iconst (v := -1) (pc := 17) dX5_reckon_17 (by decide) ?_
  have hw := hw (fun v3 m4 => AW Z mX5_reckon d k0 mc ms Q 35 [.ref 47, .int p1, .int r2, .null] [.int v3] (lay t ex o m4) k (cs) (ss)) (by
      intro v3 m4 hw
      refine AW.istore_n (L' := [.ref 47, .int p1, .int r2, .int v3]) (pc := 35) dX5_reckon_35 rfl (by decide) rfl rfl ?_
      refine AW.aload_n (pc := 36) dX5_reckon_36 rfl rfl ?_
      refine LW.get (pc := 37) (f := 2) (ci := 5) (T := TX5) ht (by decide) rfl dX5_reckon_37 tw_800 rfl (by decide) rfl ?_
      refine AW.iload_n (pc := 40) dX5_reckon_40 rfl rfl ?_
      obtain ⟨hin, hw⟩ := hw
      refine LW.iald (pc := 41) (j := p1.toNatClampNeg) ht (by decide) rfl dX5_reckon_41 hin rfl ?_
      by_cases s0 : (m4 48 (p1).toNatClampNeg) = 0
      · have hw := hw.1 s0
        refine AW.tableIn (pc := 42) (tgt := 84) dX5_reckon_42 (by rw [s0]; decide) (by rw [s0]; decide) (off := 42) (by rw [s0]; decide) (by decide) ?_
        refine AW.iload_n (pc := 84) dX5_reckon_84 rfl rfl ?_
        refine AW.callS (pc := 85) (S' := []) dX5_reckon_85 (c_M_not (d := d - 1) ht (by omega) hw) ok_X5_not tw_1001 tw_1000 rfl (by omega) rfl (Nat.le_of_ble_eq_true rfl) (by omega) (by omega) ?_ (fun E h' k' hq => by obtain ⟨rfl, r10, m9, hv, -⟩ := hq; cases hv)
        intro v h' k' hq
        obtain ⟨rfl, r10, m9, hv, rfl, hw⟩ := hq
        cases hv
        show AW _ _ _ _ _ _ _ 88 [.ref 47, .int p1, .int r2, .int v3] [.int r10] (lay t ex o m9) k _ _
        exact AW.iret (pc := 88) dX5_reckon_88 rfl rfl (by omega) (by omega) (hQ _ _ hw)
      by_cases s1 : (m4 48 (p1).toNatClampNeg) = 1
      · have hw := hw.2.1 s1
        refine AW.tableIn (pc := 42) (tgt := 89) dX5_reckon_42 (by rw [s1]; decide) (by rw [s1]; decide) (off := 47) (by rw [s1]; decide) (by decide) ?_
        refine AW.iload_n (pc := 89) dX5_reckon_89 rfl rfl ?_
        exact AW.iret (pc := 90) dX5_reckon_90 rfl rfl (by omega) (by omega) (hQ _ _ hw)
      by_cases s2 : (m4 48 (p1).toNatClampNeg) = 2
      · have hw := hw.2.2.1 s2
        refine AW.tableIn (pc := 42) (tgt := 91) dX5_reckon_42 (by rw [s2]; decide) (by rw [s2]; decide) (off := 49) (by rw [s2]; decide) (by decide) ?_
        refine AW.iload_n (pc := 91) dX5_reckon_91 rfl rfl ?_
        refine AW.iload_n (pc := 92) dX5_reckon_92 rfl rfl ?_
        refine AW.callS (pc := 93) (S' := []) dX5_reckon_93 (c_M_and (d := d - 1) ht (by omega) hw) ok_X5_and tw_1004 tw_1003 rfl (by omega) rfl (Nat.le_of_ble_eq_true rfl) (by omega) (by omega) ?_ (fun E h' k' hq => by obtain ⟨rfl, r12, m11, hv, -⟩ := hq; cases hv)
        intro v h' k' hq
        obtain ⟨rfl, r12, m11, hv, rfl, hw⟩ := hq
        cases hv
        show AW _ _ _ _ _ _ _ 96 [.ref 47, .int p1, .int r2, .int v3] [.int r12] (lay t ex o m11) k _ _
        exact AW.iret (pc := 96) dX5_reckon_96 rfl rfl (by omega) (by omega) (hQ _ _ hw)
      by_cases s3 : (m4 48 (p1).toNatClampNeg) = 3
      · have hw := hw.2.2.2.1 s3
        refine AW.tableIn (pc := 42) (tgt := 97) dX5_reckon_42 (by rw [s3]; decide) (by rw [s3]; decide) (off := 55) (by rw [s3]; decide) (by decide) ?_
        refine AW.iload_n (pc := 97) dX5_reckon_97 rfl rfl ?_
        refine AW.callS (pc := 98) (S' := []) dX5_reckon_98 (c_M_not (d := d - 1) ht (by omega) hw) ok_X5_not tw_1001 tw_1000 rfl (by omega) rfl (Nat.le_of_ble_eq_true rfl) (by omega) (by omega) ?_ (fun E h' k' hq => by obtain ⟨rfl, r14, m13, hv, -⟩ := hq; cases hv)
        intro v h' k' hq
        obtain ⟨rfl, r14, m13, hv, rfl, hw⟩ := hq
        cases hv
        show AW _ _ _ _ _ _ _ 101 [.ref 47, .int p1, .int r2, .int v3] [.int r14] (lay t ex o m13) k _ _
        refine AW.iload_n (pc := 101) dX5_reckon_101 rfl rfl ?_
        refine AW.callS (pc := 102) (S' := [.int r14]) dX5_reckon_102 (c_M_not (d := d - 1) ht (by omega) hw) ok_X5_not tw_1001 tw_1000 rfl (by omega) rfl (Nat.le_of_ble_eq_true rfl) (by omega) (by omega) ?_ (fun E h' k' hq => by obtain ⟨rfl, r16, m15, hv, -⟩ := hq; cases hv)
        intro v h' k' hq
        obtain ⟨rfl, r16, m15, hv, rfl, hw⟩ := hq
        cases hv
        show AW _ _ _ _ _ _ _ 105 [.ref 47, .int p1, .int r2, .int v3] [.int r16, .int r14] (lay t ex o m15) k _ _
        refine AW.callS (pc := 105) (S' := []) dX5_reckon_105 (c_M_and (d := d - 1) ht (by omega) hw) ok_X5_and tw_1004 tw_1003 rfl (by omega) rfl (Nat.le_of_ble_eq_true rfl) (by omega) (by omega) ?_ (fun E h' k' hq => by obtain ⟨rfl, r18, m17, hv, -⟩ := hq; cases hv)
        intro v h' k' hq
        obtain ⟨rfl, r18, m17, hv, rfl, hw⟩ := hq
        cases hv
        show AW _ _ _ _ _ _ _ 108 [.ref 47, .int p1, .int r2, .int v3] [.int r18] (lay t ex o m17) k _ _
        refine AW.callS (pc := 108) (S' := []) dX5_reckon_108 (c_M_not (d := d - 1) ht (by omega) hw) ok_X5_not tw_1001 tw_1000 rfl (by omega) rfl (Nat.le_of_ble_eq_true rfl) (by omega) (by omega) ?_ (fun E h' k' hq => by obtain ⟨rfl, r20, m19, hv, -⟩ := hq; cases hv)
        intro v h' k' hq
        obtain ⟨rfl, r20, m19, hv, rfl, hw⟩ := hq
        cases hv
        show AW _ _ _ _ _ _ _ 111 [.ref 47, .int p1, .int r2, .int v3] [.int r20] (lay t ex o m19) k _ _
        exact AW.iret (pc := 111) dX5_reckon_111 rfl rfl (by omega) (by omega) (hQ _ _ hw)
      by_cases s4 : (m4 48 (p1).toNatClampNeg) = 4
      · have hw := hw.2.2.2.2.1 s4
        refine AW.tableIn (pc := 42) (tgt := 112) dX5_reckon_42 (by rw [s4]; decide) (by rw [s4]; decide) (off := 70) (by rw [s4]; decide) (by decide) ?_
        refine AW.iload_n (pc := 112) dX5_reckon_112 rfl rfl ?_
        refine AW.iconst (v := 2) (pc := 113) dX5_reckon_113 (by decide) ?_
        refine AW.icmp_eq (pc := 114) (tgt := 122) dX5_reckon_114 (by decide) (fun c21 => ?_) (fun c21 => ?_)
        · have hw := hw.1 c21
          refine AW.iconst (v := 2) (pc := 122) dX5_reckon_122 (by decide) ?_
          refine AW.goto (pc := 123) (tgt := 136) dX5_reckon_123 (by decide) ?_
          exact AW.iret (pc := 136) dX5_reckon_136 rfl rfl (by omega) (by omega) (hQ _ _ hw)
        · have hw := hw.2 c21
          refine AW.iload_n (pc := 117) dX5_reckon_117 rfl rfl ?_
          refine AW.iconst (v := 2) (pc := 118) dX5_reckon_118 (by decide) ?_
          refine AW.icmp_ne (pc := 119) (tgt := 126) dX5_reckon_119 (by decide) (fun c22 => ?_) (fun c22 => ?_)
          · have hw := hw.1 c22
            refine AW.iload_n (pc := 126) dX5_reckon_126 rfl rfl ?_
            refine AW.iload_n (pc := 127) dX5_reckon_127 rfl rfl ?_
            refine AW.icmp_ne (pc := 128) (tgt := 135) dX5_reckon_128 (by decide) (fun c23 => ?_) (fun c23 => ?_)
            · have hw := hw.1 c23
              refine AW.iconst (v := 1) (pc := 135) dX5_reckon_135 (by decide) ?_
              exact AW.iret (pc := 136) dX5_reckon_136 rfl rfl (by omega) (by omega) (hQ _ _ hw)
            · have hw := hw.2 c23
              refine AW.iconst (v := 0) (pc := 131) dX5_reckon_131 (by decide) ?_
              refine AW.goto (pc := 132) (tgt := 136) dX5_reckon_132 (by decide) ?_
              exact AW.iret (pc := 136) dX5_reckon_136 rfl rfl (by omega) (by omega) (hQ _ _ hw)
          · have hw := hw.2 c22
            refine AW.iconst (v := 2) (pc := 122) dX5_reckon_122 (by decide) ?_
            refine AW.goto (pc := 123) (tgt := 136) dX5_reckon_123 (by decide) ?_
            exact AW.iret (pc := 136) dX5_reckon_136 rfl rfl (by omega) (by omega) (hQ _ _ hw)
      by_cases s5 : (m4 48 (p1).toNatClampNeg) = 5
      · have hw := hw.2.2.2.2.2.1 s5
        refine AW.tableIn (pc := 42) (tgt := 137) dX5_reckon_42 (by rw [s5]; decide) (by rw [s5]; decide) (off := 95) (by rw [s5]; decide) (by decide) ?_
        refine AW.iload_n (pc := 137) dX5_reckon_137 rfl rfl ?_
        refine AW.iload_n (pc := 138) dX5_reckon_138 rfl rfl ?_
        refine AW.callS (pc := 139) (S' := []) dX5_reckon_139 (c_M_and (d := d - 1) ht (by omega) hw) ok_X5_and tw_1004 tw_1003 rfl (by omega) rfl (Nat.le_of_ble_eq_true rfl) (by omega) (by omega) ?_ (fun E h' k' hq => by obtain ⟨rfl, r25, m24, hv, -⟩ := hq; cases hv)
        intro v h' k' hq
        obtain ⟨rfl, r25, m24, hv, rfl, hw⟩ := hq
        cases hv
        show AW _ _ _ _ _ _ _ 142 [.ref 47, .int p1, .int r2, .int v3] [.int r25] (lay t ex o m24) k _ _
        refine AW.callS (pc := 142) (S' := []) dX5_reckon_142 (c_M_not (d := d - 1) ht (by omega) hw) ok_X5_not tw_1001 tw_1000 rfl (by omega) rfl (Nat.le_of_ble_eq_true rfl) (by omega) (by omega) ?_ (fun E h' k' hq => by obtain ⟨rfl, r27, m26, hv, -⟩ := hq; cases hv)
        intro v h' k' hq
        obtain ⟨rfl, r27, m26, hv, rfl, hw⟩ := hq
        cases hv
        show AW _ _ _ _ _ _ _ 145 [.ref 47, .int p1, .int r2, .int v3] [.int r27] (lay t ex o m26) k _ _
        exact AW.iret (pc := 145) dX5_reckon_145 rfl rfl (by omega) (by omega) (hQ _ _ hw)
      by_cases s6 : (m4 48 (p1).toNatClampNeg) = 6
      · have hw := hw.2.2.2.2.2.2.1 s6
        refine AW.tableIn (pc := 42) (tgt := 146) dX5_reckon_42 (by rw [s6]; decide) (by rw [s6]; decide) (off := 104) (by rw [s6]; decide) (by decide) ?_
        refine AW.iload_n (pc := 146) dX5_reckon_146 rfl rfl ?_
        refine AW.callS (pc := 147) (S' := []) dX5_reckon_147 (c_M_not (d := d - 1) ht (by omega) hw) ok_X5_not tw_1001 tw_1000 rfl (by omega) rfl (Nat.le_of_ble_eq_true rfl) (by omega) (by omega) ?_ (fun E h' k' hq => by obtain ⟨rfl, r29, m28, hv, -⟩ := hq; cases hv)
        intro v h' k' hq
        obtain ⟨rfl, r29, m28, hv, rfl, hw⟩ := hq
        cases hv
        show AW _ _ _ _ _ _ _ 150 [.ref 47, .int p1, .int r2, .int v3] [.int r29] (lay t ex o m28) k _ _
        refine AW.iload_n (pc := 150) dX5_reckon_150 rfl rfl ?_
        refine AW.callS (pc := 151) (S' := [.int r29]) dX5_reckon_151 (c_M_not (d := d - 1) ht (by omega) hw) ok_X5_not tw_1001 tw_1000 rfl (by omega) rfl (Nat.le_of_ble_eq_true rfl) (by omega) (by omega) ?_ (fun E h' k' hq => by obtain ⟨rfl, r31, m30, hv, -⟩ := hq; cases hv)
        intro v h' k' hq
        obtain ⟨rfl, r31, m30, hv, rfl, hw⟩ := hq
        cases hv
        show AW _ _ _ _ _ _ _ 154 [.ref 47, .int p1, .int r2, .int v3] [.int r31, .int r29] (lay t ex o m30) k _ _
        refine AW.callS (pc := 154) (S' := []) dX5_reckon_154 (c_M_and (d := d - 1) ht (by omega) hw) ok_X5_and tw_1004 tw_1003 rfl (by omega) rfl (Nat.le_of_ble_eq_true rfl) (by omega) (by omega) ?_ (fun E h' k' hq => by obtain ⟨rfl, r33, m32, hv, -⟩ := hq; cases hv)
        intro v h' k' hq
        obtain ⟨rfl, r33, m32, hv, rfl, hw⟩ := hq
        cases hv
        show AW _ _ _ _ _ _ _ 157 [.ref 47, .int p1, .int r2, .int v3] [.int r33] (lay t ex o m32) k _ _
        exact AW.iret (pc := 157) dX5_reckon_157 rfl rfl (by omega) (by omega) (hQ _ _ hw)
      have hw := hw.2.2.2.2.2.2.2 s0 s1 s2 s3 s4 s5 s6
      refine AW.tableOut (pc := 42) (tgt := 158) dX5_reckon_42 (by
          have q0 := lv_neT s0 (show (0 : Int32).toInt = 0 by decide)
          have q1 := lv_neT s1 (show (1 : Int32).toInt = 1 by decide)
          have q2 := lv_neT s2 (show (2 : Int32).toInt = 2 by decide)
          have q3 := lv_neT s3 (show (3 : Int32).toInt = 3 by decide)
          have q4 := lv_neT s4 (show (4 : Int32).toInt = 4 by decide)
          have q5 := lv_neT s5 (show (5 : Int32).toInt = 5 by decide)
          have q6 := lv_neT s6 (show (6 : Int32).toInt = 6 by decide)
          omega) (by decide) ?_
      refine AW.iload_n (pc := 158) dX5_reckon_158 rfl rfl ?_
      refine AW.iconst (v := 1) (pc := 159) dX5_reckon_159 (by decide) ?_
      refine AW.icmp_ne (pc := 160) (tgt := 167) dX5_reckon_160 (by decide) (fun c34 => ?_) (fun c34 => ?_)
      · have hw := hw.1 c34
        refine AW.iload_n (pc := 167) dX5_reckon_167 rfl rfl ?_
        have hw := hw (fun m35 => AW Z mX5_reckon d k0 mc ms Q 185 [.ref 47, .int p1, .int r2, .int v3] [] (lay t ex o m35) k (cs) (ss)) (by
            intro m35 hw
            refine AW.aload_n (pc := 185) dX5_reckon_185 rfl rfl ?_
            refine AW.aload_n (pc := 186) dX5_reckon_186 rfl rfl ?_
            refine LW.get (pc := 187) (f := 6) (ci := 5) (T := TX5) ht (by decide) rfl dX5_reckon_187 tw_804 rfl (by decide) rfl ?_
            refine AW.iload_n (pc := 190) dX5_reckon_190 rfl rfl ?_
            obtain ⟨hin, hw⟩ := hw
            refine LW.iald (pc := 191) (j := p1.toNatClampNeg) ht (by decide) rfl dX5_reckon_191 hin rfl ?_
            refine AW.callV (pc := 192) (S' := []) dX5_reckon_192 (c_M_valueOf (d := d - 1) ht (by omega) hw) ok_X5_valueOf tw_990 ts_50 tw_988 (fix_pos (by decide)) (lay_at ht (by decide)) (show aw_cl[5]? = some _ from rfl) rfl rfl (by omega) rfl (Nat.le_of_ble_eq_true rfl) (by omega) (by omega) ?_ (fun E h' k' hq => by obtain ⟨rfl, r42, m41, hv, -⟩ := hq; cases hv)
            intro v h' k' hq
            obtain ⟨rfl, r42, m41, hv, rfl, hw⟩ := hq
            cases hv
            show AW _ _ _ _ _ _ _ 195 [.ref 47, .int p1, .int r2, .int v3] [.int r42] (lay t ex o m41) k _ _
            refine AW.goto (pc := 195) (tgt := 199) dX5_reckon_195 (by decide) ?_
            exact AW.iret (pc := 199) dX5_reckon_199 rfl rfl (by omega) (by omega) (hQ _ _ hw))
        refine AW.if_eq (pc := 168) (tgt := 185) dX5_reckon_168 (by decide) (fun c37 => ?_) (fun c37 => ?_)
        · have hw := hw.1 c37
          exact hw
        · have hw := hw.2 c37
          refine AW.iload_n (pc := 171) dX5_reckon_171 rfl rfl ?_
          refine AW.aload_n (pc := 172) dX5_reckon_172 rfl rfl ?_
          refine AW.aload_n (pc := 173) dX5_reckon_173 rfl rfl ?_
          refine LW.get (pc := 174) (f := 6) (ci := 5) (T := TX5) ht (by decide) rfl dX5_reckon_174 tw_804 rfl (by decide) rfl ?_
          refine AW.iload_n (pc := 177) dX5_reckon_177 rfl rfl ?_
          obtain ⟨hin, hw⟩ := hw
          refine LW.iald (pc := 178) (j := p1.toNatClampNeg) ht (by decide) rfl dX5_reckon_178 hin rfl ?_
          refine AW.callV (pc := 179) (S' := [.int v3]) dX5_reckon_179 (c_M_valueOf (d := d - 1) ht (by omega) hw) ok_X5_valueOf tw_990 ts_50 tw_988 (fix_pos (by decide)) (lay_at ht (by decide)) (show aw_cl[5]? = some _ from rfl) rfl rfl (by omega) rfl (Nat.le_of_ble_eq_true rfl) (by omega) (by omega) ?_ (fun E h' k' hq => by obtain ⟨rfl, r39, m38, hv, -⟩ := hq; cases hv)
          intro v h' k' hq
          obtain ⟨rfl, r39, m38, hv, rfl, hw⟩ := hq
          cases hv
          show AW _ _ _ _ _ _ _ 182 [.ref 47, .int p1, .int r2, .int v3] [.int r39, .int v3] (lay t ex o m38) k _ _
          refine AW.icmp_ne (pc := 182) (tgt := 198) dX5_reckon_182 (by decide) (fun c40 => ?_) (fun c40 => ?_)
          · have hw := hw.1 c40
            refine AW.iconst (v := 2) (pc := 198) dX5_reckon_198 (by decide) ?_
            exact AW.iret (pc := 199) dX5_reckon_199 rfl rfl (by omega) (by omega) (hQ _ _ hw)
          · have hw := hw.2 c40
            exact hw
      · have hw := hw.2 c34
        refine AW.iload_n (pc := 163) dX5_reckon_163 rfl rfl ?_
        refine AW.goto (pc := 164) (tgt := 199) dX5_reckon_164 (by decide) ?_
        exact AW.iret (pc := 199) dX5_reckon_199 rfl rfl (by omega) (by omega) (hQ _ _ hw))
  refine AW.icmp_ne (pc := 18) (tgt := 25) dX5_reckon_18 (by decide) (fun c6 => ?_) (fun c6 => ?_)
  · have hw := hw.1 c6
    refine AW.aload_n (pc := 25) dX5_reckon_25 rfl rfl ?_
    refine AW.aload_n (pc := 26) dX5_reckon_26 rfl rfl ?_
    refine LW.get (pc := 27) (f := 5) (ci := 5) (T := TX5) ht (by decide) rfl dX5_reckon_27 tw_803 rfl (by decide) rfl ?_
    refine AW.iload_n (pc := 30) dX5_reckon_30 rfl rfl ?_
    obtain ⟨hin, hw⟩ := hw
    refine LW.iald (pc := 31) (j := p1.toNatClampNeg) ht (by decide) rfl dX5_reckon_31 hin rfl ?_
    refine AW.callV (pc := 32) (S' := []) dX5_reckon_32 (c_M_valueOf (d := d - 1) ht (by omega) hw) ok_X5_valueOf tw_990 ts_50 tw_988 (fix_pos (by decide)) (lay_at ht (by decide)) (show aw_cl[5]? = some _ from rfl) rfl rfl (by omega) rfl (Nat.le_of_ble_eq_true rfl) (by omega) (by omega) ?_ (fun E h' k' hq => by obtain ⟨rfl, r8, m7, hv, -⟩ := hq; cases hv)
    intro v h' k' hq
    obtain ⟨rfl, r8, m7, hv, rfl, hw⟩ := hq
    cases hv
    show AW _ _ _ _ _ _ _ 35 [.ref 47, .int p1, .int r2, .null] [.int r8] (lay t ex o m7) k _ _
    exact hw
  · have hw := hw.2 c6
    refine AW.iconst (v := 0) (pc := 21) dX5_reckon_21 (by decide) ?_
    refine AW.goto (pc := 22) (tgt := 35) dX5_reckon_22 (by decide) ?_
    exact hw
set_option maxRecDepth 100000 in
set_option maxHeartbeats 4000000 in
theorem c_M_reckon {d k t : Nat} {ex : Hp} {o : Nat → Int64} {K : Int32 → Mem → Prop} {m : Mem} {p1 : Int32} (ht : tok t) (hd : 3 ≤ d) (hw : w_M_reckon p1 m K) : AM mX5_reckon d [.ref 47, .int p1] (lay t ex o m) k 0 0 (fun oc h' k' => k = k' ∧ ∃ (r : Int32) (m' : Mem), oc = .inl (some (.int r)) ∧ h' = lay t ex o m' ∧ K r m') :=
  AM.intro (μ := mX5_reckon) (n := 2) (by decide) rfl rfl rfl (b_M_reckon ht hd (by omega) (by omega) (fun _ _ hK => ⟨rfl, _, _, rfl, rfl, hK⟩) p1 hw)
def w_M_askGate (p1 : Int32) (m : Mem) (K : Mem → Prop) : Prop :=
  w_M_reckon p1 m (fun r2 m1 => vp_in ((102 : Int32) + p1) 342 ∧ (∀ J4 : Mem → Prop, (∀  (m3 : Mem), (vp_in ((102 : Int32) + p1) 342 ∧ ((¬ ((m3 60 ((102 : Int32) + p1).toNatClampNeg) = (-1 : Int32)) → K m3) ∧ ((m3 60 ((102 : Int32) + p1).toNatClampNeg) = (-1 : Int32) → vp_in p1 30 ∧ w_M_valueOf (m3 49 (p1).toNatClampNeg) m3 (fun r11 m10 => ((r2 = r11 → K m10) ∧ (¬ (r2 = r11) → w_M_pend p1 r2 m10 (fun m13 => K m13))))))) → J4 m3) → (((m1 60 ((102 : Int32) + p1).toNatClampNeg) = (-1 : Int32) → J4  m1) ∧ (¬ ((m1 60 ((102 : Int32) + p1).toNatClampNeg) = (-1 : Int32)) → vp_in ((102 : Int32) + p1) 342 ∧ (((m1 60 ((102 : Int32) + p1).toNatClampNeg) = r2 → J4  m1) ∧ (¬ ((m1 60 ((102 : Int32) + p1).toNatClampNeg) = r2) → vp_in ((102 : Int32) + p1) 342 ∧ ∀ m7 : Mem, m7 = up2 m1 60 (((102 : Int32) + p1).toNatClampNeg) (-1 : Int32) → ∀ m8 : Mem, m8 = up2 m7 60 (1) ((m7 60 1) + (1 : Int32)) → J4  m8))))))
set_option maxRecDepth 100000 in
set_option maxHeartbeats 4000000 in
theorem b_M_askGate {Z : Gz} {d k0 mc ms cs ss k t : Nat} {Q : Po} {ex : Hp} {o : Nat → Int64} {K : Mem → Prop}  (ht : tok t) (hd : 4 ≤ d) (hcs : cs + 0 ≤ mc) (hss : ss + 0 ≤ ms) (hQ : ∀ (m : Mem), K m → Q (.inl none) (lay t ex o m) k) {m : Mem} (p1 : Int32) (hw : w_M_askGate p1 m K) : AW Z mX5_askGate d k0 mc ms Q 0 [.ref 47, .int p1, .null] [] (lay t ex o m) k cs ss := by
  unfold w_M_askGate at hw
  refine AW.aload_n (pc := 0) dX5_askGate_0 rfl rfl ?_
  refine AW.iload_n (pc := 1) dX5_askGate_1 rfl rfl ?_
  refine AW.callV (pc := 2) (S' := []) dX5_askGate_2 (c_M_reckon (d := d - 1) ht (by omega) hw) ok_X5_reckon tw_998 ts_52 tw_996 (fix_pos (by decide)) (lay_at ht (by decide)) (show aw_cl[5]? = some _ from rfl) rfl rfl (by omega) rfl (Nat.le_of_ble_eq_true rfl) (by omega) (by omega) ?_ (fun E h' k' hq => by obtain ⟨rfl, r2, m1, hv, -⟩ := hq; cases hv)
  intro v h' k' hq
  obtain ⟨rfl, r2, m1, hv, rfl, hw⟩ := hq
  cases hv
  show AW _ _ _ _ _ _ _ 5 [.ref 47, .int p1, .null] [.int r2] (lay t ex o m1) k _ _
  refine AW.istore_n (L' := [.ref 47, .int p1, .int r2]) (pc := 5) dX5_askGate_5 rfl (by decide) rfl rfl ?_
  refine AW.aload_n (pc := 6) dX5_askGate_6 rfl rfl ?_
  refine LW.get (pc := 7) (f := 10) (ci := 5) (T := TX5) ht (by decide) rfl dX5_askGate_7 tw_808 rfl (by decide) rfl ?_
  refine AW.bipush (v := 102) (pc := 10) dX5_askGate_10 (by decide) ?_
  refine AW.iload_n (pc := 12) dX5_askGate_12 rfl rfl ?_
  refine AW.iadd (pc := 13) dX5_askGate_13 ?_
  obtain ⟨hin, hw⟩ := hw
  refine LW.ialdt (pc := 14) (j := ((102 : Int32) + p1).toNatClampNeg) ht dX5_askGate_14 hin rfl ?_
  refine AW.iconst (v := -1) (pc := 15) dX5_askGate_15 (by decide) ?_
  have hw := hw (fun m3 => AW Z mX5_askGate d k0 mc ms Q 52 [.ref 47, .int p1, .int r2] [] (lay t ex o m3) k (cs) (ss)) (by
      intro m3 hw
      refine AW.aload_n (pc := 52) dX5_askGate_52 rfl rfl ?_
      refine LW.get (pc := 53) (f := 10) (ci := 5) (T := TX5) ht (by decide) rfl dX5_askGate_53 tw_808 rfl (by decide) rfl ?_
      refine AW.bipush (v := 102) (pc := 56) dX5_askGate_56 (by decide) ?_
      refine AW.iload_n (pc := 58) dX5_askGate_58 rfl rfl ?_
      refine AW.iadd (pc := 59) dX5_askGate_59 ?_
      obtain ⟨hin, hw⟩ := hw
      refine LW.ialdt (pc := 60) (j := ((102 : Int32) + p1).toNatClampNeg) ht dX5_askGate_60 hin rfl ?_
      refine AW.iconst (v := -1) (pc := 61) dX5_askGate_61 (by decide) ?_
      refine AW.icmp_ne (pc := 62) (tgt := 85) dX5_askGate_62 (by decide) (fun c9 => ?_) (fun c9 => ?_)
      · have hw := hw.1 c9
        exact AW.vret (pc := 85) dX5_askGate_85 rfl (by omega) (by omega) (hQ _ hw)
      · have hw := hw.2 c9
        refine AW.iload_n (pc := 65) dX5_askGate_65 rfl rfl ?_
        refine AW.aload_n (pc := 66) dX5_askGate_66 rfl rfl ?_
        refine AW.aload_n (pc := 67) dX5_askGate_67 rfl rfl ?_
        refine LW.get (pc := 68) (f := 3) (ci := 5) (T := TX5) ht (by decide) rfl dX5_askGate_68 tw_801 rfl (by decide) rfl ?_
        refine AW.iload_n (pc := 71) dX5_askGate_71 rfl rfl ?_
        obtain ⟨hin, hw⟩ := hw
        refine LW.iald (pc := 72) (j := p1.toNatClampNeg) ht (by decide) rfl dX5_askGate_72 hin rfl ?_
        refine AW.callV (pc := 73) (S' := [.int r2]) dX5_askGate_73 (c_M_valueOf (d := d - 1) ht (by omega) hw) ok_X5_valueOf tw_990 ts_50 tw_988 (fix_pos (by decide)) (lay_at ht (by decide)) (show aw_cl[5]? = some _ from rfl) rfl rfl (by omega) rfl (Nat.le_of_ble_eq_true rfl) (by omega) (by omega) ?_ (fun E h' k' hq => by obtain ⟨rfl, r11, m10, hv, -⟩ := hq; cases hv)
        intro v h' k' hq
        obtain ⟨rfl, r11, m10, hv, rfl, hw⟩ := hq
        cases hv
        show AW _ _ _ _ _ _ _ 76 [.ref 47, .int p1, .int r2] [.int r11, .int r2] (lay t ex o m10) k _ _
        refine AW.icmp_eq (pc := 76) (tgt := 85) dX5_askGate_76 (by decide) (fun c12 => ?_) (fun c12 => ?_)
        · have hw := hw.1 c12
          exact AW.vret (pc := 85) dX5_askGate_85 rfl (by omega) (by omega) (hQ _ hw)
        · have hw := hw.2 c12
          refine AW.aload_n (pc := 79) dX5_askGate_79 rfl rfl ?_
          refine AW.iload_n (pc := 80) dX5_askGate_80 rfl rfl ?_
          refine AW.iload_n (pc := 81) dX5_askGate_81 rfl rfl ?_
          refine AW.callV (pc := 82) (S' := []) dX5_askGate_82 (c_M_pend (d := d - 1) ht (by omega) hw) ok_X5_pend tw_1008 ts_53 tw_1006 (fix_pos (by decide)) (lay_at ht (by decide)) (show aw_cl[5]? = some _ from rfl) rfl rfl (by omega) rfl (Nat.le_of_ble_eq_true rfl) (by omega) (by omega) ?_ (fun E h' k' hq => by obtain ⟨rfl, m13, hv, -⟩ := hq; cases hv)
          intro v h' k' hq
          obtain ⟨rfl, m13, hv, rfl, hw⟩ := hq
          cases hv
          show AW _ _ _ _ _ _ _ 85 [.ref 47, .int p1, .int r2] [] (lay t ex o m13) k _ _
          exact AW.vret (pc := 85) dX5_askGate_85 rfl (by omega) (by omega) (hQ _ hw))
  refine AW.icmp_eq (pc := 16) (tgt := 52) dX5_askGate_16 (by decide) (fun c5 => ?_) (fun c5 => ?_)
  · have hw := hw.1 c5
    exact hw
  · have hw := hw.2 c5
    refine AW.aload_n (pc := 19) dX5_askGate_19 rfl rfl ?_
    refine LW.get (pc := 20) (f := 10) (ci := 5) (T := TX5) ht (by decide) rfl dX5_askGate_20 tw_808 rfl (by decide) rfl ?_
    refine AW.bipush (v := 102) (pc := 23) dX5_askGate_23 (by decide) ?_
    refine AW.iload_n (pc := 25) dX5_askGate_25 rfl rfl ?_
    refine AW.iadd (pc := 26) dX5_askGate_26 ?_
    obtain ⟨hin, hw⟩ := hw
    refine LW.ialdt (pc := 27) (j := ((102 : Int32) + p1).toNatClampNeg) ht dX5_askGate_27 hin rfl ?_
    refine AW.iload_n (pc := 28) dX5_askGate_28 rfl rfl ?_
    refine AW.icmp_eq (pc := 29) (tgt := 52) dX5_askGate_29 (by decide) (fun c6 => ?_) (fun c6 => ?_)
    · have hw := hw.1 c6
      exact hw
    · have hw := hw.2 c6
      refine AW.aload_n (pc := 32) dX5_askGate_32 rfl rfl ?_
      refine LW.get (pc := 33) (f := 10) (ci := 5) (T := TX5) ht (by decide) rfl dX5_askGate_33 tw_808 rfl (by decide) rfl ?_
      refine AW.bipush (v := 102) (pc := 36) dX5_askGate_36 (by decide) ?_
      refine AW.iload_n (pc := 38) dX5_askGate_38 rfl rfl ?_
      refine AW.iadd (pc := 39) dX5_askGate_39 ?_
      refine AW.iconst (v := -1) (pc := 40) dX5_askGate_40 (by decide) ?_
      obtain ⟨hin, hw⟩ := hw
      have hw := hw _ rfl
      refine LW.iastt (pc := 41) (j := ((102 : Int32) + p1).toNatClampNeg) ht dX5_askGate_41 hin rfl ?_
      generalize up2 m1 60 (((102 : Int32) + p1).toNatClampNeg) (-1 : Int32) = m7 at hw ⊢
      refine AW.aload_n (pc := 42) dX5_askGate_42 rfl rfl ?_
      refine LW.get (pc := 43) (f := 10) (ci := 5) (T := TX5) ht (by decide) rfl dX5_askGate_43 tw_808 rfl (by decide) rfl ?_
      refine AW.iconst (v := 1) (pc := 46) dX5_askGate_46 (by decide) ?_
      refine AW.dup2 (pc := 47) dX5_askGate_47 rfl rfl ?_
      refine LW.ialdt (pc := 48) (j := 1) ht dX5_askGate_48 (vp_lit (by decide)) (by decide) ?_
      refine AW.iconst (v := 1) (pc := 49) dX5_askGate_49 (by decide) ?_
      refine AW.iadd (pc := 50) dX5_askGate_50 ?_
      have hw := hw _ rfl
      refine LW.iastt (pc := 51) (j := 1) ht dX5_askGate_51 (vp_lit (by decide)) (by decide) ?_
      generalize up2 m7 60 (1) ((m7 60 1) + (1 : Int32)) = m8 at hw ⊢
      exact hw
set_option maxRecDepth 100000 in
set_option maxHeartbeats 4000000 in
theorem c_M_askGate {d k t : Nat} {ex : Hp} {o : Nat → Int64} {K : Mem → Prop} {m : Mem} {p1 : Int32} (ht : tok t) (hd : 4 ≤ d) (hw : w_M_askGate p1 m K) : AM mX5_askGate d [.ref 47, .int p1] (lay t ex o m) k 0 0 (fun oc h' k' => k = k' ∧ ∃ (m' : Mem), oc = .inl none ∧ h' = lay t ex o m' ∧ K m') :=
  AM.intro (μ := mX5_askGate) (n := 1) (by decide) rfl rfl rfl (b_M_askGate ht hd (by omega) (by omega) (fun _ hK => ⟨rfl, _, rfl, rfl, hK⟩) p1 hw)
def w_M_noteHazard (p1 : Int32) (p2 : Int32) (m : Mem) (K : Mem → Prop) : Prop :=
  ((¬ ((m 60 5) = (40 : Int32)) → ∀ m2 : Mem, m2 = up2 m 60 (5) ((m 60 5) + (1 : Int32)) → vp_in ((222 : Int32) + ((3 : Int32) * (m 60 5))) 342 ∧ ∀ m3 : Mem, m3 = up2 m2 60 (((222 : Int32) + ((3 : Int32) * (m 60 5))).toNatClampNeg) p1 → vp_in (((222 : Int32) + ((3 : Int32) * (m 60 5))) + (1 : Int32)) 342 ∧ ∀ m4 : Mem, m4 = up2 m3 60 ((((222 : Int32) + ((3 : Int32) * (m 60 5))) + (1 : Int32)).toNatClampNeg) p2 → vp_in (((222 : Int32) + ((3 : Int32) * (m 60 5))) + (2 : Int32)) 342 ∧ ∀ m5 : Mem, m5 = up2 m4 60 ((((222 : Int32) + ((3 : Int32) * (m 60 5))) + (2 : Int32)).toNatClampNeg) (m4 60 0) → K m5) ∧ ((m 60 5) = (40 : Int32) → K m))
set_option maxRecDepth 100000 in
set_option maxHeartbeats 4000000 in
theorem b_M_noteHazard {Z : Gz} {d k0 mc ms cs ss k t : Nat} {Q : Po} {ex : Hp} {o : Nat → Int64} {K : Mem → Prop}  (ht : tok t) (hd : 2 ≤ d) (hcs : cs + 0 ≤ mc) (hss : ss + 0 ≤ ms) (hQ : ∀ (m : Mem), K m → Q (.inl none) (lay t ex o m) k) {m : Mem} (p1 : Int32) (p2 : Int32) (hw : w_M_noteHazard p1 p2 m K) : AW Z mX5_noteHazard d k0 mc ms Q 0 [.ref 47, .int p1, .int p2, .null] [] (lay t ex o m) k cs ss := by
  unfold w_M_noteHazard at hw
  refine AW.aload_n (pc := 0) dX5_noteHazard_0 rfl rfl ?_
  refine LW.get (pc := 1) (f := 10) (ci := 5) (T := TX5) ht (by decide) rfl dX5_noteHazard_1 tw_808 rfl (by decide) rfl ?_
  refine AW.iconst (v := 5) (pc := 4) dX5_noteHazard_4 (by decide) ?_
  refine LW.ialdt (pc := 5) (j := 5) ht dX5_noteHazard_5 (vp_lit (by decide)) (by decide) ?_
  refine AW.bipush (v := 40) (pc := 6) dX5_noteHazard_6 (by decide) ?_
  refine AW.icmp_ne (pc := 8) (tgt := 12) dX5_noteHazard_8 (by decide) (fun c1 => ?_) (fun c1 => ?_)
  · have hw := hw.1 c1
    refine AW.sipush (v := 222) (pc := 12) dX5_noteHazard_12 (by decide) ?_
    refine AW.iconst (v := 3) (pc := 15) dX5_noteHazard_15 (by decide) ?_
    refine AW.aload_n (pc := 16) dX5_noteHazard_16 rfl rfl ?_
    refine LW.get (pc := 17) (f := 10) (ci := 5) (T := TX5) ht (by decide) rfl dX5_noteHazard_17 tw_808 rfl (by decide) rfl ?_
    refine AW.iconst (v := 5) (pc := 20) dX5_noteHazard_20 (by decide) ?_
    refine AW.dup2 (pc := 21) dX5_noteHazard_21 rfl rfl ?_
    refine LW.ialdt (pc := 22) (j := 5) ht dX5_noteHazard_22 (vp_lit (by decide)) (by decide) ?_
    refine AW.dup_x2 (pc := 23) dX5_noteHazard_23 rfl rfl rfl ?_
    refine AW.iconst (v := 1) (pc := 24) dX5_noteHazard_24 (by decide) ?_
    refine AW.iadd (pc := 25) dX5_noteHazard_25 ?_
    have hw := hw _ rfl
    refine LW.iastt (pc := 26) (j := 5) ht dX5_noteHazard_26 (vp_lit (by decide)) (by decide) ?_
    generalize up2 m 60 (5) ((m 60 5) + (1 : Int32)) = m2 at hw ⊢
    refine AW.imul (pc := 27) dX5_noteHazard_27 ?_
    refine AW.iadd (pc := 28) dX5_noteHazard_28 ?_
    refine AW.istore_n (L' := [.ref 47, .int p1, .int p2, .int ((222 : Int32) + ((3 : Int32) * (m 60 5)))]) (pc := 29) dX5_noteHazard_29 rfl (by decide) rfl rfl ?_
    refine AW.aload_n (pc := 30) dX5_noteHazard_30 rfl rfl ?_
    refine LW.get (pc := 31) (f := 10) (ci := 5) (T := TX5) ht (by decide) rfl dX5_noteHazard_31 tw_808 rfl (by decide) rfl ?_
    refine AW.iload_n (pc := 34) dX5_noteHazard_34 rfl rfl ?_
    refine AW.iload_n (pc := 35) dX5_noteHazard_35 rfl rfl ?_
    obtain ⟨hin, hw⟩ := hw
    have hw := hw _ rfl
    refine LW.iastt (pc := 36) (j := ((222 : Int32) + ((3 : Int32) * (m 60 5))).toNatClampNeg) ht dX5_noteHazard_36 hin rfl ?_
    generalize up2 m2 60 (((222 : Int32) + ((3 : Int32) * (m 60 5))).toNatClampNeg) p1 = m3 at hw ⊢
    refine AW.aload_n (pc := 37) dX5_noteHazard_37 rfl rfl ?_
    refine LW.get (pc := 38) (f := 10) (ci := 5) (T := TX5) ht (by decide) rfl dX5_noteHazard_38 tw_808 rfl (by decide) rfl ?_
    refine AW.iload_n (pc := 41) dX5_noteHazard_41 rfl rfl ?_
    refine AW.iconst (v := 1) (pc := 42) dX5_noteHazard_42 (by decide) ?_
    refine AW.iadd (pc := 43) dX5_noteHazard_43 ?_
    refine AW.iload_n (pc := 44) dX5_noteHazard_44 rfl rfl ?_
    obtain ⟨hin, hw⟩ := hw
    have hw := hw _ rfl
    refine LW.iastt (pc := 45) (j := (((222 : Int32) + ((3 : Int32) * (m 60 5))) + (1 : Int32)).toNatClampNeg) ht dX5_noteHazard_45 hin rfl ?_
    generalize up2 m3 60 ((((222 : Int32) + ((3 : Int32) * (m 60 5))) + (1 : Int32)).toNatClampNeg) p2 = m4 at hw ⊢
    refine AW.aload_n (pc := 46) dX5_noteHazard_46 rfl rfl ?_
    refine LW.get (pc := 47) (f := 10) (ci := 5) (T := TX5) ht (by decide) rfl dX5_noteHazard_47 tw_808 rfl (by decide) rfl ?_
    refine AW.iload_n (pc := 50) dX5_noteHazard_50 rfl rfl ?_
    refine AW.iconst (v := 2) (pc := 51) dX5_noteHazard_51 (by decide) ?_
    refine AW.iadd (pc := 52) dX5_noteHazard_52 ?_
    refine AW.aload_n (pc := 53) dX5_noteHazard_53 rfl rfl ?_
    refine LW.get (pc := 54) (f := 10) (ci := 5) (T := TX5) ht (by decide) rfl dX5_noteHazard_54 tw_808 rfl (by decide) rfl ?_
    refine AW.iconst (v := 0) (pc := 57) dX5_noteHazard_57 (by decide) ?_
    refine LW.ialdt (pc := 58) (j := 0) ht dX5_noteHazard_58 (vp_lit (by decide)) (by decide) ?_
    obtain ⟨hin, hw⟩ := hw
    have hw := hw _ rfl
    refine LW.iastt (pc := 59) (j := (((222 : Int32) + ((3 : Int32) * (m 60 5))) + (2 : Int32)).toNatClampNeg) ht dX5_noteHazard_59 hin rfl ?_
    generalize up2 m4 60 ((((222 : Int32) + ((3 : Int32) * (m 60 5))) + (2 : Int32)).toNatClampNeg) (m4 60 0) = m5 at hw ⊢
    exact AW.vret (pc := 60) dX5_noteHazard_60 rfl (by omega) (by omega) (hQ _ hw)
  · have hw := hw.2 c1
    exact AW.vret (pc := 11) dX5_noteHazard_11 rfl (by omega) (by omega) (hQ _ hw)
set_option maxRecDepth 100000 in
set_option maxHeartbeats 4000000 in
theorem c_M_noteHazard {d k t : Nat} {ex : Hp} {o : Nat → Int64} {K : Mem → Prop} {m : Mem} {p1 : Int32} {p2 : Int32} (ht : tok t) (hd : 2 ≤ d) (hw : w_M_noteHazard p1 p2 m K) : AM mX5_noteHazard d [.ref 47, .int p1, .int p2] (lay t ex o m) k 0 0 (fun oc h' k' => k = k' ∧ ∃ (m' : Mem), oc = .inl none ∧ h' = lay t ex o m' ∧ K m') :=
  AM.intro (μ := mX5_noteHazard) (n := 1) (by decide) rfl rfl rfl (b_M_noteHazard ht hd (by omega) (by omega) (fun _ hK => ⟨rfl, _, rfl, rfl, hK⟩) p1 p2 hw)
def w_M_askRegister (p1 : Int32) (p2 : Int32) (p3 : Int32) (m : Mem) (K : Mem → Prop) : Prop :=
  vp_in p1 30 ∧ (∀ J2 : Mem → Prop, (∀  (m1 : Mem), (vp_in p1 30 ∧ (∀ J9 : Mem → Prop, (∀  (m8 : Mem), (vp_in p1 30 ∧ ((¬ ((m8 50 (p1).toNatClampNeg) = p2) → K m8) ∧ ((m8 50 (p1).toNatClampNeg) = p2 → vp_in ((192 : Int32) + p1) 342 ∧ (((m8 60 ((192 : Int32) + p1).toNatClampNeg) = (-1 : Int32) → K m8) ∧ (¬ ((m8 60 ((192 : Int32) + p1).toNatClampNeg) = (-1 : Int32)) → vp_in ((192 : Int32) + p1) 342 ∧ vp_in p1 30 ∧ (((m8 60 ((192 : Int32) + p1).toNatClampNeg) ≤ ((m8 60 0) - (m8 55 (p1).toNatClampNeg)) → K m8) ∧ (¬ ((m8 60 ((192 : Int32) + p1).toNatClampNeg) ≤ ((m8 60 0) - (m8 55 (p1).toNatClampNeg))) → vp_in p1 30 ∧ w_M_noteHazard (4 : Int32) (m8 49 (p1).toNatClampNeg) m8 (fun m42 => w_M_pend p1 (2 : Int32) m42 (fun m43 => K m43))))))))) → J9 m8) → ((¬ ((m1 51 (p1).toNatClampNeg) = p2) → J9  m1) ∧ ((m1 51 (p1).toNatClampNeg) = p2 → ((¬ (p3 = 0) → J9  m1) ∧ (p3 = 0 → w_M_valueOf p2 m1 (fun r13 m12 => ((¬ (r13 = (1 : Int32)) → J9  m12) ∧ (r13 = (1 : Int32) → vp_in p1 30 ∧ (((m12 52 (p1).toNatClampNeg) = (-1 : Int32) → vp_in p1 30 ∧ w_M_valueOf (m12 50 (p1).toNatClampNeg) m12 (fun r17 m16 => vp_in p1 30 ∧ vp_in ((30 : Int32) + (m16 50 (p1).toNatClampNeg)) 342 ∧ (∀ J20 : Int32 → Mem → Prop, (∀ (v18 : Int32) (m19 : Mem), (vp_in ((192 : Int32) + p1) 342 ∧ ∀ m24 : Mem, m24 = up2 m19 60 (((192 : Int32) + p1).toNatClampNeg) (m19 60 0) → w_M_pend p1 v18 m24 (fun m25 => J9  m25)) → J20 v18 m19) → (((m16 60 ((30 : Int32) + (m16 50 (p1).toNatClampNeg)).toNatClampNeg) = (-1 : Int32) → J20 r17 m16) ∧ (¬ ((m16 60 ((30 : Int32) + (m16 50 (p1).toNatClampNeg)).toNatClampNeg) = (-1 : Int32)) → vp_in p1 30 ∧ vp_in ((30 : Int32) + (m16 50 (p1).toNatClampNeg)) 342 ∧ vp_in p1 30 ∧ (((m16 60 ((30 : Int32) + (m16 50 (p1).toNatClampNeg)).toNatClampNeg) ≤ ((m16 60 0) - (m16 54 (p1).toNatClampNeg)) → J20 r17 m16) ∧ (¬ ((m16 60 ((30 : Int32) + (m16 50 (p1).toNatClampNeg)).toNatClampNeg) ≤ ((m16 60 0) - (m16 54 (p1).toNatClampNeg))) → vp_in p1 30 ∧ w_M_noteHazard (3 : Int32) (m16 49 (p1).toNatClampNeg) m16 (fun m23 => J20 (2 : Int32) m23)))))))) ∧ (¬ ((m12 52 (p1).toNatClampNeg) = (-1 : Int32)) → vp_in p1 30 ∧ w_M_valueOf (m12 52 (p1).toNatClampNeg) m12 (fun r27 m26 => ((¬ (r27 = 0) → J9  m26) ∧ (r27 = 0 → vp_in p1 30 ∧ w_M_valueOf (m26 50 (p1).toNatClampNeg) m26 (fun r30 m29 => vp_in p1 30 ∧ vp_in ((30 : Int32) + (m29 50 (p1).toNatClampNeg)) 342 ∧ (∀ J33 : Int32 → Mem → Prop, (∀ (v31 : Int32) (m32 : Mem), (vp_in ((192 : Int32) + p1) 342 ∧ ∀ m37 : Mem, m37 = up2 m32 60 (((192 : Int32) + p1).toNatClampNeg) (m32 60 0) → w_M_pend p1 v31 m37 (fun m38 => J9  m38)) → J33 v31 m32) → (((m29 60 ((30 : Int32) + (m29 50 (p1).toNatClampNeg)).toNatClampNeg) = (-1 : Int32) → J33 r30 m29) ∧ (¬ ((m29 60 ((30 : Int32) + (m29 50 (p1).toNatClampNeg)).toNatClampNeg) = (-1 : Int32)) → vp_in p1 30 ∧ vp_in ((30 : Int32) + (m29 50 (p1).toNatClampNeg)) 342 ∧ vp_in p1 30 ∧ (((m29 60 ((30 : Int32) + (m29 50 (p1).toNatClampNeg)).toNatClampNeg) ≤ ((m29 60 0) - (m29 54 (p1).toNatClampNeg)) → J33 r30 m29) ∧ (¬ ((m29 60 ((30 : Int32) + (m29 50 (p1).toNatClampNeg)).toNatClampNeg) ≤ ((m29 60 0) - (m29 54 (p1).toNatClampNeg))) → vp_in p1 30 ∧ w_M_noteHazard (3 : Int32) (m29 49 (p1).toNatClampNeg) m29 (fun m36 => J33 (2 : Int32) m36))))))))))))))))))))) → J2 m1) → ((¬ ((m 52 (p1).toNatClampNeg) = p2) → J2  m) ∧ ((m 52 (p1).toNatClampNeg) = p2 → w_M_valueOf p2 m (fun r5 m4 => ((¬ (r5 = (1 : Int32)) → J2  m4) ∧ (r5 = (1 : Int32) → w_M_pend p1 (0 : Int32) m4 (fun m7 => J2  m7)))))))
set_option maxRecDepth 100000 in
set_option maxHeartbeats 4000000 in
theorem b_M_askRegister {Z : Gz} {d k0 mc ms cs ss k t : Nat} {Q : Po} {ex : Hp} {o : Nat → Int64} {K : Mem → Prop}  (ht : tok t) (hd : 3 ≤ d) (hcs : cs + 0 ≤ mc) (hss : ss + 0 ≤ ms) (hQ : ∀ (m : Mem), K m → Q (.inl none) (lay t ex o m) k) {m : Mem} (p1 : Int32) (p2 : Int32) (p3 : Int32) (hw : w_M_askRegister p1 p2 p3 m K) : AW Z mX5_askRegister d k0 mc ms Q 0 [.ref 47, .int p1, .int p2, .int p3, .null] [] (lay t ex o m) k cs ss := by
  unfold w_M_askRegister at hw
  refine AW.aload_n (pc := 0) dX5_askRegister_0 rfl rfl ?_
  refine LW.get (pc := 1) (f := 6) (ci := 5) (T := TX5) ht (by decide) rfl dX5_askRegister_1 tw_804 rfl (by decide) rfl ?_
  refine AW.iload_n (pc := 4) dX5_askRegister_4 rfl rfl ?_
  obtain ⟨hin, hw⟩ := hw
  refine LW.iald (pc := 5) (j := p1.toNatClampNeg) ht (by decide) rfl dX5_askRegister_5 hin rfl ?_
  refine AW.iload_n (pc := 6) dX5_askRegister_6 rfl rfl ?_
  have hw := hw (fun m1 => AW Z mX5_askRegister d k0 mc ms Q 25 [.ref 47, .int p1, .int p2, .int p3, .null] [] (lay t ex o m1) k (cs) (ss)) (by
      intro m1 hw
      refine AW.aload_n (pc := 25) dX5_askRegister_25 rfl rfl ?_
      refine LW.get (pc := 26) (f := 5) (ci := 5) (T := TX5) ht (by decide) rfl dX5_askRegister_26 tw_803 rfl (by decide) rfl ?_
      refine AW.iload_n (pc := 29) dX5_askRegister_29 rfl rfl ?_
      obtain ⟨hin, hw⟩ := hw
      refine LW.iald (pc := 30) (j := p1.toNatClampNeg) ht (by decide) rfl dX5_askRegister_30 hin rfl ?_
      refine AW.iload_n (pc := 31) dX5_askRegister_31 rfl rfl ?_
      have hw := hw (fun m8 => AW Z mX5_askRegister d k0 mc ms Q 168 [.ref 47, .int p1, .int p2, .int p3, .null] [] (lay t ex o m8) k (cs) (ss)) (by
          intro m8 hw
          refine AW.aload_n (pc := 168) dX5_askRegister_168 rfl rfl ?_
          refine LW.get (pc := 169) (f := 4) (ci := 5) (T := TX5) ht (by decide) rfl dX5_askRegister_169 tw_802 rfl (by decide) rfl ?_
          refine AW.iload_n (pc := 172) dX5_askRegister_172 rfl rfl ?_
          obtain ⟨hin, hw⟩ := hw
          refine LW.iald (pc := 173) (j := p1.toNatClampNeg) ht (by decide) rfl dX5_askRegister_173 hin rfl ?_
          refine AW.iload_n (pc := 174) dX5_askRegister_174 rfl rfl ?_
          refine AW.icmp_ne (pc := 175) (tgt := 235) dX5_askRegister_175 (by decide) (fun c39 => ?_) (fun c39 => ?_)
          · have hw := hw.1 c39
            exact AW.vret (pc := 235) dX5_askRegister_235 rfl (by omega) (by omega) (hQ _ hw)
          · have hw := hw.2 c39
            refine AW.aload_n (pc := 178) dX5_askRegister_178 rfl rfl ?_
            refine LW.get (pc := 179) (f := 10) (ci := 5) (T := TX5) ht (by decide) rfl dX5_askRegister_179 tw_808 rfl (by decide) rfl ?_
            refine AW.sipush (v := 192) (pc := 182) dX5_askRegister_182 (by decide) ?_
            refine AW.iload_n (pc := 185) dX5_askRegister_185 rfl rfl ?_
            refine AW.iadd (pc := 186) dX5_askRegister_186 ?_
            obtain ⟨hin, hw⟩ := hw
            refine LW.ialdt (pc := 187) (j := ((192 : Int32) + p1).toNatClampNeg) ht dX5_askRegister_187 hin rfl ?_
            refine AW.iconst (v := -1) (pc := 188) dX5_askRegister_188 (by decide) ?_
            refine AW.icmp_eq (pc := 189) (tgt := 235) dX5_askRegister_189 (by decide) (fun c40 => ?_) (fun c40 => ?_)
            · have hw := hw.1 c40
              exact AW.vret (pc := 235) dX5_askRegister_235 rfl (by omega) (by omega) (hQ _ hw)
            · have hw := hw.2 c40
              refine AW.aload_n (pc := 192) dX5_askRegister_192 rfl rfl ?_
              refine LW.get (pc := 193) (f := 10) (ci := 5) (T := TX5) ht (by decide) rfl dX5_askRegister_193 tw_808 rfl (by decide) rfl ?_
              refine AW.sipush (v := 192) (pc := 196) dX5_askRegister_196 (by decide) ?_
              refine AW.iload_n (pc := 199) dX5_askRegister_199 rfl rfl ?_
              refine AW.iadd (pc := 200) dX5_askRegister_200 ?_
              obtain ⟨hin, hw⟩ := hw
              refine LW.ialdt (pc := 201) (j := ((192 : Int32) + p1).toNatClampNeg) ht dX5_askRegister_201 hin rfl ?_
              refine AW.aload_n (pc := 202) dX5_askRegister_202 rfl rfl ?_
              refine LW.get (pc := 203) (f := 10) (ci := 5) (T := TX5) ht (by decide) rfl dX5_askRegister_203 tw_808 rfl (by decide) rfl ?_
              refine AW.iconst (v := 0) (pc := 206) dX5_askRegister_206 (by decide) ?_
              refine LW.ialdt (pc := 207) (j := 0) ht dX5_askRegister_207 (vp_lit (by decide)) (by decide) ?_
              refine AW.aload_n (pc := 208) dX5_askRegister_208 rfl rfl ?_
              refine LW.get (pc := 209) (f := 9) (ci := 5) (T := TX5) ht (by decide) rfl dX5_askRegister_209 tw_807 rfl (by decide) rfl ?_
              refine AW.iload_n (pc := 212) dX5_askRegister_212 rfl rfl ?_
              obtain ⟨hin, hw⟩ := hw
              refine LW.iald (pc := 213) (j := p1.toNatClampNeg) ht (by decide) rfl dX5_askRegister_213 hin rfl ?_
              refine AW.isub (pc := 214) dX5_askRegister_214 ?_
              refine AW.icmp_le (pc := 215) (tgt := 235) dX5_askRegister_215 (by decide) (fun c41 => ?_) (fun c41 => ?_)
              · have hw := hw.1 c41
                exact AW.vret (pc := 235) dX5_askRegister_235 rfl (by omega) (by omega) (hQ _ hw)
              · have hw := hw.2 c41
                refine AW.aload_n (pc := 218) dX5_askRegister_218 rfl rfl ?_
                refine AW.iconst (v := 4) (pc := 219) dX5_askRegister_219 (by decide) ?_
                refine AW.aload_n (pc := 220) dX5_askRegister_220 rfl rfl ?_
                refine LW.get (pc := 221) (f := 3) (ci := 5) (T := TX5) ht (by decide) rfl dX5_askRegister_221 tw_801 rfl (by decide) rfl ?_
                refine AW.iload_n (pc := 224) dX5_askRegister_224 rfl rfl ?_
                obtain ⟨hin, hw⟩ := hw
                refine LW.iald (pc := 225) (j := p1.toNatClampNeg) ht (by decide) rfl dX5_askRegister_225 hin rfl ?_
                refine AW.callV (pc := 226) (S' := []) dX5_askRegister_226 (c_M_noteHazard (d := d - 1) ht (by omega) hw) ok_X5_noteHazard tw_1016 ts_55 tw_1014 (fix_pos (by decide)) (lay_at ht (by decide)) (show aw_cl[5]? = some _ from rfl) rfl rfl (by omega) rfl (Nat.le_of_ble_eq_true rfl) (by omega) (by omega) ?_ (fun E h' k' hq => by obtain ⟨rfl, m42, hv, -⟩ := hq; cases hv)
                intro v h' k' hq
                obtain ⟨rfl, m42, hv, rfl, hw⟩ := hq
                cases hv
                show AW _ _ _ _ _ _ _ 229 [.ref 47, .int p1, .int p2, .int p3, .null] [] (lay t ex o m42) k _ _
                refine AW.aload_n (pc := 229) dX5_askRegister_229 rfl rfl ?_
                refine AW.iload_n (pc := 230) dX5_askRegister_230 rfl rfl ?_
                refine AW.iconst (v := 2) (pc := 231) dX5_askRegister_231 (by decide) ?_
                refine AW.callV (pc := 232) (S' := []) dX5_askRegister_232 (c_M_pend (d := d - 1) ht (by omega) hw) ok_X5_pend tw_1008 ts_53 tw_1006 (fix_pos (by decide)) (lay_at ht (by decide)) (show aw_cl[5]? = some _ from rfl) rfl rfl (by omega) rfl (Nat.le_of_ble_eq_true rfl) (by omega) (by omega) ?_ (fun E h' k' hq => by obtain ⟨rfl, m43, hv, -⟩ := hq; cases hv)
                intro v h' k' hq
                obtain ⟨rfl, m43, hv, rfl, hw⟩ := hq
                cases hv
                show AW _ _ _ _ _ _ _ 235 [.ref 47, .int p1, .int p2, .int p3, .null] [] (lay t ex o m43) k _ _
                exact AW.vret (pc := 235) dX5_askRegister_235 rfl (by omega) (by omega) (hQ _ hw))
      refine AW.icmp_ne (pc := 32) (tgt := 168) dX5_askRegister_32 (by decide) (fun c10 => ?_) (fun c10 => ?_)
      · have hw := hw.1 c10
        refine AW.locals (L' := [.ref 47, .int p1, .int p2, .int p3, .null]) (aw_fewer_same (aw_fewer_same (aw_fewer_same (aw_fewer_same (aw_fewer_null aw_fewer_nil))))) ?_
        exact hw
      · have hw := hw.2 c10
        refine AW.iload_n (pc := 35) dX5_askRegister_35 rfl rfl ?_
        refine AW.if_ne (pc := 36) (tgt := 168) dX5_askRegister_36 (by decide) (fun c11 => ?_) (fun c11 => ?_)
        · have hw := hw.1 c11
          refine AW.locals (L' := [.ref 47, .int p1, .int p2, .int p3, .null]) (aw_fewer_same (aw_fewer_same (aw_fewer_same (aw_fewer_same (aw_fewer_null aw_fewer_nil))))) ?_
          exact hw
        · have hw := hw.2 c11
          refine AW.aload_n (pc := 39) dX5_askRegister_39 rfl rfl ?_
          refine AW.iload_n (pc := 40) dX5_askRegister_40 rfl rfl ?_
          refine AW.callV (pc := 41) (S' := []) dX5_askRegister_41 (c_M_valueOf (d := d - 1) ht (by omega) hw) ok_X5_valueOf tw_990 ts_50 tw_988 (fix_pos (by decide)) (lay_at ht (by decide)) (show aw_cl[5]? = some _ from rfl) rfl rfl (by omega) rfl (Nat.le_of_ble_eq_true rfl) (by omega) (by omega) ?_ (fun E h' k' hq => by obtain ⟨rfl, r13, m12, hv, -⟩ := hq; cases hv)
          intro v h' k' hq
          obtain ⟨rfl, r13, m12, hv, rfl, hw⟩ := hq
          cases hv
          show AW _ _ _ _ _ _ _ 44 [.ref 47, .int p1, .int p2, .int p3, .null] [.int r13] (lay t ex o m12) k _ _
          refine AW.iconst (v := 1) (pc := 44) dX5_askRegister_44 (by decide) ?_
          refine AW.icmp_ne (pc := 45) (tgt := 168) dX5_askRegister_45 (by decide) (fun c14 => ?_) (fun c14 => ?_)
          · have hw := hw.1 c14
            refine AW.locals (L' := [.ref 47, .int p1, .int p2, .int p3, .null]) (aw_fewer_same (aw_fewer_same (aw_fewer_same (aw_fewer_same (aw_fewer_null aw_fewer_nil))))) ?_
            exact hw
          · have hw := hw.2 c14
            refine AW.aload_n (pc := 48) dX5_askRegister_48 rfl rfl ?_
            refine LW.get (pc := 49) (f := 6) (ci := 5) (T := TX5) ht (by decide) rfl dX5_askRegister_49 tw_804 rfl (by decide) rfl ?_
            refine AW.iload_n (pc := 52) dX5_askRegister_52 rfl rfl ?_
            obtain ⟨hin, hw⟩ := hw
            refine LW.iald (pc := 53) (j := p1.toNatClampNeg) ht (by decide) rfl dX5_askRegister_53 hin rfl ?_
            refine AW.iconst (v := -1) (pc := 54) dX5_askRegister_54 (by decide) ?_
            refine AW.icmp_eq (pc := 55) (tgt := 71) dX5_askRegister_55 (by decide) (fun c15 => ?_) (fun c15 => ?_)
            · have hw := hw.1 c15
              refine AW.aload_n (pc := 71) dX5_askRegister_71 rfl rfl ?_
              refine AW.aload_n (pc := 72) dX5_askRegister_72 rfl rfl ?_
              refine LW.get (pc := 73) (f := 4) (ci := 5) (T := TX5) ht (by decide) rfl dX5_askRegister_73 tw_802 rfl (by decide) rfl ?_
              refine AW.iload_n (pc := 76) dX5_askRegister_76 rfl rfl ?_
              obtain ⟨hin, hw⟩ := hw
              refine LW.iald (pc := 77) (j := p1.toNatClampNeg) ht (by decide) rfl dX5_askRegister_77 hin rfl ?_
              refine AW.callV (pc := 78) (S' := []) dX5_askRegister_78 (c_M_valueOf (d := d - 1) ht (by omega) hw) ok_X5_valueOf tw_990 ts_50 tw_988 (fix_pos (by decide)) (lay_at ht (by decide)) (show aw_cl[5]? = some _ from rfl) rfl rfl (by omega) rfl (Nat.le_of_ble_eq_true rfl) (by omega) (by omega) ?_ (fun E h' k' hq => by obtain ⟨rfl, r17, m16, hv, -⟩ := hq; cases hv)
              intro v h' k' hq
              obtain ⟨rfl, r17, m16, hv, rfl, hw⟩ := hq
              cases hv
              show AW _ _ _ _ _ _ _ 81 [.ref 47, .int p1, .int p2, .int p3, .null] [.int r17] (lay t ex o m16) k _ _
              refine AW.istore (L' := [.ref 47, .int p1, .int p2, .int p3, .int r17]) (pc := 81) dX5_askRegister_81 (by decide) rfl rfl ?_
              refine AW.aload_n (pc := 83) dX5_askRegister_83 rfl rfl ?_
              refine LW.get (pc := 84) (f := 10) (ci := 5) (T := TX5) ht (by decide) rfl dX5_askRegister_84 tw_808 rfl (by decide) rfl ?_
              refine AW.bipush (v := 30) (pc := 87) dX5_askRegister_87 (by decide) ?_
              refine AW.aload_n (pc := 89) dX5_askRegister_89 rfl rfl ?_
              refine LW.get (pc := 90) (f := 4) (ci := 5) (T := TX5) ht (by decide) rfl dX5_askRegister_90 tw_802 rfl (by decide) rfl ?_
              refine AW.iload_n (pc := 93) dX5_askRegister_93 rfl rfl ?_
              obtain ⟨hin, hw⟩ := hw
              refine LW.iald (pc := 94) (j := p1.toNatClampNeg) ht (by decide) rfl dX5_askRegister_94 hin rfl ?_
              refine AW.iadd (pc := 95) dX5_askRegister_95 ?_
              obtain ⟨hin, hw⟩ := hw
              refine LW.ialdt (pc := 96) (j := ((30 : Int32) + (m16 50 (p1).toNatClampNeg)).toNatClampNeg) ht dX5_askRegister_96 hin rfl ?_
              refine AW.iconst (v := -1) (pc := 97) dX5_askRegister_97 (by decide) ?_
              have hw := hw (fun v18 m19 => AW Z mX5_askRegister d k0 mc ms Q 145 [.ref 47, .int p1, .int p2, .int p3, .int v18] [] (lay t ex o m19) k (cs) (ss)) (by
                  intro v18 m19 hw
                  refine AW.aload_n (pc := 145) dX5_askRegister_145 rfl rfl ?_
                  refine LW.get (pc := 146) (f := 10) (ci := 5) (T := TX5) ht (by decide) rfl dX5_askRegister_146 tw_808 rfl (by decide) rfl ?_
                  refine AW.sipush (v := 192) (pc := 149) dX5_askRegister_149 (by decide) ?_
                  refine AW.iload_n (pc := 152) dX5_askRegister_152 rfl rfl ?_
                  refine AW.iadd (pc := 153) dX5_askRegister_153 ?_
                  refine AW.aload_n (pc := 154) dX5_askRegister_154 rfl rfl ?_
                  refine LW.get (pc := 155) (f := 10) (ci := 5) (T := TX5) ht (by decide) rfl dX5_askRegister_155 tw_808 rfl (by decide) rfl ?_
                  refine AW.iconst (v := 0) (pc := 158) dX5_askRegister_158 (by decide) ?_
                  refine LW.ialdt (pc := 159) (j := 0) ht dX5_askRegister_159 (vp_lit (by decide)) (by decide) ?_
                  obtain ⟨hin, hw⟩ := hw
                  have hw := hw _ rfl
                  refine LW.iastt (pc := 160) (j := ((192 : Int32) + p1).toNatClampNeg) ht dX5_askRegister_160 hin rfl ?_
                  generalize up2 m19 60 (((192 : Int32) + p1).toNatClampNeg) (m19 60 0) = m24 at hw ⊢
                  refine AW.aload_n (pc := 161) dX5_askRegister_161 rfl rfl ?_
                  refine AW.iload_n (pc := 162) dX5_askRegister_162 rfl rfl ?_
                  refine AW.iload (pc := 163) dX5_askRegister_163 rfl ?_
                  refine AW.callV (pc := 165) (S' := []) dX5_askRegister_165 (c_M_pend (d := d - 1) ht (by omega) hw) ok_X5_pend tw_1008 ts_53 tw_1006 (fix_pos (by decide)) (lay_at ht (by decide)) (show aw_cl[5]? = some _ from rfl) rfl rfl (by omega) rfl (Nat.le_of_ble_eq_true rfl) (by omega) (by omega) ?_ (fun E h' k' hq => by obtain ⟨rfl, m25, hv, -⟩ := hq; cases hv)
                  intro v h' k' hq
                  obtain ⟨rfl, m25, hv, rfl, hw⟩ := hq
                  cases hv
                  show AW _ _ _ _ _ _ _ 168 [.ref 47, .int p1, .int p2, .int p3, .int v18] [] (lay t ex o m25) k _ _
                  refine AW.locals (L' := [.ref 47, .int p1, .int p2, .int p3, .null]) (aw_fewer_same (aw_fewer_same (aw_fewer_same (aw_fewer_same (aw_fewer_null aw_fewer_nil))))) ?_
                  exact hw)
              refine AW.icmp_eq (pc := 98) (tgt := 145) dX5_askRegister_98 (by decide) (fun c21 => ?_) (fun c21 => ?_)
              · have hw := hw.1 c21
                exact hw
              · have hw := hw.2 c21
                refine AW.aload_n (pc := 101) dX5_askRegister_101 rfl rfl ?_
                refine LW.get (pc := 102) (f := 10) (ci := 5) (T := TX5) ht (by decide) rfl dX5_askRegister_102 tw_808 rfl (by decide) rfl ?_
                refine AW.bipush (v := 30) (pc := 105) dX5_askRegister_105 (by decide) ?_
                refine AW.aload_n (pc := 107) dX5_askRegister_107 rfl rfl ?_
                refine LW.get (pc := 108) (f := 4) (ci := 5) (T := TX5) ht (by decide) rfl dX5_askRegister_108 tw_802 rfl (by decide) rfl ?_
                refine AW.iload_n (pc := 111) dX5_askRegister_111 rfl rfl ?_
                obtain ⟨hin, hw⟩ := hw
                refine LW.iald (pc := 112) (j := p1.toNatClampNeg) ht (by decide) rfl dX5_askRegister_112 hin rfl ?_
                refine AW.iadd (pc := 113) dX5_askRegister_113 ?_
                obtain ⟨hin, hw⟩ := hw
                refine LW.ialdt (pc := 114) (j := ((30 : Int32) + (m16 50 (p1).toNatClampNeg)).toNatClampNeg) ht dX5_askRegister_114 hin rfl ?_
                refine AW.aload_n (pc := 115) dX5_askRegister_115 rfl rfl ?_
                refine LW.get (pc := 116) (f := 10) (ci := 5) (T := TX5) ht (by decide) rfl dX5_askRegister_116 tw_808 rfl (by decide) rfl ?_
                refine AW.iconst (v := 0) (pc := 119) dX5_askRegister_119 (by decide) ?_
                refine LW.ialdt (pc := 120) (j := 0) ht dX5_askRegister_120 (vp_lit (by decide)) (by decide) ?_
                refine AW.aload_n (pc := 121) dX5_askRegister_121 rfl rfl ?_
                refine LW.get (pc := 122) (f := 8) (ci := 5) (T := TX5) ht (by decide) rfl dX5_askRegister_122 tw_806 rfl (by decide) rfl ?_
                refine AW.iload_n (pc := 125) dX5_askRegister_125 rfl rfl ?_
                obtain ⟨hin, hw⟩ := hw
                refine LW.iald (pc := 126) (j := p1.toNatClampNeg) ht (by decide) rfl dX5_askRegister_126 hin rfl ?_
                refine AW.isub (pc := 127) dX5_askRegister_127 ?_
                refine AW.icmp_le (pc := 128) (tgt := 145) dX5_askRegister_128 (by decide) (fun c22 => ?_) (fun c22 => ?_)
                · have hw := hw.1 c22
                  exact hw
                · have hw := hw.2 c22
                  refine AW.aload_n (pc := 131) dX5_askRegister_131 rfl rfl ?_
                  refine AW.iconst (v := 3) (pc := 132) dX5_askRegister_132 (by decide) ?_
                  refine AW.aload_n (pc := 133) dX5_askRegister_133 rfl rfl ?_
                  refine LW.get (pc := 134) (f := 3) (ci := 5) (T := TX5) ht (by decide) rfl dX5_askRegister_134 tw_801 rfl (by decide) rfl ?_
                  refine AW.iload_n (pc := 137) dX5_askRegister_137 rfl rfl ?_
                  obtain ⟨hin, hw⟩ := hw
                  refine LW.iald (pc := 138) (j := p1.toNatClampNeg) ht (by decide) rfl dX5_askRegister_138 hin rfl ?_
                  refine AW.callV (pc := 139) (S' := []) dX5_askRegister_139 (c_M_noteHazard (d := d - 1) ht (by omega) hw) ok_X5_noteHazard tw_1016 ts_55 tw_1014 (fix_pos (by decide)) (lay_at ht (by decide)) (show aw_cl[5]? = some _ from rfl) rfl rfl (by omega) rfl (Nat.le_of_ble_eq_true rfl) (by omega) (by omega) ?_ (fun E h' k' hq => by obtain ⟨rfl, m23, hv, -⟩ := hq; cases hv)
                  intro v h' k' hq
                  obtain ⟨rfl, m23, hv, rfl, hw⟩ := hq
                  cases hv
                  show AW _ _ _ _ _ _ _ 142 [.ref 47, .int p1, .int p2, .int p3, .int r17] [] (lay t ex o m23) k _ _
                  refine AW.iconst (v := 2) (pc := 142) dX5_askRegister_142 (by decide) ?_
                  refine AW.istore (L' := [.ref 47, .int p1, .int p2, .int p3, .int (2 : Int32)]) (pc := 143) dX5_askRegister_143 (by decide) rfl rfl ?_
                  exact hw
            · have hw := hw.2 c15
              refine AW.aload_n (pc := 58) dX5_askRegister_58 rfl rfl ?_
              refine AW.aload_n (pc := 59) dX5_askRegister_59 rfl rfl ?_
              refine LW.get (pc := 60) (f := 6) (ci := 5) (T := TX5) ht (by decide) rfl dX5_askRegister_60 tw_804 rfl (by decide) rfl ?_
              refine AW.iload_n (pc := 63) dX5_askRegister_63 rfl rfl ?_
              obtain ⟨hin, hw⟩ := hw
              refine LW.iald (pc := 64) (j := p1.toNatClampNeg) ht (by decide) rfl dX5_askRegister_64 hin rfl ?_
              refine AW.callV (pc := 65) (S' := []) dX5_askRegister_65 (c_M_valueOf (d := d - 1) ht (by omega) hw) ok_X5_valueOf tw_990 ts_50 tw_988 (fix_pos (by decide)) (lay_at ht (by decide)) (show aw_cl[5]? = some _ from rfl) rfl rfl (by omega) rfl (Nat.le_of_ble_eq_true rfl) (by omega) (by omega) ?_ (fun E h' k' hq => by obtain ⟨rfl, r27, m26, hv, -⟩ := hq; cases hv)
              intro v h' k' hq
              obtain ⟨rfl, r27, m26, hv, rfl, hw⟩ := hq
              cases hv
              show AW _ _ _ _ _ _ _ 68 [.ref 47, .int p1, .int p2, .int p3, .null] [.int r27] (lay t ex o m26) k _ _
              refine AW.if_ne (pc := 68) (tgt := 168) dX5_askRegister_68 (by decide) (fun c28 => ?_) (fun c28 => ?_)
              · have hw := hw.1 c28
                refine AW.locals (L' := [.ref 47, .int p1, .int p2, .int p3, .null]) (aw_fewer_same (aw_fewer_same (aw_fewer_same (aw_fewer_same (aw_fewer_null aw_fewer_nil))))) ?_
                exact hw
              · have hw := hw.2 c28
                refine AW.aload_n (pc := 71) dX5_askRegister_71 rfl rfl ?_
                refine AW.aload_n (pc := 72) dX5_askRegister_72 rfl rfl ?_
                refine LW.get (pc := 73) (f := 4) (ci := 5) (T := TX5) ht (by decide) rfl dX5_askRegister_73 tw_802 rfl (by decide) rfl ?_
                refine AW.iload_n (pc := 76) dX5_askRegister_76 rfl rfl ?_
                obtain ⟨hin, hw⟩ := hw
                refine LW.iald (pc := 77) (j := p1.toNatClampNeg) ht (by decide) rfl dX5_askRegister_77 hin rfl ?_
                refine AW.callV (pc := 78) (S' := []) dX5_askRegister_78 (c_M_valueOf (d := d - 1) ht (by omega) hw) ok_X5_valueOf tw_990 ts_50 tw_988 (fix_pos (by decide)) (lay_at ht (by decide)) (show aw_cl[5]? = some _ from rfl) rfl rfl (by omega) rfl (Nat.le_of_ble_eq_true rfl) (by omega) (by omega) ?_ (fun E h' k' hq => by obtain ⟨rfl, r30, m29, hv, -⟩ := hq; cases hv)
                intro v h' k' hq
                obtain ⟨rfl, r30, m29, hv, rfl, hw⟩ := hq
                cases hv
                show AW _ _ _ _ _ _ _ 81 [.ref 47, .int p1, .int p2, .int p3, .null] [.int r30] (lay t ex o m29) k _ _
                refine AW.istore (L' := [.ref 47, .int p1, .int p2, .int p3, .int r30]) (pc := 81) dX5_askRegister_81 (by decide) rfl rfl ?_
                refine AW.aload_n (pc := 83) dX5_askRegister_83 rfl rfl ?_
                refine LW.get (pc := 84) (f := 10) (ci := 5) (T := TX5) ht (by decide) rfl dX5_askRegister_84 tw_808 rfl (by decide) rfl ?_
                refine AW.bipush (v := 30) (pc := 87) dX5_askRegister_87 (by decide) ?_
                refine AW.aload_n (pc := 89) dX5_askRegister_89 rfl rfl ?_
                refine LW.get (pc := 90) (f := 4) (ci := 5) (T := TX5) ht (by decide) rfl dX5_askRegister_90 tw_802 rfl (by decide) rfl ?_
                refine AW.iload_n (pc := 93) dX5_askRegister_93 rfl rfl ?_
                obtain ⟨hin, hw⟩ := hw
                refine LW.iald (pc := 94) (j := p1.toNatClampNeg) ht (by decide) rfl dX5_askRegister_94 hin rfl ?_
                refine AW.iadd (pc := 95) dX5_askRegister_95 ?_
                obtain ⟨hin, hw⟩ := hw
                refine LW.ialdt (pc := 96) (j := ((30 : Int32) + (m29 50 (p1).toNatClampNeg)).toNatClampNeg) ht dX5_askRegister_96 hin rfl ?_
                refine AW.iconst (v := -1) (pc := 97) dX5_askRegister_97 (by decide) ?_
                have hw := hw (fun v31 m32 => AW Z mX5_askRegister d k0 mc ms Q 145 [.ref 47, .int p1, .int p2, .int p3, .int v31] [] (lay t ex o m32) k (cs) (ss)) (by
                    intro v31 m32 hw
                    refine AW.aload_n (pc := 145) dX5_askRegister_145 rfl rfl ?_
                    refine LW.get (pc := 146) (f := 10) (ci := 5) (T := TX5) ht (by decide) rfl dX5_askRegister_146 tw_808 rfl (by decide) rfl ?_
                    refine AW.sipush (v := 192) (pc := 149) dX5_askRegister_149 (by decide) ?_
                    refine AW.iload_n (pc := 152) dX5_askRegister_152 rfl rfl ?_
                    refine AW.iadd (pc := 153) dX5_askRegister_153 ?_
                    refine AW.aload_n (pc := 154) dX5_askRegister_154 rfl rfl ?_
                    refine LW.get (pc := 155) (f := 10) (ci := 5) (T := TX5) ht (by decide) rfl dX5_askRegister_155 tw_808 rfl (by decide) rfl ?_
                    refine AW.iconst (v := 0) (pc := 158) dX5_askRegister_158 (by decide) ?_
                    refine LW.ialdt (pc := 159) (j := 0) ht dX5_askRegister_159 (vp_lit (by decide)) (by decide) ?_
                    obtain ⟨hin, hw⟩ := hw
                    have hw := hw _ rfl
                    refine LW.iastt (pc := 160) (j := ((192 : Int32) + p1).toNatClampNeg) ht dX5_askRegister_160 hin rfl ?_
                    generalize up2 m32 60 (((192 : Int32) + p1).toNatClampNeg) (m32 60 0) = m37 at hw ⊢
                    refine AW.aload_n (pc := 161) dX5_askRegister_161 rfl rfl ?_
                    refine AW.iload_n (pc := 162) dX5_askRegister_162 rfl rfl ?_
                    refine AW.iload (pc := 163) dX5_askRegister_163 rfl ?_
                    refine AW.callV (pc := 165) (S' := []) dX5_askRegister_165 (c_M_pend (d := d - 1) ht (by omega) hw) ok_X5_pend tw_1008 ts_53 tw_1006 (fix_pos (by decide)) (lay_at ht (by decide)) (show aw_cl[5]? = some _ from rfl) rfl rfl (by omega) rfl (Nat.le_of_ble_eq_true rfl) (by omega) (by omega) ?_ (fun E h' k' hq => by obtain ⟨rfl, m38, hv, -⟩ := hq; cases hv)
                    intro v h' k' hq
                    obtain ⟨rfl, m38, hv, rfl, hw⟩ := hq
                    cases hv
                    show AW _ _ _ _ _ _ _ 168 [.ref 47, .int p1, .int p2, .int p3, .int v31] [] (lay t ex o m38) k _ _
                    refine AW.locals (L' := [.ref 47, .int p1, .int p2, .int p3, .null]) (aw_fewer_same (aw_fewer_same (aw_fewer_same (aw_fewer_same (aw_fewer_null aw_fewer_nil))))) ?_
                    exact hw)
                refine AW.icmp_eq (pc := 98) (tgt := 145) dX5_askRegister_98 (by decide) (fun c34 => ?_) (fun c34 => ?_)
                · have hw := hw.1 c34
                  exact hw
                · have hw := hw.2 c34
                  refine AW.aload_n (pc := 101) dX5_askRegister_101 rfl rfl ?_
                  refine LW.get (pc := 102) (f := 10) (ci := 5) (T := TX5) ht (by decide) rfl dX5_askRegister_102 tw_808 rfl (by decide) rfl ?_
                  refine AW.bipush (v := 30) (pc := 105) dX5_askRegister_105 (by decide) ?_
                  refine AW.aload_n (pc := 107) dX5_askRegister_107 rfl rfl ?_
                  refine LW.get (pc := 108) (f := 4) (ci := 5) (T := TX5) ht (by decide) rfl dX5_askRegister_108 tw_802 rfl (by decide) rfl ?_
                  refine AW.iload_n (pc := 111) dX5_askRegister_111 rfl rfl ?_
                  obtain ⟨hin, hw⟩ := hw
                  refine LW.iald (pc := 112) (j := p1.toNatClampNeg) ht (by decide) rfl dX5_askRegister_112 hin rfl ?_
                  refine AW.iadd (pc := 113) dX5_askRegister_113 ?_
                  obtain ⟨hin, hw⟩ := hw
                  refine LW.ialdt (pc := 114) (j := ((30 : Int32) + (m29 50 (p1).toNatClampNeg)).toNatClampNeg) ht dX5_askRegister_114 hin rfl ?_
                  refine AW.aload_n (pc := 115) dX5_askRegister_115 rfl rfl ?_
                  refine LW.get (pc := 116) (f := 10) (ci := 5) (T := TX5) ht (by decide) rfl dX5_askRegister_116 tw_808 rfl (by decide) rfl ?_
                  refine AW.iconst (v := 0) (pc := 119) dX5_askRegister_119 (by decide) ?_
                  refine LW.ialdt (pc := 120) (j := 0) ht dX5_askRegister_120 (vp_lit (by decide)) (by decide) ?_
                  refine AW.aload_n (pc := 121) dX5_askRegister_121 rfl rfl ?_
                  refine LW.get (pc := 122) (f := 8) (ci := 5) (T := TX5) ht (by decide) rfl dX5_askRegister_122 tw_806 rfl (by decide) rfl ?_
                  refine AW.iload_n (pc := 125) dX5_askRegister_125 rfl rfl ?_
                  obtain ⟨hin, hw⟩ := hw
                  refine LW.iald (pc := 126) (j := p1.toNatClampNeg) ht (by decide) rfl dX5_askRegister_126 hin rfl ?_
                  refine AW.isub (pc := 127) dX5_askRegister_127 ?_
                  refine AW.icmp_le (pc := 128) (tgt := 145) dX5_askRegister_128 (by decide) (fun c35 => ?_) (fun c35 => ?_)
                  · have hw := hw.1 c35
                    exact hw
                  · have hw := hw.2 c35
                    refine AW.aload_n (pc := 131) dX5_askRegister_131 rfl rfl ?_
                    refine AW.iconst (v := 3) (pc := 132) dX5_askRegister_132 (by decide) ?_
                    refine AW.aload_n (pc := 133) dX5_askRegister_133 rfl rfl ?_
                    refine LW.get (pc := 134) (f := 3) (ci := 5) (T := TX5) ht (by decide) rfl dX5_askRegister_134 tw_801 rfl (by decide) rfl ?_
                    refine AW.iload_n (pc := 137) dX5_askRegister_137 rfl rfl ?_
                    obtain ⟨hin, hw⟩ := hw
                    refine LW.iald (pc := 138) (j := p1.toNatClampNeg) ht (by decide) rfl dX5_askRegister_138 hin rfl ?_
                    refine AW.callV (pc := 139) (S' := []) dX5_askRegister_139 (c_M_noteHazard (d := d - 1) ht (by omega) hw) ok_X5_noteHazard tw_1016 ts_55 tw_1014 (fix_pos (by decide)) (lay_at ht (by decide)) (show aw_cl[5]? = some _ from rfl) rfl rfl (by omega) rfl (Nat.le_of_ble_eq_true rfl) (by omega) (by omega) ?_ (fun E h' k' hq => by obtain ⟨rfl, m36, hv, -⟩ := hq; cases hv)
                    intro v h' k' hq
                    obtain ⟨rfl, m36, hv, rfl, hw⟩ := hq
                    cases hv
                    show AW _ _ _ _ _ _ _ 142 [.ref 47, .int p1, .int p2, .int p3, .int r30] [] (lay t ex o m36) k _ _
                    refine AW.iconst (v := 2) (pc := 142) dX5_askRegister_142 (by decide) ?_
                    refine AW.istore (L' := [.ref 47, .int p1, .int p2, .int p3, .int (2 : Int32)]) (pc := 143) dX5_askRegister_143 (by decide) rfl rfl ?_
                    exact hw)
  refine AW.icmp_ne (pc := 7) (tgt := 25) dX5_askRegister_7 (by decide) (fun c3 => ?_) (fun c3 => ?_)
  · have hw := hw.1 c3
    exact hw
  · have hw := hw.2 c3
    refine AW.aload_n (pc := 10) dX5_askRegister_10 rfl rfl ?_
    refine AW.iload_n (pc := 11) dX5_askRegister_11 rfl rfl ?_
    refine AW.callV (pc := 12) (S' := []) dX5_askRegister_12 (c_M_valueOf (d := d - 1) ht (by omega) hw) ok_X5_valueOf tw_990 ts_50 tw_988 (fix_pos (by decide)) (lay_at ht (by decide)) (show aw_cl[5]? = some _ from rfl) rfl rfl (by omega) rfl (Nat.le_of_ble_eq_true rfl) (by omega) (by omega) ?_ (fun E h' k' hq => by obtain ⟨rfl, r5, m4, hv, -⟩ := hq; cases hv)
    intro v h' k' hq
    obtain ⟨rfl, r5, m4, hv, rfl, hw⟩ := hq
    cases hv
    show AW _ _ _ _ _ _ _ 15 [.ref 47, .int p1, .int p2, .int p3, .null] [.int r5] (lay t ex o m4) k _ _
    refine AW.iconst (v := 1) (pc := 15) dX5_askRegister_15 (by decide) ?_
    refine AW.icmp_ne (pc := 16) (tgt := 25) dX5_askRegister_16 (by decide) (fun c6 => ?_) (fun c6 => ?_)
    · have hw := hw.1 c6
      exact hw
    · have hw := hw.2 c6
      refine AW.aload_n (pc := 19) dX5_askRegister_19 rfl rfl ?_
      refine AW.iload_n (pc := 20) dX5_askRegister_20 rfl rfl ?_
      refine AW.iconst (v := 0) (pc := 21) dX5_askRegister_21 (by decide) ?_
      refine AW.callV (pc := 22) (S' := []) dX5_askRegister_22 (c_M_pend (d := d - 1) ht (by omega) hw) ok_X5_pend tw_1008 ts_53 tw_1006 (fix_pos (by decide)) (lay_at ht (by decide)) (show aw_cl[5]? = some _ from rfl) rfl rfl (by omega) rfl (Nat.le_of_ble_eq_true rfl) (by omega) (by omega) ?_ (fun E h' k' hq => by obtain ⟨rfl, m7, hv, -⟩ := hq; cases hv)
      intro v h' k' hq
      obtain ⟨rfl, m7, hv, rfl, hw⟩ := hq
      cases hv
      show AW _ _ _ _ _ _ _ 25 [.ref 47, .int p1, .int p2, .int p3, .null] [] (lay t ex o m7) k _ _
      exact hw
set_option maxRecDepth 100000 in
set_option maxHeartbeats 4000000 in
theorem c_M_askRegister {d k t : Nat} {ex : Hp} {o : Nat → Int64} {K : Mem → Prop} {m : Mem} {p1 : Int32} {p2 : Int32} {p3 : Int32} (ht : tok t) (hd : 3 ≤ d) (hw : w_M_askRegister p1 p2 p3 m K) : AM mX5_askRegister d [.ref 47, .int p1, .int p2, .int p3] (lay t ex o m) k 0 0 (fun oc h' k' => k = k' ∧ ∃ (m' : Mem), oc = .inl none ∧ h' = lay t ex o m' ∧ K m') :=
  AM.intro (μ := mX5_askRegister) (n := 1) (by decide) rfl rfl rfl (b_M_askRegister ht hd (by omega) (by omega) (fun _ hK => ⟨rfl, _, rfl, rfl, hK⟩) p1 p2 p3 hw)
def w_M_driver_2 : Nat → Int32 → Int32 → Mem → (Int32 → Int32 → Mem → Prop) → (Int32 → Mem → Prop) → Prop
  | 0, _, _, _, _, _ => False
  | n + 1, x1, x2, m, E28, K => (((m 47 1) ≤ x2 → E28 x1 x2 m) ∧ (¬ ((m 47 1) ≤ x2) → vp_in x2 30 ∧ ((¬ ((m 49 (x2).toNatClampNeg) = x1) → w_M_driver_2 n x1 (x2 + 1) m E28 K) ∧ ((m 49 (x2).toNatClampNeg) = x1 → K x2 m))))
def w_M_driver (p1 : Int32) (m : Mem) (K : Int32 → Mem → Prop) : Prop :=
  w_M_driver_2 31 p1 (0 : Int32) m (fun y3 y4 m5 => K (-1 : Int32) m5) K
set_option maxRecDepth 100000 in
set_option maxHeartbeats 4000000 in
theorem l_M_driver_2 {Z : Gz} {d k0 mc ms cs ss k t : Nat} {Q : Po} {ex : Hp} {o : Nat → Int64} {K : Int32 → Mem → Prop}  (ht : tok t) (hd : 2 ≤ d) (hcs : cs ≤ mc) (hss : ss ≤ ms) (hQ : ∀ (r : Int32) (m : Mem), K r m → Q (.inl (some (.int r))) (lay t ex o m) k) {E28 : Int32 → Int32 → Mem → Prop} (hE28 : ∀ (x1 : Int32) (x2 : Int32) (m : Mem), E28 x1 x2 m → AW Z mX5_driver d k0 mc ms Q 28 [.ref 47, .int x1, .int x2] [] (lay t ex o m) k cs ss) : ∀ (n : Nat) (x1 : Int32) (x2 : Int32) (m : Mem),  w_M_driver_2 n x1 x2 m E28 K → AW Z mX5_driver d k0 mc ms Q 2 [.ref 47, .int x1, .int x2] [] (lay t ex o m) k cs ss := by
  intro n
  induction n with
  | zero =>
    intros; rename_i hw; exact absurd hw (by simp [w_M_driver_2])
  | succ n ih =>
    intro x1 x2 m hw
    unfold w_M_driver_2 at hw
    refine AW.iload_n (pc := 2) dX5_driver_2 rfl rfl ?_
    refine AW.aload_n (pc := 3) dX5_driver_3 rfl rfl ?_
    refine LW.get (pc := 4) (f := 1) (ci := 5) (T := TX5) ht (by decide) rfl dX5_driver_4 tw_799 rfl (by decide) rfl ?_
    refine AW.icmp_ge (pc := 7) (tgt := 28) dX5_driver_7 (by decide) (fun c1 => ?_) (fun c1 => ?_)
    · have hw := hw.1 c1
      exact hE28 x1 x2 m hw
    · have hw := hw.2 c1
      refine AW.aload_n (pc := 10) dX5_driver_10 rfl rfl ?_
      refine LW.get (pc := 11) (f := 3) (ci := 5) (T := TX5) ht (by decide) rfl dX5_driver_11 tw_801 rfl (by decide) rfl ?_
      refine AW.iload_n (pc := 14) dX5_driver_14 rfl rfl ?_
      obtain ⟨hin, hw⟩ := hw
      refine LW.iald (pc := 15) (j := x2.toNatClampNeg) ht (by decide) rfl dX5_driver_15 hin rfl ?_
      refine AW.iload_n (pc := 16) dX5_driver_16 rfl rfl ?_
      refine AW.icmp_ne (pc := 17) (tgt := 22) dX5_driver_17 (by decide) (fun c2 => ?_) (fun c2 => ?_)
      · have hw := hw.1 c2
        refine AW.iinc (v := (x2 + 1)) (L' := [.ref 47, .int x1, .int (x2 + 1)]) (pc := 22) dX5_driver_22 rfl rfl (by decide) rfl rfl ?_
        refine AW.goto (pc := 25) (tgt := 2) dX5_driver_25 (by decide) ?_
        exact ih x1 (x2 + 1) m hw
      · have hw := hw.2 c2
        refine AW.iload_n (pc := 20) dX5_driver_20 rfl rfl ?_
        exact AW.iret (pc := 21) dX5_driver_21 rfl rfl (by omega) (by omega) (hQ _ _ hw)
set_option maxRecDepth 100000 in
set_option maxHeartbeats 4000000 in
theorem b_M_driver {Z : Gz} {d k0 mc ms cs ss k t : Nat} {Q : Po} {ex : Hp} {o : Nat → Int64} {K : Int32 → Mem → Prop}  (ht : tok t) (hd : 2 ≤ d) (hcs : cs + 0 ≤ mc) (hss : ss + 0 ≤ ms) (hQ : ∀ (r : Int32) (m : Mem), K r m → Q (.inl (some (.int r))) (lay t ex o m) k) {m : Mem} (p1 : Int32) (hw : w_M_driver p1 m K) : AW Z mX5_driver d k0 mc ms Q 0 [.ref 47, .int p1, .null] [] (lay t ex o m) k cs ss := by
  unfold w_M_driver at hw
  refine AW.iconst (v := 0) (pc := 0) dX5_driver_0 (by decide) ?_
  refine AW.istore_n (L' := [.ref 47, .int p1, .int (0 : Int32)]) (pc := 1) dX5_driver_1 rfl (by decide) rfl rfl ?_
  refine l_M_driver_2 ht hd (by omega) (by omega) hQ ?_ 31 p1 (0 : Int32) m hw
  intro y3 y4 m5 hw
  refine AW.iconst (v := -1) (pc := 28) dX5_driver_28 (by decide) ?_
  exact AW.iret (pc := 29) dX5_driver_29 rfl rfl (by omega) (by omega) (hQ _ _ hw)
set_option maxRecDepth 100000 in
set_option maxHeartbeats 4000000 in
theorem c_M_driver {d k t : Nat} {ex : Hp} {o : Nat → Int64} {K : Int32 → Mem → Prop} {m : Mem} {p1 : Int32} (ht : tok t) (hd : 2 ≤ d) (hw : w_M_driver p1 m K) : AM mX5_driver d [.ref 47, .int p1] (lay t ex o m) k 0 0 (fun oc h' k' => k = k' ∧ ∃ (r : Int32) (m' : Mem), oc = .inl (some (.int r)) ∧ h' = lay t ex o m' ∧ K r m') :=
  AM.intro (μ := mX5_driver) (n := 1) (by decide) rfl rfl rfl (b_M_driver ht hd (by omega) (by omega) (fun _ _ hK => ⟨rfl, _, _, rfl, rfl, hK⟩) p1 hw)
def w_M_isInput (p1 : Int32) (m : Mem) (K : Int32 → Mem → Prop) : Prop :=
  w_M_driver p1 m (fun r2 m1 => ((r2 = (-1 : Int32) → K (0 : Int32) m1) ∧ (¬ (r2 = (-1 : Int32)) → w_M_driver p1 m1 (fun r5 m4 => vp_in r5 30 ∧ ((¬ ((m4 48 (r5).toNatClampNeg) = (-1 : Int32)) → K (0 : Int32) m4) ∧ ((m4 48 (r5).toNatClampNeg) = (-1 : Int32) → K (1 : Int32) m4))))))
set_option maxRecDepth 100000 in
set_option maxHeartbeats 4000000 in
theorem b_M_isInput {Z : Gz} {d k0 mc ms cs ss k t : Nat} {Q : Po} {ex : Hp} {o : Nat → Int64} {K : Int32 → Mem → Prop}  (ht : tok t) (hd : 3 ≤ d) (hcs : cs + 0 ≤ mc) (hss : ss + 0 ≤ ms) (hQ : ∀ (r : Int32) (m : Mem), K r m → Q (.inl (some (.int r))) (lay t ex o m) k) {m : Mem} (p1 : Int32) (hw : w_M_isInput p1 m K) : AW Z mX5_isInput d k0 mc ms Q 0 [.ref 47, .int p1] [] (lay t ex o m) k cs ss := by
  unfold w_M_isInput at hw
  refine AW.aload_n (pc := 0) dX5_isInput_0 rfl rfl ?_
  refine AW.iload_n (pc := 1) dX5_isInput_1 rfl rfl ?_
  refine AW.callV (pc := 2) (S' := []) dX5_isInput_2 (c_M_driver (d := d - 1) ht (by omega) hw) ok_X5_driver tw_950 ts_45 tw_948 (fix_pos (by decide)) (lay_at ht (by decide)) (show aw_cl[5]? = some _ from rfl) rfl rfl (by omega) rfl (Nat.le_of_ble_eq_true rfl) (by omega) (by omega) ?_ (fun E h' k' hq => by obtain ⟨rfl, r2, m1, hv, -⟩ := hq; cases hv)
  intro v h' k' hq
  obtain ⟨rfl, r2, m1, hv, rfl, hw⟩ := hq
  cases hv
  show AW _ _ _ _ _ _ _ 5 [.ref 47, .int p1] [.int r2] (lay t ex o m1) k _ _
  refine AW.iconst (v := -1) (pc := 5) dX5_isInput_5 (by decide) ?_
  refine AW.icmp_eq (pc := 6) (tgt := 27) dX5_isInput_6 (by decide) (fun c3 => ?_) (fun c3 => ?_)
  · have hw := hw.1 c3
    refine AW.iconst (v := 0) (pc := 27) dX5_isInput_27 (by decide) ?_
    exact AW.iret (pc := 28) dX5_isInput_28 rfl (by decide) (by omega) (by omega) (hQ _ _ hw)
  · have hw := hw.2 c3
    refine AW.aload_n (pc := 9) dX5_isInput_9 rfl rfl ?_
    refine LW.get (pc := 10) (f := 2) (ci := 5) (T := TX5) ht (by decide) rfl dX5_isInput_10 tw_800 rfl (by decide) rfl ?_
    refine AW.aload_n (pc := 13) dX5_isInput_13 rfl rfl ?_
    refine AW.iload_n (pc := 14) dX5_isInput_14 rfl rfl ?_
    refine AW.callV (pc := 15) (S' := [.ref 48]) dX5_isInput_15 (c_M_driver (d := d - 1) ht (by omega) hw) ok_X5_driver tw_950 ts_45 tw_948 (fix_pos (by decide)) (lay_at ht (by decide)) (show aw_cl[5]? = some _ from rfl) rfl rfl (by omega) rfl (Nat.le_of_ble_eq_true rfl) (by omega) (by omega) ?_ (fun E h' k' hq => by obtain ⟨rfl, r5, m4, hv, -⟩ := hq; cases hv)
    intro v h' k' hq
    obtain ⟨rfl, r5, m4, hv, rfl, hw⟩ := hq
    cases hv
    show AW _ _ _ _ _ _ _ 18 [.ref 47, .int p1] [.int r5, .ref 48] (lay t ex o m4) k _ _
    obtain ⟨hin, hw⟩ := hw
    refine LW.iald (pc := 18) (j := r5.toNatClampNeg) ht (by decide) rfl dX5_isInput_18 hin rfl ?_
    refine AW.iconst (v := -1) (pc := 19) dX5_isInput_19 (by decide) ?_
    refine AW.icmp_ne (pc := 20) (tgt := 27) dX5_isInput_20 (by decide) (fun c6 => ?_) (fun c6 => ?_)
    · have hw := hw.1 c6
      refine AW.iconst (v := 0) (pc := 27) dX5_isInput_27 (by decide) ?_
      exact AW.iret (pc := 28) dX5_isInput_28 rfl (by decide) (by omega) (by omega) (hQ _ _ hw)
    · have hw := hw.2 c6
      refine AW.iconst (v := 1) (pc := 23) dX5_isInput_23 (by decide) ?_
      refine AW.goto (pc := 24) (tgt := 28) dX5_isInput_24 (by decide) ?_
      exact AW.iret (pc := 28) dX5_isInput_28 rfl (by decide) (by omega) (by omega) (hQ _ _ hw)
set_option maxRecDepth 100000 in
set_option maxHeartbeats 4000000 in
theorem c_M_isInput {d k t : Nat} {ex : Hp} {o : Nat → Int64} {K : Int32 → Mem → Prop} {m : Mem} {p1 : Int32} (ht : tok t) (hd : 3 ≤ d) (hw : w_M_isInput p1 m K) : AM mX5_isInput d [.ref 47, .int p1] (lay t ex o m) k 0 0 (fun oc h' k' => k = k' ∧ ∃ (r : Int32) (m' : Mem), oc = .inl (some (.int r)) ∧ h' = lay t ex o m' ∧ K r m') :=
  AM.intro (μ := mX5_isInput) (n := 0) (by decide) rfl rfl rfl (b_M_isInput ht hd (by omega) (by omega) (fun _ _ hK => ⟨rfl, _, _, rfl, rfl, hK⟩) p1 hw)
def w_M_asked (p1 : Int32) (p2 : Int32) (p3 : Int32) (m : Mem) (K : Int32 → Mem → Prop) : Prop :=
  ((¬ ((m 47 11) = 0) → w_M_isWire p1 m (fun r3 m2 => ((r3 = 0 → K (2 : Int32) m2) ∧ (¬ (r3 = 0) → w_M_isWire p3 m2 (fun r6 m5 => ((¬ (r6 = 0) → w_M_isInput p1 m5 (fun r9 m8 => ((r9 = 0 → K (3 : Int32) m8) ∧ (¬ (r9 = 0) → w_M_isIn p2 (0 : Int32) (1 : Int32) m8 (fun r12 m11 => ((r12 = 0 → K (3 : Int32) m11) ∧ (¬ (r12 = 0) → K (0 : Int32) m11))))))) ∧ (r6 = 0 → K (2 : Int32) m5))))))) ∧ ((m 47 11) = 0 → K (1 : Int32) m))
set_option maxRecDepth 100000 in
set_option maxHeartbeats 4000000 in
theorem b_M_asked {Z : Gz} {d k0 mc ms cs ss k t : Nat} {Q : Po} {ex : Hp} {o : Nat → Int64} {K : Int32 → Mem → Prop}  (ht : tok t) (hd : 4 ≤ d) (hcs : cs + 0 ≤ mc) (hss : ss + 0 ≤ ms) (hQ : ∀ (r : Int32) (m : Mem), K r m → Q (.inl (some (.int r))) (lay t ex o m) k) {m : Mem} (p1 : Int32) (p2 : Int32) (p3 : Int32) (hw : w_M_asked p1 p2 p3 m K) : AW Z mX5_asked d k0 mc ms Q 0 [.ref 47, .int p1, .int p2, .int p3] [] (lay t ex o m) k cs ss := by
  unfold w_M_asked at hw
  refine AW.aload_n (pc := 0) dX5_asked_0 rfl rfl ?_
  refine LW.get (pc := 1) (f := 11) (ci := 5) (T := TX5) ht (by decide) rfl dX5_asked_1 tw_809 rfl (by decide) rfl ?_
  refine AW.if_ne (pc := 4) (tgt := 9) dX5_asked_4 (by decide) (fun c1 => ?_) (fun c1 => ?_)
  · have hw := hw.1 c1
    refine AW.iload_n (pc := 9) dX5_asked_9 rfl rfl ?_
    refine AW.callS (pc := 10) (S' := []) dX5_asked_10 (c_M_isWire (d := d - 1) ht (by omega) hw) ok_X5_isWire tw_856 tw_855 rfl (by omega) rfl (Nat.le_of_ble_eq_true rfl) (by omega) (by omega) ?_ (fun E h' k' hq => by obtain ⟨rfl, r3, m2, hv, -⟩ := hq; cases hv)
    intro v h' k' hq
    obtain ⟨rfl, r3, m2, hv, rfl, hw⟩ := hq
    cases hv
    show AW _ _ _ _ _ _ _ 13 [.ref 47, .int p1, .int p2, .int p3] [.int r3] (lay t ex o m2) k _ _
    refine AW.if_eq (pc := 13) (tgt := 23) dX5_asked_13 (by decide) (fun c4 => ?_) (fun c4 => ?_)
    · have hw := hw.1 c4
      refine AW.iconst (v := 2) (pc := 23) dX5_asked_23 (by decide) ?_
      exact AW.iret (pc := 24) dX5_asked_24 rfl rfl (by omega) (by omega) (hQ _ _ hw)
    · have hw := hw.2 c4
      refine AW.iload_n (pc := 16) dX5_asked_16 rfl rfl ?_
      refine AW.callS (pc := 17) (S' := []) dX5_asked_17 (c_M_isWire (d := d - 1) ht (by omega) hw) ok_X5_isWire tw_856 tw_855 rfl (by omega) rfl (Nat.le_of_ble_eq_true rfl) (by omega) (by omega) ?_ (fun E h' k' hq => by obtain ⟨rfl, r6, m5, hv, -⟩ := hq; cases hv)
      intro v h' k' hq
      obtain ⟨rfl, r6, m5, hv, rfl, hw⟩ := hq
      cases hv
      show AW _ _ _ _ _ _ _ 20 [.ref 47, .int p1, .int p2, .int p3] [.int r6] (lay t ex o m5) k _ _
      refine AW.if_ne (pc := 20) (tgt := 25) dX5_asked_20 (by decide) (fun c7 => ?_) (fun c7 => ?_)
      · have hw := hw.1 c7
        refine AW.aload_n (pc := 25) dX5_asked_25 rfl rfl ?_
        refine AW.iload_n (pc := 26) dX5_asked_26 rfl rfl ?_
        refine AW.callV (pc := 27) (S' := []) dX5_asked_27 (c_M_isInput (d := d - 1) ht (by omega) hw) ok_X5_isInput tw_1032 ts_58 tw_1030 (fix_pos (by decide)) (lay_at ht (by decide)) (show aw_cl[5]? = some _ from rfl) rfl rfl (by omega) rfl (Nat.le_of_ble_eq_true rfl) (by omega) (by omega) ?_ (fun E h' k' hq => by obtain ⟨rfl, r9, m8, hv, -⟩ := hq; cases hv)
        intro v h' k' hq
        obtain ⟨rfl, r9, m8, hv, rfl, hw⟩ := hq
        cases hv
        show AW _ _ _ _ _ _ _ 30 [.ref 47, .int p1, .int p2, .int p3] [.int r9] (lay t ex o m8) k _ _
        refine AW.if_eq (pc := 30) (tgt := 46) dX5_asked_30 (by decide) (fun c10 => ?_) (fun c10 => ?_)
        · have hw := hw.1 c10
          refine AW.iconst (v := 3) (pc := 46) dX5_asked_46 (by decide) ?_
          exact AW.iret (pc := 47) dX5_asked_47 rfl rfl (by omega) (by omega) (hQ _ _ hw)
        · have hw := hw.2 c10
          refine AW.iload_n (pc := 33) dX5_asked_33 rfl rfl ?_
          refine AW.iconst (v := 0) (pc := 34) dX5_asked_34 (by decide) ?_
          refine AW.iconst (v := 1) (pc := 35) dX5_asked_35 (by decide) ?_
          refine AW.callS (pc := 36) (S' := []) dX5_asked_36 (c_M_isIn (d := d - 1) ht (by omega) hw) ok_X5_isIn tw_859 tw_858 rfl (by omega) rfl (Nat.le_of_ble_eq_true rfl) (by omega) (by omega) ?_ (fun E h' k' hq => by obtain ⟨rfl, r12, m11, hv, -⟩ := hq; cases hv)
          intro v h' k' hq
          obtain ⟨rfl, r12, m11, hv, rfl, hw⟩ := hq
          cases hv
          show AW _ _ _ _ _ _ _ 39 [.ref 47, .int p1, .int p2, .int p3] [.int r12] (lay t ex o m11) k _ _
          refine AW.if_eq (pc := 39) (tgt := 46) dX5_asked_39 (by decide) (fun c13 => ?_) (fun c13 => ?_)
          · have hw := hw.1 c13
            refine AW.iconst (v := 3) (pc := 46) dX5_asked_46 (by decide) ?_
            exact AW.iret (pc := 47) dX5_asked_47 rfl rfl (by omega) (by omega) (hQ _ _ hw)
          · have hw := hw.2 c13
            refine AW.iconst (v := 0) (pc := 42) dX5_asked_42 (by decide) ?_
            refine AW.goto (pc := 43) (tgt := 47) dX5_asked_43 (by decide) ?_
            exact AW.iret (pc := 47) dX5_asked_47 rfl rfl (by omega) (by omega) (hQ _ _ hw)
      · have hw := hw.2 c7
        refine AW.iconst (v := 2) (pc := 23) dX5_asked_23 (by decide) ?_
        exact AW.iret (pc := 24) dX5_asked_24 rfl rfl (by omega) (by omega) (hQ _ _ hw)
  · have hw := hw.2 c1
    refine AW.iconst (v := 1) (pc := 7) dX5_asked_7 (by decide) ?_
    exact AW.iret (pc := 8) dX5_asked_8 rfl rfl (by omega) (by omega) (hQ _ _ hw)
set_option maxRecDepth 100000 in
set_option maxHeartbeats 4000000 in
theorem c_M_asked {d k t : Nat} {ex : Hp} {o : Nat → Int64} {K : Int32 → Mem → Prop} {m : Mem} {p1 : Int32} {p2 : Int32} {p3 : Int32} (ht : tok t) (hd : 4 ≤ d) (hw : w_M_asked p1 p2 p3 m K) : AM mX5_asked d [.ref 47, .int p1, .int p2, .int p3] (lay t ex o m) k 0 0 (fun oc h' k' => k = k' ∧ ∃ (r : Int32) (m' : Mem), oc = .inl (some (.int r)) ∧ h' = lay t ex o m' ∧ K r m') :=
  AM.intro (μ := mX5_asked) (n := 0) (by decide) rfl rfl rfl (b_M_asked ht hd (by omega) (by omega) (fun _ _ hK => ⟨rfl, _, _, rfl, rfl, hK⟩) p1 p2 p3 hw)
def w_M_beginCounting_2 : Nat → Int32 → Mem → (Int32 → Mem → Prop) → (Mem → Prop) → Prop
  | 0, _, _, _, _ => False
  | n + 1, x1, m, E38, K => (((24 : Int32) ≤ x1 → E38 x1 m) ∧ (¬ ((24 : Int32) ≤ x1) → vp_in ((54 : Int32) + x1) 342 ∧ ∀ m2 : Mem, m2 = up2 m 60 (((54 : Int32) + x1).toNatClampNeg) (0 : Int32) → w_M_valueOf x1 m2 (fun r4 m3 => vp_in ((78 : Int32) + x1) 342 ∧ ∀ m5 : Mem, m5 = up2 m3 60 (((78 : Int32) + x1).toNatClampNeg) r4 → w_M_beginCounting_2 n (x1 + 1) m5 E38 K)))
def w_M_beginCounting (m : Mem) (K : Mem → Prop) : Prop :=
  w_M_beginCounting_2 25 (0 : Int32) m (fun y6 m7 => K m7) K
set_option maxRecDepth 100000 in
set_option maxHeartbeats 4000000 in
theorem l_M_beginCounting_2 {Z : Gz} {d k0 mc ms cs ss k t : Nat} {Q : Po} {ex : Hp} {o : Nat → Int64} {K : Mem → Prop}  (ht : tok t) (hd : 3 ≤ d) (hcs : cs ≤ mc) (hss : ss ≤ ms) (hQ : ∀ (m : Mem), K m → Q (.inl none) (lay t ex o m) k) {E38 : Int32 → Mem → Prop} (hE38 : ∀ (x1 : Int32) (m : Mem), E38 x1 m → AW Z mX5_beginCounting d k0 mc ms Q 38 [.ref 47, .int x1] [] (lay t ex o m) k cs ss) : ∀ (n : Nat) (x1 : Int32) (m : Mem),  w_M_beginCounting_2 n x1 m E38 K → AW Z mX5_beginCounting d k0 mc ms Q 2 [.ref 47, .int x1] [] (lay t ex o m) k cs ss := by
  intro n
  induction n with
  | zero =>
    intros; rename_i hw; exact absurd hw (by simp [w_M_beginCounting_2])
  | succ n ih =>
    intro x1 m hw
    unfold w_M_beginCounting_2 at hw
    refine AW.iload_n (pc := 2) dX5_beginCounting_2 rfl rfl ?_
    refine AW.bipush (v := 24) (pc := 3) dX5_beginCounting_3 (by decide) ?_
    refine AW.icmp_ge (pc := 5) (tgt := 38) dX5_beginCounting_5 (by decide) (fun c1 => ?_) (fun c1 => ?_)
    · have hw := hw.1 c1
      exact hE38 x1 m hw
    · have hw := hw.2 c1
      refine AW.aload_n (pc := 8) dX5_beginCounting_8 rfl rfl ?_
      refine LW.get (pc := 9) (f := 10) (ci := 5) (T := TX5) ht (by decide) rfl dX5_beginCounting_9 tw_808 rfl (by decide) rfl ?_
      refine AW.bipush (v := 54) (pc := 12) dX5_beginCounting_12 (by decide) ?_
      refine AW.iload_n (pc := 14) dX5_beginCounting_14 rfl rfl ?_
      refine AW.iadd (pc := 15) dX5_beginCounting_15 ?_
      refine AW.iconst (v := 0) (pc := 16) dX5_beginCounting_16 (by decide) ?_
      obtain ⟨hin, hw⟩ := hw
      have hw := hw _ rfl
      refine LW.iastt (pc := 17) (j := ((54 : Int32) + x1).toNatClampNeg) ht dX5_beginCounting_17 hin rfl ?_
      generalize up2 m 60 (((54 : Int32) + x1).toNatClampNeg) (0 : Int32) = m2 at hw ⊢
      refine AW.aload_n (pc := 18) dX5_beginCounting_18 rfl rfl ?_
      refine LW.get (pc := 19) (f := 10) (ci := 5) (T := TX5) ht (by decide) rfl dX5_beginCounting_19 tw_808 rfl (by decide) rfl ?_
      refine AW.bipush (v := 78) (pc := 22) dX5_beginCounting_22 (by decide) ?_
      refine AW.iload_n (pc := 24) dX5_beginCounting_24 rfl rfl ?_
      refine AW.iadd (pc := 25) dX5_beginCounting_25 ?_
      refine AW.aload_n (pc := 26) dX5_beginCounting_26 rfl rfl ?_
      refine AW.iload_n (pc := 27) dX5_beginCounting_27 rfl rfl ?_
      refine AW.callV (pc := 28) (S' := [.int ((78 : Int32) + x1), .ref t]) dX5_beginCounting_28 (c_M_valueOf (d := d - 1) ht (by omega) hw) ok_X5_valueOf tw_990 ts_50 tw_988 (fix_pos (by decide)) (lay_at ht (by decide)) (show aw_cl[5]? = some _ from rfl) rfl rfl (by omega) rfl (Nat.le_of_ble_eq_true rfl) (by omega) (by omega) ?_ (fun E h' k' hq => by obtain ⟨rfl, r4, m3, hv, -⟩ := hq; cases hv)
      intro v h' k' hq
      obtain ⟨rfl, r4, m3, hv, rfl, hw⟩ := hq
      cases hv
      show AW _ _ _ _ _ _ _ 31 [.ref 47, .int x1] [.int r4, .int ((78 : Int32) + x1), .ref t] (lay t ex o m3) k _ _
      obtain ⟨hin, hw⟩ := hw
      have hw := hw _ rfl
      refine LW.iastt (pc := 31) (j := ((78 : Int32) + x1).toNatClampNeg) ht dX5_beginCounting_31 hin rfl ?_
      generalize up2 m3 60 (((78 : Int32) + x1).toNatClampNeg) r4 = m5 at hw ⊢
      refine AW.iinc (v := (x1 + 1)) (L' := [.ref 47, .int (x1 + 1)]) (pc := 32) dX5_beginCounting_32 rfl rfl (by decide) rfl rfl ?_
      refine AW.goto (pc := 35) (tgt := 2) dX5_beginCounting_35 (by decide) ?_
      exact ih (x1 + 1) m5 hw
set_option maxRecDepth 100000 in
set_option maxHeartbeats 4000000 in
theorem b_M_beginCounting {Z : Gz} {d k0 mc ms cs ss k t : Nat} {Q : Po} {ex : Hp} {o : Nat → Int64} {K : Mem → Prop}  (ht : tok t) (hd : 3 ≤ d) (hcs : cs + 0 ≤ mc) (hss : ss + 0 ≤ ms) (hQ : ∀ (m : Mem), K m → Q (.inl none) (lay t ex o m) k) {m : Mem}  (hw : w_M_beginCounting  m K) : AW Z mX5_beginCounting d k0 mc ms Q 0 [.ref 47, .null] [] (lay t ex o m) k cs ss := by
  unfold w_M_beginCounting at hw
  refine AW.iconst (v := 0) (pc := 0) dX5_beginCounting_0 (by decide) ?_
  refine AW.istore_n (L' := [.ref 47, .int (0 : Int32)]) (pc := 1) dX5_beginCounting_1 rfl (by decide) rfl rfl ?_
  refine l_M_beginCounting_2 ht hd (by omega) (by omega) hQ ?_ 25 (0 : Int32) m hw
  intro y6 m7 hw
  exact AW.vret (pc := 38) dX5_beginCounting_38 rfl (by omega) (by omega) (hQ _ hw)
set_option maxRecDepth 100000 in
set_option maxHeartbeats 4000000 in
theorem c_M_beginCounting {d k t : Nat} {ex : Hp} {o : Nat → Int64} {K : Mem → Prop} {m : Mem}  (ht : tok t) (hd : 3 ≤ d) (hw : w_M_beginCounting  m K) : AM mX5_beginCounting d [.ref 47] (lay t ex o m) k 0 0 (fun oc h' k' => k = k' ∧ ∃ (m' : Mem), oc = .inl none ∧ h' = lay t ex o m' ∧ K m') :=
  AM.intro (μ := mX5_beginCounting) (n := 1) (by decide) rfl rfl rfl (b_M_beginCounting ht hd (by omega) (by omega) (fun _ hK => ⟨rfl, _, rfl, rfl, hK⟩)  hw)
def w_M_behind (p1 : Int32) (p2 : Int32) (m : Mem) (K : Int32 → Mem → Prop) : Prop :=
  ((¬ (p2 = (-1 : Int32)) → vp_in p1 30 ∧ vp_in p1 30 ∧ vp_in (m 50 (p1).toNatClampNeg) 24 ∧ vp_in p1 30 ∧ (∀ J4 : Int32 → Mem → Prop, (∀ (v2 : Int32) (m3 : Mem), (vp_in p1 30 ∧ (∀ J8 : Int32 → Mem → Prop, (∀ (v6 : Int32) (m7 : Mem), (K ((m 53 (p1).toNatClampNeg) + (jmax (m 58 (m 50 (p1).toNatClampNeg).toNatClampNeg) (jmax v2 v6))) m7) → J8 v6 m7) → ((¬ ((m3 52 (p1).toNatClampNeg) = (-1 : Int32)) → vp_in p1 30 ∧ vp_in (m3 52 (p1).toNatClampNeg) 24 ∧ J8 (m3 58 (m3 52 (p1).toNatClampNeg).toNatClampNeg) m3) ∧ ((m3 52 (p1).toNatClampNeg) = (-1 : Int32) → J8 (0 : Int32) m3)))) → J4 v2 m3) → ((¬ ((m 51 (p1).toNatClampNeg) = (-1 : Int32)) → vp_in p1 30 ∧ vp_in (m 51 (p1).toNatClampNeg) 24 ∧ J4 (m 58 (m 51 (p1).toNatClampNeg).toNatClampNeg) m) ∧ ((m 51 (p1).toNatClampNeg) = (-1 : Int32) → J4 (0 : Int32) m)))) ∧ (p2 = (-1 : Int32) → K (-1 : Int32) m))
set_option maxRecDepth 100000 in
set_option maxHeartbeats 4000000 in
theorem b_M_behind {Z : Gz} {d k0 mc ms cs ss k t : Nat} {Q : Po} {ex : Hp} {o : Nat → Int64} {K : Int32 → Mem → Prop}  (ht : tok t) (hd : 3 ≤ d) (hcs : cs + 0 ≤ mc) (hss : ss + 0 ≤ ms) (hQ : ∀ (r : Int32) (m : Mem), K r m → Q (.inl (some (.int r))) (lay t ex o m) k) {m : Mem} (p1 : Int32) (p2 : Int32) (hw : w_M_behind p1 p2 m K) : AW Z mX5_behind d k0 mc ms Q 0 [.ref 47, .int p1, .int p2] [] (lay t ex o m) k cs ss := by
  unfold w_M_behind at hw
  refine AW.iload_n (pc := 0) dX5_behind_0 rfl rfl ?_
  refine AW.iconst (v := -1) (pc := 1) dX5_behind_1 (by decide) ?_
  refine AW.icmp_ne (pc := 2) (tgt := 7) dX5_behind_2 (by decide) (fun c1 => ?_) (fun c1 => ?_)
  · have hw := hw.1 c1
    refine AW.aload_n (pc := 7) dX5_behind_7 rfl rfl ?_
    refine LW.get (pc := 8) (f := 7) (ci := 5) (T := TX5) ht (by decide) rfl dX5_behind_8 tw_805 rfl (by decide) rfl ?_
    refine AW.iload_n (pc := 11) dX5_behind_11 rfl rfl ?_
    obtain ⟨hin, hw⟩ := hw
    refine LW.iald (pc := 12) (j := p1.toNatClampNeg) ht (by decide) rfl dX5_behind_12 hin rfl ?_
    refine AW.aload_n (pc := 13) dX5_behind_13 rfl rfl ?_
    refine LW.get (pc := 14) (f := 14) (ci := 5) (T := TX5) ht (by decide) rfl dX5_behind_14 tw_812 rfl (by decide) rfl ?_
    refine AW.aload_n (pc := 17) dX5_behind_17 rfl rfl ?_
    refine LW.get (pc := 18) (f := 4) (ci := 5) (T := TX5) ht (by decide) rfl dX5_behind_18 tw_802 rfl (by decide) rfl ?_
    refine AW.iload_n (pc := 21) dX5_behind_21 rfl rfl ?_
    obtain ⟨hin, hw⟩ := hw
    refine LW.iald (pc := 22) (j := p1.toNatClampNeg) ht (by decide) rfl dX5_behind_22 hin rfl ?_
    obtain ⟨hin, hw⟩ := hw
    refine LW.iald (pc := 23) (j := (m 50 (p1).toNatClampNeg).toNatClampNeg) ht (by decide) rfl dX5_behind_23 hin rfl ?_
    refine AW.aload_n (pc := 24) dX5_behind_24 rfl rfl ?_
    refine LW.get (pc := 25) (f := 5) (ci := 5) (T := TX5) ht (by decide) rfl dX5_behind_25 tw_803 rfl (by decide) rfl ?_
    refine AW.iload_n (pc := 28) dX5_behind_28 rfl rfl ?_
    obtain ⟨hin, hw⟩ := hw
    refine LW.iald (pc := 29) (j := p1.toNatClampNeg) ht (by decide) rfl dX5_behind_29 hin rfl ?_
    refine AW.iconst (v := -1) (pc := 30) dX5_behind_30 (by decide) ?_
    have hw := hw (fun v2 m3 => AW Z mX5_behind d k0 mc ms Q 49 [.ref 47, .int p1, .int p2] [.int v2, .int (m 58 (m 50 (p1).toNatClampNeg).toNatClampNeg), .int (m 53 (p1).toNatClampNeg)] (lay t ex o m3) k (cs) (ss)) (by
        intro v2 m3 hw
        refine AW.aload_n (pc := 49) dX5_behind_49 rfl rfl ?_
        refine LW.get (pc := 50) (f := 6) (ci := 5) (T := TX5) ht (by decide) rfl dX5_behind_50 tw_804 rfl (by decide) rfl ?_
        refine AW.iload_n (pc := 53) dX5_behind_53 rfl rfl ?_
        obtain ⟨hin, hw⟩ := hw
        refine LW.iald (pc := 54) (j := p1.toNatClampNeg) ht (by decide) rfl dX5_behind_54 hin rfl ?_
        refine AW.iconst (v := -1) (pc := 55) dX5_behind_55 (by decide) ?_
        have hw := hw (fun v6 m7 => AW Z mX5_behind d k0 mc ms Q 74 [.ref 47, .int p1, .int p2] [.int v6, .int v2, .int (m 58 (m 50 (p1).toNatClampNeg).toNatClampNeg), .int (m 53 (p1).toNatClampNeg)] (lay t ex o m7) k (cs) (ss)) (by
            intro v6 m7 hw
            refine AW.mmax (pc := 74) dX5_behind_74 tw_959 tw_269 tw_14 (Nat.le_of_ble_eq_true rfl) (by omega) (by omega) ?_
            refine AW.mmax (pc := 77) dX5_behind_77 tw_959 tw_269 tw_14 (Nat.le_of_ble_eq_true rfl) (by omega) (by omega) ?_
            refine AW.iadd (pc := 80) dX5_behind_80 ?_
            exact AW.iret (pc := 81) dX5_behind_81 rfl rfl (by omega) (by omega) (hQ _ _ hw))
        refine AW.icmp_ne (pc := 56) (tgt := 63) dX5_behind_56 (by decide) (fun c9 => ?_) (fun c9 => ?_)
        · have hw := hw.1 c9
          refine AW.aload_n (pc := 63) dX5_behind_63 rfl rfl ?_
          refine LW.get (pc := 64) (f := 14) (ci := 5) (T := TX5) ht (by decide) rfl dX5_behind_64 tw_812 rfl (by decide) rfl ?_
          refine AW.aload_n (pc := 67) dX5_behind_67 rfl rfl ?_
          refine LW.get (pc := 68) (f := 6) (ci := 5) (T := TX5) ht (by decide) rfl dX5_behind_68 tw_804 rfl (by decide) rfl ?_
          refine AW.iload_n (pc := 71) dX5_behind_71 rfl rfl ?_
          obtain ⟨hin, hw⟩ := hw
          refine LW.iald (pc := 72) (j := p1.toNatClampNeg) ht (by decide) rfl dX5_behind_72 hin rfl ?_
          obtain ⟨hin, hw⟩ := hw
          refine LW.iald (pc := 73) (j := (m3 52 (p1).toNatClampNeg).toNatClampNeg) ht (by decide) rfl dX5_behind_73 hin rfl ?_
          exact hw
        · have hw := hw.2 c9
          refine AW.iconst (v := 0) (pc := 59) dX5_behind_59 (by decide) ?_
          refine AW.goto (pc := 60) (tgt := 74) dX5_behind_60 (by decide) ?_
          exact hw)
    refine AW.icmp_ne (pc := 31) (tgt := 38) dX5_behind_31 (by decide) (fun c5 => ?_) (fun c5 => ?_)
    · have hw := hw.1 c5
      refine AW.aload_n (pc := 38) dX5_behind_38 rfl rfl ?_
      refine LW.get (pc := 39) (f := 14) (ci := 5) (T := TX5) ht (by decide) rfl dX5_behind_39 tw_812 rfl (by decide) rfl ?_
      refine AW.aload_n (pc := 42) dX5_behind_42 rfl rfl ?_
      refine LW.get (pc := 43) (f := 5) (ci := 5) (T := TX5) ht (by decide) rfl dX5_behind_43 tw_803 rfl (by decide) rfl ?_
      refine AW.iload_n (pc := 46) dX5_behind_46 rfl rfl ?_
      obtain ⟨hin, hw⟩ := hw
      refine LW.iald (pc := 47) (j := p1.toNatClampNeg) ht (by decide) rfl dX5_behind_47 hin rfl ?_
      obtain ⟨hin, hw⟩ := hw
      refine LW.iald (pc := 48) (j := (m 51 (p1).toNatClampNeg).toNatClampNeg) ht (by decide) rfl dX5_behind_48 hin rfl ?_
      exact hw
    · have hw := hw.2 c5
      refine AW.iconst (v := 0) (pc := 34) dX5_behind_34 (by decide) ?_
      refine AW.goto (pc := 35) (tgt := 49) dX5_behind_35 (by decide) ?_
      exact hw
  · have hw := hw.2 c1
    refine AW.iconst (v := -1) (pc := 5) dX5_behind_5 (by decide) ?_
    exact AW.iret (pc := 6) dX5_behind_6 rfl rfl (by omega) (by omega) (hQ _ _ hw)
set_option maxRecDepth 100000 in
set_option maxHeartbeats 4000000 in
theorem c_M_behind {d k t : Nat} {ex : Hp} {o : Nat → Int64} {K : Int32 → Mem → Prop} {m : Mem} {p1 : Int32} {p2 : Int32} (ht : tok t) (hd : 3 ≤ d) (hw : w_M_behind p1 p2 m K) : AM mX5_behind d [.ref 47, .int p1, .int p2] (lay t ex o m) k 0 0 (fun oc h' k' => k = k' ∧ ∃ (r : Int32) (m' : Mem), oc = .inl (some (.int r)) ∧ h' = lay t ex o m' ∧ K r m') :=
  AM.intro (μ := mX5_behind) (n := 0) (by decide) rfl rfl rfl (b_M_behind ht hd (by omega) (by omega) (fun _ _ hK => ⟨rfl, _, _, rfl, rfl, hK⟩) p1 p2 hw)
def w_M_isGate (p1 : Int32) (m : Mem) (K : Int32 → Mem → Prop) : Prop :=
  ((p1 = (-1 : Int32) → K (0 : Int32) m) ∧ (¬ (p1 = (-1 : Int32)) → vp_in p1 30 ∧ (((m 48 (p1).toNatClampNeg) < 0 → K (0 : Int32) m) ∧ (¬ ((m 48 (p1).toNatClampNeg) < 0) → K (1 : Int32) m))))
set_option maxRecDepth 100000 in
set_option maxHeartbeats 4000000 in
theorem b_M_isGate {Z : Gz} {d k0 mc ms cs ss k t : Nat} {Q : Po} {ex : Hp} {o : Nat → Int64} {K : Int32 → Mem → Prop}  (ht : tok t) (hd : 2 ≤ d) (hcs : cs + 0 ≤ mc) (hss : ss + 0 ≤ ms) (hQ : ∀ (r : Int32) (m : Mem), K r m → Q (.inl (some (.int r))) (lay t ex o m) k) {m : Mem} (p1 : Int32) (hw : w_M_isGate p1 m K) : AW Z mX5_isGate d k0 mc ms Q 0 [.ref 47, .int p1] [] (lay t ex o m) k cs ss := by
  unfold w_M_isGate at hw
  refine AW.iload_n (pc := 0) dX5_isGate_0 rfl rfl ?_
  refine AW.iconst (v := -1) (pc := 1) dX5_isGate_1 (by decide) ?_
  refine AW.icmp_eq (pc := 2) (tgt := 18) dX5_isGate_2 (by decide) (fun c1 => ?_) (fun c1 => ?_)
  · have hw := hw.1 c1
    refine AW.iconst (v := 0) (pc := 18) dX5_isGate_18 (by decide) ?_
    exact AW.iret (pc := 19) dX5_isGate_19 rfl (by decide) (by omega) (by omega) (hQ _ _ hw)
  · have hw := hw.2 c1
    refine AW.aload_n (pc := 5) dX5_isGate_5 rfl rfl ?_
    refine LW.get (pc := 6) (f := 2) (ci := 5) (T := TX5) ht (by decide) rfl dX5_isGate_6 tw_800 rfl (by decide) rfl ?_
    refine AW.iload_n (pc := 9) dX5_isGate_9 rfl rfl ?_
    obtain ⟨hin, hw⟩ := hw
    refine LW.iald (pc := 10) (j := p1.toNatClampNeg) ht (by decide) rfl dX5_isGate_10 hin rfl ?_
    refine AW.if_lt (pc := 11) (tgt := 18) dX5_isGate_11 (by decide) (fun c2 => ?_) (fun c2 => ?_)
    · have hw := hw.1 c2
      refine AW.iconst (v := 0) (pc := 18) dX5_isGate_18 (by decide) ?_
      exact AW.iret (pc := 19) dX5_isGate_19 rfl (by decide) (by omega) (by omega) (hQ _ _ hw)
    · have hw := hw.2 c2
      refine AW.iconst (v := 1) (pc := 14) dX5_isGate_14 (by decide) ?_
      refine AW.goto (pc := 15) (tgt := 19) dX5_isGate_15 (by decide) ?_
      exact AW.iret (pc := 19) dX5_isGate_19 rfl (by decide) (by omega) (by omega) (hQ _ _ hw)
set_option maxRecDepth 100000 in
set_option maxHeartbeats 4000000 in
theorem c_M_isGate {d k t : Nat} {ex : Hp} {o : Nat → Int64} {K : Int32 → Mem → Prop} {m : Mem} {p1 : Int32} (ht : tok t) (hd : 2 ≤ d) (hw : w_M_isGate p1 m K) : AM mX5_isGate d [.ref 47, .int p1] (lay t ex o m) k 0 0 (fun oc h' k' => k = k' ∧ ∃ (r : Int32) (m' : Mem), oc = .inl (some (.int r)) ∧ h' = lay t ex o m' ∧ K r m') :=
  AM.intro (μ := mX5_isGate) (n := 0) (by decide) rfl rfl rfl (b_M_isGate ht hd (by omega) (by omega) (fun _ _ hK => ⟨rfl, _, _, rfl, rfl, hK⟩) p1 hw)
def w_M_uses (p1 : Int32) (p2 : Int32) (m : Mem) (K : Int32 → Mem → Prop) : Prop :=
  vp_in p1 30 ∧ (((m 50 (p1).toNatClampNeg) = p2 → K (1 : Int32) m) ∧ (¬ ((m 50 (p1).toNatClampNeg) = p2) → vp_in p1 30 ∧ (((m 51 (p1).toNatClampNeg) = p2 → K (1 : Int32) m) ∧ (¬ ((m 51 (p1).toNatClampNeg) = p2) → vp_in p1 30 ∧ ((¬ ((m 52 (p1).toNatClampNeg) = p2) → K (0 : Int32) m) ∧ ((m 52 (p1).toNatClampNeg) = p2 → K (1 : Int32) m))))))
set_option maxRecDepth 100000 in
set_option maxHeartbeats 4000000 in
theorem b_M_uses {Z : Gz} {d k0 mc ms cs ss k t : Nat} {Q : Po} {ex : Hp} {o : Nat → Int64} {K : Int32 → Mem → Prop}  (ht : tok t) (hd : 2 ≤ d) (hcs : cs + 0 ≤ mc) (hss : ss + 0 ≤ ms) (hQ : ∀ (r : Int32) (m : Mem), K r m → Q (.inl (some (.int r))) (lay t ex o m) k) {m : Mem} (p1 : Int32) (p2 : Int32) (hw : w_M_uses p1 p2 m K) : AW Z mX5_uses d k0 mc ms Q 0 [.ref 47, .int p1, .int p2] [] (lay t ex o m) k cs ss := by
  unfold w_M_uses at hw
  refine AW.aload_n (pc := 0) dX5_uses_0 rfl rfl ?_
  refine LW.get (pc := 1) (f := 4) (ci := 5) (T := TX5) ht (by decide) rfl dX5_uses_1 tw_802 rfl (by decide) rfl ?_
  refine AW.iload_n (pc := 4) dX5_uses_4 rfl rfl ?_
  obtain ⟨hin, hw⟩ := hw
  refine LW.iald (pc := 5) (j := p1.toNatClampNeg) ht (by decide) rfl dX5_uses_5 hin rfl ?_
  refine AW.iload_n (pc := 6) dX5_uses_6 rfl rfl ?_
  refine AW.icmp_eq (pc := 7) (tgt := 30) dX5_uses_7 (by decide) (fun c1 => ?_) (fun c1 => ?_)
  · have hw := hw.1 c1
    refine AW.iconst (v := 1) (pc := 30) dX5_uses_30 (by decide) ?_
    refine AW.goto (pc := 31) (tgt := 35) dX5_uses_31 (by decide) ?_
    exact AW.iret (pc := 35) dX5_uses_35 rfl (by decide) (by omega) (by omega) (hQ _ _ hw)
  · have hw := hw.2 c1
    refine AW.aload_n (pc := 10) dX5_uses_10 rfl rfl ?_
    refine LW.get (pc := 11) (f := 5) (ci := 5) (T := TX5) ht (by decide) rfl dX5_uses_11 tw_803 rfl (by decide) rfl ?_
    refine AW.iload_n (pc := 14) dX5_uses_14 rfl rfl ?_
    obtain ⟨hin, hw⟩ := hw
    refine LW.iald (pc := 15) (j := p1.toNatClampNeg) ht (by decide) rfl dX5_uses_15 hin rfl ?_
    refine AW.iload_n (pc := 16) dX5_uses_16 rfl rfl ?_
    refine AW.icmp_eq (pc := 17) (tgt := 30) dX5_uses_17 (by decide) (fun c2 => ?_) (fun c2 => ?_)
    · have hw := hw.1 c2
      refine AW.iconst (v := 1) (pc := 30) dX5_uses_30 (by decide) ?_
      refine AW.goto (pc := 31) (tgt := 35) dX5_uses_31 (by decide) ?_
      exact AW.iret (pc := 35) dX5_uses_35 rfl (by decide) (by omega) (by omega) (hQ _ _ hw)
    · have hw := hw.2 c2
      refine AW.aload_n (pc := 20) dX5_uses_20 rfl rfl ?_
      refine LW.get (pc := 21) (f := 6) (ci := 5) (T := TX5) ht (by decide) rfl dX5_uses_21 tw_804 rfl (by decide) rfl ?_
      refine AW.iload_n (pc := 24) dX5_uses_24 rfl rfl ?_
      obtain ⟨hin, hw⟩ := hw
      refine LW.iald (pc := 25) (j := p1.toNatClampNeg) ht (by decide) rfl dX5_uses_25 hin rfl ?_
      refine AW.iload_n (pc := 26) dX5_uses_26 rfl rfl ?_
      refine AW.icmp_ne (pc := 27) (tgt := 34) dX5_uses_27 (by decide) (fun c3 => ?_) (fun c3 => ?_)
      · have hw := hw.1 c3
        refine AW.iconst (v := 0) (pc := 34) dX5_uses_34 (by decide) ?_
        exact AW.iret (pc := 35) dX5_uses_35 rfl (by decide) (by omega) (by omega) (hQ _ _ hw)
      · have hw := hw.2 c3
        refine AW.iconst (v := 1) (pc := 30) dX5_uses_30 (by decide) ?_
        refine AW.goto (pc := 31) (tgt := 35) dX5_uses_31 (by decide) ?_
        exact AW.iret (pc := 35) dX5_uses_35 rfl (by decide) (by omega) (by omega) (hQ _ _ hw)
set_option maxRecDepth 100000 in
set_option maxHeartbeats 4000000 in
theorem c_M_uses {d k t : Nat} {ex : Hp} {o : Nat → Int64} {K : Int32 → Mem → Prop} {m : Mem} {p1 : Int32} {p2 : Int32} (ht : tok t) (hd : 2 ≤ d) (hw : w_M_uses p1 p2 m K) : AM mX5_uses d [.ref 47, .int p1, .int p2] (lay t ex o m) k 0 0 (fun oc h' k' => k = k' ∧ ∃ (r : Int32) (m' : Mem), oc = .inl (some (.int r)) ∧ h' = lay t ex o m' ∧ K r m') :=
  AM.intro (μ := mX5_uses) (n := 0) (by decide) rfl rfl rfl (b_M_uses ht hd (by omega) (by omega) (fun _ _ hK => ⟨rfl, _, _, rfl, rfl, hK⟩) p1 p2 hw)
def w_M_change_57 : Nat → Int32 → Int32 → Int32 → Int32 → Mem → (Int32 → Int32 → Int32 → Int32 → Mem → Prop) → (Mem → Prop) → Prop
  | 0, _, _, _, _, _, _, _ => False
  | n + 1, x1, x2, x3, x4, m, E111, K => (((m 47 1) ≤ x4 → E111 x1 x2 x3 x4 m) ∧ (¬ ((m 47 1) ≤ x4) → w_M_uses x4 x1 m (fun r9 m8 => ((¬ (r9 = 0) → w_M_isGate x4 m8 (fun r12 m11 => ((r12 = 0 → w_M_askRegister x4 x1 x3 m11 (fun m14 => w_M_change_57 n x1 x2 x3 (x4 + 1) m14 E111 K)) ∧ (¬ (r12 = 0) → w_M_askGate x4 m11 (fun m15 => w_M_change_57 n x1 x2 x3 (x4 + 1) m15 E111 K))))) ∧ (r9 = 0 → w_M_change_57 n x1 x2 x3 (x4 + 1) m8 E111 K)))))
def w_M_change (p1 : Int32) (p2 : Int32) (m : Mem) (K : Mem → Prop) : Prop :=
  w_M_valueOf p1 m (fun r2 m1 => vp_in ((6 : Int32) + p1) 342 ∧ ∀ m3 : Mem, m3 = up2 m1 60 (((6 : Int32) + p1).toNatClampNeg) p2 → vp_in ((30 : Int32) + p1) 342 ∧ ∀ m4 : Mem, m4 = up2 m3 60 (((30 : Int32) + p1).toNatClampNeg) (m3 60 0) → vp_in ((54 : Int32) + p1) 342 ∧ vp_in ((54 : Int32) + p1) 342 ∧ ∀ m5 : Mem, m5 = up2 m4 60 (((54 : Int32) + p1).toNatClampNeg) ((m4 60 ((54 : Int32) + p1).toNatClampNeg) + (1 : Int32)) → ∀ m6 : Mem, m6 = up2 m5 60 (3) ((m5 60 3) + (1 : Int32)) → w_M_change_57 31 p1 p2 r2 (0 : Int32) m6 (fun y16 y17 y18 y19 m20 => K m20) K)
set_option maxRecDepth 100000 in
set_option maxHeartbeats 4000000 in
theorem l_M_change_57 {Z : Gz} {d k0 mc ms cs ss k t : Nat} {Q : Po} {ex : Hp} {o : Nat → Int64} {K : Mem → Prop}  (ht : tok t) (hd : 5 ≤ d) (hcs : cs ≤ mc) (hss : ss ≤ ms) (hQ : ∀ (m : Mem), K m → Q (.inl none) (lay t ex o m) k) {E111 : Int32 → Int32 → Int32 → Int32 → Mem → Prop} (hE111 : ∀ (x1 : Int32) (x2 : Int32) (x3 : Int32) (x4 : Int32) (m : Mem), E111 x1 x2 x3 x4 m → AW Z mX5_change d k0 mc ms Q 111 [.ref 47, .int x1, .int x2, .int x3, .int x4] [] (lay t ex o m) k cs ss) : ∀ (n : Nat) (x1 : Int32) (x2 : Int32) (x3 : Int32) (x4 : Int32) (m : Mem),  w_M_change_57 n x1 x2 x3 x4 m E111 K → AW Z mX5_change d k0 mc ms Q 57 [.ref 47, .int x1, .int x2, .int x3, .int x4] [] (lay t ex o m) k cs ss := by
  intro n
  induction n with
  | zero =>
    intros; rename_i hw; exact absurd hw (by simp [w_M_change_57])
  | succ n ih =>
    intro x1 x2 x3 x4 m hw
    unfold w_M_change_57 at hw
    refine AW.iload (pc := 57) dX5_change_57 rfl ?_
    refine AW.aload_n (pc := 59) dX5_change_59 rfl rfl ?_
    refine LW.get (pc := 60) (f := 1) (ci := 5) (T := TX5) ht (by decide) rfl dX5_change_60 tw_799 rfl (by decide) rfl ?_
    refine AW.icmp_ge (pc := 63) (tgt := 111) dX5_change_63 (by decide) (fun c7 => ?_) (fun c7 => ?_)
    · have hw := hw.1 c7
      exact hE111 x1 x2 x3 x4 m hw
    · have hw := hw.2 c7
      refine AW.aload_n (pc := 66) dX5_change_66 rfl rfl ?_
      refine AW.iload (pc := 67) dX5_change_67 rfl ?_
      refine AW.iload_n (pc := 69) dX5_change_69 rfl rfl ?_
      refine AW.callV (pc := 70) (S' := []) dX5_change_70 (c_M_uses (d := d - 1) ht (by omega) hw) ok_X5_uses tw_918 ts_39 tw_916 (fix_pos (by decide)) (lay_at ht (by decide)) (show aw_cl[5]? = some _ from rfl) rfl rfl (by omega) rfl (Nat.le_of_ble_eq_true rfl) (by omega) (by omega) ?_ (fun E h' k' hq => by obtain ⟨rfl, r9, m8, hv, -⟩ := hq; cases hv)
      intro v h' k' hq
      obtain ⟨rfl, r9, m8, hv, rfl, hw⟩ := hq
      cases hv
      show AW _ _ _ _ _ _ _ 73 [.ref 47, .int x1, .int x2, .int x3, .int x4] [.int r9] (lay t ex o m8) k _ _
      refine AW.if_ne (pc := 73) (tgt := 79) dX5_change_73 (by decide) (fun c10 => ?_) (fun c10 => ?_)
      · have hw := hw.1 c10
        refine AW.aload_n (pc := 79) dX5_change_79 rfl rfl ?_
        refine AW.iload (pc := 80) dX5_change_80 rfl ?_
        refine AW.callV (pc := 82) (S' := []) dX5_change_82 (c_M_isGate (d := d - 1) ht (by omega) hw) ok_X5_isGate tw_922 ts_40 tw_920 (fix_pos (by decide)) (lay_at ht (by decide)) (show aw_cl[5]? = some _ from rfl) rfl rfl (by omega) rfl (Nat.le_of_ble_eq_true rfl) (by omega) (by omega) ?_ (fun E h' k' hq => by obtain ⟨rfl, r12, m11, hv, -⟩ := hq; cases hv)
        intro v h' k' hq
        obtain ⟨rfl, r12, m11, hv, rfl, hw⟩ := hq
        cases hv
        show AW _ _ _ _ _ _ _ 85 [.ref 47, .int x1, .int x2, .int x3, .int x4] [.int r12] (lay t ex o m11) k _ _
        refine AW.if_eq (pc := 85) (tgt := 97) dX5_change_85 (by decide) (fun c13 => ?_) (fun c13 => ?_)
        · have hw := hw.1 c13
          refine AW.aload_n (pc := 97) dX5_change_97 rfl rfl ?_
          refine AW.iload (pc := 98) dX5_change_98 rfl ?_
          refine AW.iload_n (pc := 100) dX5_change_100 rfl rfl ?_
          refine AW.iload_n (pc := 101) dX5_change_101 rfl rfl ?_
          refine AW.callV (pc := 102) (S' := []) dX5_change_102 (c_M_askRegister (d := d - 1) ht (by omega) hw) ok_X5_askRegister tw_1012 ts_54 tw_1010 (fix_pos (by decide)) (lay_at ht (by decide)) (show aw_cl[5]? = some _ from rfl) rfl rfl (by omega) rfl (Nat.le_of_ble_eq_true rfl) (by omega) (by omega) ?_ (fun E h' k' hq => by obtain ⟨rfl, m14, hv, -⟩ := hq; cases hv)
          intro v h' k' hq
          obtain ⟨rfl, m14, hv, rfl, hw⟩ := hq
          cases hv
          show AW _ _ _ _ _ _ _ 105 [.ref 47, .int x1, .int x2, .int x3, .int x4] [] (lay t ex o m14) k _ _
          refine AW.iinc (v := (x4 + 1)) (L' := [.ref 47, .int x1, .int x2, .int x3, .int (x4 + 1)]) (pc := 105) dX5_change_105 rfl rfl (by decide) rfl rfl ?_
          refine AW.goto (pc := 108) (tgt := 57) dX5_change_108 (by decide) ?_
          exact ih x1 x2 x3 (x4 + 1) m14 hw
        · have hw := hw.2 c13
          refine AW.aload_n (pc := 88) dX5_change_88 rfl rfl ?_
          refine AW.iload (pc := 89) dX5_change_89 rfl ?_
          refine AW.callV (pc := 91) (S' := []) dX5_change_91 (c_M_askGate (d := d - 1) ht (by omega) hw) ok_X5_askGate tw_994 ts_51 tw_992 (fix_pos (by decide)) (lay_at ht (by decide)) (show aw_cl[5]? = some _ from rfl) rfl rfl (by omega) rfl (Nat.le_of_ble_eq_true rfl) (by omega) (by omega) ?_ (fun E h' k' hq => by obtain ⟨rfl, m15, hv, -⟩ := hq; cases hv)
          intro v h' k' hq
          obtain ⟨rfl, m15, hv, rfl, hw⟩ := hq
          cases hv
          show AW _ _ _ _ _ _ _ 94 [.ref 47, .int x1, .int x2, .int x3, .int x4] [] (lay t ex o m15) k _ _
          refine AW.goto (pc := 94) (tgt := 105) dX5_change_94 (by decide) ?_
          refine AW.iinc (v := (x4 + 1)) (L' := [.ref 47, .int x1, .int x2, .int x3, .int (x4 + 1)]) (pc := 105) dX5_change_105 rfl rfl (by decide) rfl rfl ?_
          refine AW.goto (pc := 108) (tgt := 57) dX5_change_108 (by decide) ?_
          exact ih x1 x2 x3 (x4 + 1) m15 hw
      · have hw := hw.2 c10
        refine AW.goto (pc := 76) (tgt := 105) dX5_change_76 (by decide) ?_
        refine AW.iinc (v := (x4 + 1)) (L' := [.ref 47, .int x1, .int x2, .int x3, .int (x4 + 1)]) (pc := 105) dX5_change_105 rfl rfl (by decide) rfl rfl ?_
        refine AW.goto (pc := 108) (tgt := 57) dX5_change_108 (by decide) ?_
        exact ih x1 x2 x3 (x4 + 1) m8 hw
set_option maxRecDepth 100000 in
set_option maxHeartbeats 4000000 in
theorem b_M_change {Z : Gz} {d k0 mc ms cs ss k t : Nat} {Q : Po} {ex : Hp} {o : Nat → Int64} {K : Mem → Prop}  (ht : tok t) (hd : 5 ≤ d) (hcs : cs + 0 ≤ mc) (hss : ss + 0 ≤ ms) (hQ : ∀ (m : Mem), K m → Q (.inl none) (lay t ex o m) k) {m : Mem} (p1 : Int32) (p2 : Int32) (hw : w_M_change p1 p2 m K) : AW Z mX5_change d k0 mc ms Q 0 [.ref 47, .int p1, .int p2, .null, .null] [] (lay t ex o m) k cs ss := by
  unfold w_M_change at hw
  refine AW.aload_n (pc := 0) dX5_change_0 rfl rfl ?_
  refine AW.iload_n (pc := 1) dX5_change_1 rfl rfl ?_
  refine AW.callV (pc := 2) (S' := []) dX5_change_2 (c_M_valueOf (d := d - 1) ht (by omega) hw) ok_X5_valueOf tw_990 ts_50 tw_988 (fix_pos (by decide)) (lay_at ht (by decide)) (show aw_cl[5]? = some _ from rfl) rfl rfl (by omega) rfl (Nat.le_of_ble_eq_true rfl) (by omega) (by omega) ?_ (fun E h' k' hq => by obtain ⟨rfl, r2, m1, hv, -⟩ := hq; cases hv)
  intro v h' k' hq
  obtain ⟨rfl, r2, m1, hv, rfl, hw⟩ := hq
  cases hv
  show AW _ _ _ _ _ _ _ 5 [.ref 47, .int p1, .int p2, .null, .null] [.int r2] (lay t ex o m1) k _ _
  refine AW.istore_n (L' := [.ref 47, .int p1, .int p2, .int r2, .null]) (pc := 5) dX5_change_5 rfl (by decide) rfl rfl ?_
  refine AW.aload_n (pc := 6) dX5_change_6 rfl rfl ?_
  refine LW.get (pc := 7) (f := 10) (ci := 5) (T := TX5) ht (by decide) rfl dX5_change_7 tw_808 rfl (by decide) rfl ?_
  refine AW.bipush (v := 6) (pc := 10) dX5_change_10 (by decide) ?_
  refine AW.iload_n (pc := 12) dX5_change_12 rfl rfl ?_
  refine AW.iadd (pc := 13) dX5_change_13 ?_
  refine AW.iload_n (pc := 14) dX5_change_14 rfl rfl ?_
  obtain ⟨hin, hw⟩ := hw
  have hw := hw _ rfl
  refine LW.iastt (pc := 15) (j := ((6 : Int32) + p1).toNatClampNeg) ht dX5_change_15 hin rfl ?_
  generalize up2 m1 60 (((6 : Int32) + p1).toNatClampNeg) p2 = m3 at hw ⊢
  refine AW.aload_n (pc := 16) dX5_change_16 rfl rfl ?_
  refine LW.get (pc := 17) (f := 10) (ci := 5) (T := TX5) ht (by decide) rfl dX5_change_17 tw_808 rfl (by decide) rfl ?_
  refine AW.bipush (v := 30) (pc := 20) dX5_change_20 (by decide) ?_
  refine AW.iload_n (pc := 22) dX5_change_22 rfl rfl ?_
  refine AW.iadd (pc := 23) dX5_change_23 ?_
  refine AW.aload_n (pc := 24) dX5_change_24 rfl rfl ?_
  refine LW.get (pc := 25) (f := 10) (ci := 5) (T := TX5) ht (by decide) rfl dX5_change_25 tw_808 rfl (by decide) rfl ?_
  refine AW.iconst (v := 0) (pc := 28) dX5_change_28 (by decide) ?_
  refine LW.ialdt (pc := 29) (j := 0) ht dX5_change_29 (vp_lit (by decide)) (by decide) ?_
  obtain ⟨hin, hw⟩ := hw
  have hw := hw _ rfl
  refine LW.iastt (pc := 30) (j := ((30 : Int32) + p1).toNatClampNeg) ht dX5_change_30 hin rfl ?_
  generalize up2 m3 60 (((30 : Int32) + p1).toNatClampNeg) (m3 60 0) = m4 at hw ⊢
  refine AW.aload_n (pc := 31) dX5_change_31 rfl rfl ?_
  refine LW.get (pc := 32) (f := 10) (ci := 5) (T := TX5) ht (by decide) rfl dX5_change_32 tw_808 rfl (by decide) rfl ?_
  refine AW.bipush (v := 54) (pc := 35) dX5_change_35 (by decide) ?_
  refine AW.iload_n (pc := 37) dX5_change_37 rfl rfl ?_
  refine AW.iadd (pc := 38) dX5_change_38 ?_
  refine AW.dup2 (pc := 39) dX5_change_39 rfl rfl ?_
  obtain ⟨hin, hw⟩ := hw
  refine LW.ialdt (pc := 40) (j := ((54 : Int32) + p1).toNatClampNeg) ht dX5_change_40 hin rfl ?_
  refine AW.iconst (v := 1) (pc := 41) dX5_change_41 (by decide) ?_
  refine AW.iadd (pc := 42) dX5_change_42 ?_
  obtain ⟨hin, hw⟩ := hw
  have hw := hw _ rfl
  refine LW.iastt (pc := 43) (j := ((54 : Int32) + p1).toNatClampNeg) ht dX5_change_43 hin rfl ?_
  generalize up2 m4 60 (((54 : Int32) + p1).toNatClampNeg) ((m4 60 ((54 : Int32) + p1).toNatClampNeg) + (1 : Int32)) = m5 at hw ⊢
  refine AW.aload_n (pc := 44) dX5_change_44 rfl rfl ?_
  refine LW.get (pc := 45) (f := 10) (ci := 5) (T := TX5) ht (by decide) rfl dX5_change_45 tw_808 rfl (by decide) rfl ?_
  refine AW.iconst (v := 3) (pc := 48) dX5_change_48 (by decide) ?_
  refine AW.dup2 (pc := 49) dX5_change_49 rfl rfl ?_
  refine LW.ialdt (pc := 50) (j := 3) ht dX5_change_50 (vp_lit (by decide)) (by decide) ?_
  refine AW.iconst (v := 1) (pc := 51) dX5_change_51 (by decide) ?_
  refine AW.iadd (pc := 52) dX5_change_52 ?_
  have hw := hw _ rfl
  refine LW.iastt (pc := 53) (j := 3) ht dX5_change_53 (vp_lit (by decide)) (by decide) ?_
  generalize up2 m5 60 (3) ((m5 60 3) + (1 : Int32)) = m6 at hw ⊢
  refine AW.iconst (v := 0) (pc := 54) dX5_change_54 (by decide) ?_
  refine AW.istore (L' := [.ref 47, .int p1, .int p2, .int r2, .int (0 : Int32)]) (pc := 55) dX5_change_55 (by decide) rfl rfl ?_
  refine l_M_change_57 ht hd (by omega) (by omega) hQ ?_ 31 p1 p2 r2 (0 : Int32) m6 hw
  intro y16 y17 y18 y19 m20 hw
  exact AW.vret (pc := 111) dX5_change_111 rfl (by omega) (by omega) (hQ _ hw)
set_option maxRecDepth 100000 in
set_option maxHeartbeats 4000000 in
theorem c_M_change {d k t : Nat} {ex : Hp} {o : Nat → Int64} {K : Mem → Prop} {m : Mem} {p1 : Int32} {p2 : Int32} (ht : tok t) (hd : 5 ≤ d) (hw : w_M_change p1 p2 m K) : AM mX5_change d [.ref 47, .int p1, .int p2] (lay t ex o m) k 0 0 (fun oc h' k' => k = k' ∧ ∃ (m' : Mem), oc = .inl none ∧ h' = lay t ex o m' ∧ K m') :=
  AM.intro (μ := mX5_change) (n := 2) (by decide) rfl rfl rfl (b_M_change ht hd (by omega) (by omega) (fun _ hK => ⟨rfl, _, rfl, rfl, hK⟩) p1 p2 hw)
def w_M_note (p1 : Int32) (p2 : Int32) (m : Mem) (K : Mem → Prop) : Prop :=
  vp_in ((2 : Int32) * (m 47 12)) 108 ∧ ∀ m1 : Mem, m1 = up2 m 57 (((2 : Int32) * (m 47 12)).toNatClampNeg) p1 → vp_in (((2 : Int32) * (m1 47 12)) + (1 : Int32)) 108 ∧ ∀ m2 : Mem, m2 = up2 m1 57 ((((2 : Int32) * (m1 47 12)) + (1 : Int32)).toNatClampNeg) p2 → ∀ m3 : Mem, m3 = up2 m2 47 12 ((m2 47 12) + (1 : Int32)) → K m3
set_option maxRecDepth 100000 in
set_option maxHeartbeats 4000000 in
theorem b_M_note {Z : Gz} {d k0 mc ms cs ss k t : Nat} {Q : Po} {ex : Hp} {o : Nat → Int64} {K : Mem → Prop}  (ht : tok t) (hd : 2 ≤ d) (hcs : cs + 0 ≤ mc) (hss : ss + 0 ≤ ms) (hQ : ∀ (m : Mem), K m → Q (.inl none) (lay t ex o m) k) {m : Mem} (p1 : Int32) (p2 : Int32) (hw : w_M_note p1 p2 m K) : AW Z mX5_note d k0 mc ms Q 0 [.ref 47, .int p1, .int p2] [] (lay t ex o m) k cs ss := by
  unfold w_M_note at hw
  refine AW.aload_n (pc := 0) dX5_note_0 rfl rfl ?_
  refine LW.get (pc := 1) (f := 13) (ci := 5) (T := TX5) ht (by decide) rfl dX5_note_1 tw_811 rfl (by decide) rfl ?_
  refine AW.iconst (v := 2) (pc := 4) dX5_note_4 (by decide) ?_
  refine AW.aload_n (pc := 5) dX5_note_5 rfl rfl ?_
  refine LW.get (pc := 6) (f := 12) (ci := 5) (T := TX5) ht (by decide) rfl dX5_note_6 tw_810 rfl (by decide) rfl ?_
  refine AW.imul (pc := 9) dX5_note_9 ?_
  refine AW.iload_n (pc := 10) dX5_note_10 rfl rfl ?_
  obtain ⟨hin, hw⟩ := hw
  have hw := hw _ rfl
  refine LW.iast (pc := 11) (j := ((2 : Int32) * (m 47 12)).toNatClampNeg) ht (by decide) (fun _ => rfl) dX5_note_11 hin rfl ?_
  generalize up2 m 57 (((2 : Int32) * (m 47 12)).toNatClampNeg) p1 = m1 at hw ⊢
  refine AW.aload_n (pc := 12) dX5_note_12 rfl rfl ?_
  refine LW.get (pc := 13) (f := 13) (ci := 5) (T := TX5) ht (by decide) rfl dX5_note_13 tw_811 rfl (by decide) rfl ?_
  refine AW.iconst (v := 2) (pc := 16) dX5_note_16 (by decide) ?_
  refine AW.aload_n (pc := 17) dX5_note_17 rfl rfl ?_
  refine LW.get (pc := 18) (f := 12) (ci := 5) (T := TX5) ht (by decide) rfl dX5_note_18 tw_810 rfl (by decide) rfl ?_
  refine AW.imul (pc := 21) dX5_note_21 ?_
  refine AW.iconst (v := 1) (pc := 22) dX5_note_22 (by decide) ?_
  refine AW.iadd (pc := 23) dX5_note_23 ?_
  refine AW.iload_n (pc := 24) dX5_note_24 rfl rfl ?_
  obtain ⟨hin, hw⟩ := hw
  have hw := hw _ rfl
  refine LW.iast (pc := 25) (j := (((2 : Int32) * (m1 47 12)) + (1 : Int32)).toNatClampNeg) ht (by decide) (fun _ => rfl) dX5_note_25 hin rfl ?_
  generalize up2 m1 57 ((((2 : Int32) * (m1 47 12)) + (1 : Int32)).toNatClampNeg) p2 = m2 at hw ⊢
  refine AW.aload_n (pc := 26) dX5_note_26 rfl rfl ?_
  refine AW.dup (pc := 27) dX5_note_27 rfl ?_
  refine LW.get (pc := 28) (f := 12) (ci := 5) (T := TX5) ht (by decide) rfl dX5_note_28 tw_810 rfl (by decide) rfl ?_
  refine AW.iconst (v := 1) (pc := 31) dX5_note_31 (by decide) ?_
  refine AW.iadd (pc := 32) dX5_note_32 ?_
  have hw := hw _ rfl
  refine LW.put (pc := 33) (f := 12) (ci := 5) (T := TX5) ht (by decide) rfl sp_47_12 dX5_note_33 tw_810 rfl (by decide) (Nat.le_of_ble_eq_true rfl) rfl ⟨rfl, rfl⟩ ?_
  generalize up2 m2 47 12 ((m2 47 12) + (1 : Int32)) = m3 at hw ⊢
  exact AW.vret (pc := 36) dX5_note_36 rfl (by omega) (by omega) (hQ _ hw)
set_option maxRecDepth 100000 in
set_option maxHeartbeats 4000000 in
theorem c_M_note {d k t : Nat} {ex : Hp} {o : Nat → Int64} {K : Mem → Prop} {m : Mem} {p1 : Int32} {p2 : Int32} (ht : tok t) (hd : 2 ≤ d) (hw : w_M_note p1 p2 m K) : AM mX5_note d [.ref 47, .int p1, .int p2] (lay t ex o m) k 0 0 (fun oc h' k' => k = k' ∧ ∃ (m' : Mem), oc = .inl none ∧ h' = lay t ex o m' ∧ K m') :=
  AM.intro (μ := mX5_note) (n := 0) (by decide) rfl rfl rfl (b_M_note ht hd (by omega) (by omega) (fun _ hK => ⟨rfl, _, rfl, rfl, hK⟩) p1 p2 hw)
def w_M_usersNow_4 : Nat → Int32 → Int32 → Int32 → Mem → (Int32 → Int32 → Int32 → Mem → Prop) → (Int32 → Mem → Prop) → Prop
  | 0, _, _, _, _, _, _ => False
  | n + 1, x1, x2, x3, m, E35, K => (((m 47 1) ≤ x3 → E35 x1 x2 x3 m) ∧ (¬ ((m 47 1) ≤ x3) → w_M_uses x3 x1 m (fun r3 m2 => ((r3 = 0 → w_M_usersNow_4 n x1 (x2 + (0 : Int32)) (x3 + 1) m2 E35 K) ∧ (¬ (r3 = 0) → w_M_usersNow_4 n x1 (x2 + (1 : Int32)) (x3 + 1) m2 E35 K)))))
def w_M_usersNow (p1 : Int32) (m : Mem) (K : Int32 → Mem → Prop) : Prop :=
  w_M_usersNow_4 31 p1 (0 : Int32) (0 : Int32) m (fun y5 y6 y7 m8 => K y6 m8) K
set_option maxRecDepth 100000 in
set_option maxHeartbeats 4000000 in
theorem l_M_usersNow_4 {Z : Gz} {d k0 mc ms cs ss k t : Nat} {Q : Po} {ex : Hp} {o : Nat → Int64} {K : Int32 → Mem → Prop}  (ht : tok t) (hd : 3 ≤ d) (hcs : cs ≤ mc) (hss : ss ≤ ms) (hQ : ∀ (r : Int32) (m : Mem), K r m → Q (.inl (some (.int r))) (lay t ex o m) k) {E35 : Int32 → Int32 → Int32 → Mem → Prop} (hE35 : ∀ (x1 : Int32) (x2 : Int32) (x3 : Int32) (m : Mem), E35 x1 x2 x3 m → AW Z mX5_usersNow d k0 mc ms Q 35 [.ref 47, .int x1, .int x2, .int x3] [] (lay t ex o m) k cs ss) : ∀ (n : Nat) (x1 : Int32) (x2 : Int32) (x3 : Int32) (m : Mem),  w_M_usersNow_4 n x1 x2 x3 m E35 K → AW Z mX5_usersNow d k0 mc ms Q 4 [.ref 47, .int x1, .int x2, .int x3] [] (lay t ex o m) k cs ss := by
  intro n
  induction n with
  | zero =>
    intros; rename_i hw; exact absurd hw (by simp [w_M_usersNow_4])
  | succ n ih =>
    intro x1 x2 x3 m hw
    unfold w_M_usersNow_4 at hw
    refine AW.iload_n (pc := 4) dX5_usersNow_4 rfl rfl ?_
    refine AW.aload_n (pc := 5) dX5_usersNow_5 rfl rfl ?_
    refine LW.get (pc := 6) (f := 1) (ci := 5) (T := TX5) ht (by decide) rfl dX5_usersNow_6 tw_799 rfl (by decide) rfl ?_
    refine AW.icmp_ge (pc := 9) (tgt := 35) dX5_usersNow_9 (by decide) (fun c1 => ?_) (fun c1 => ?_)
    · have hw := hw.1 c1
      exact hE35 x1 x2 x3 m hw
    · have hw := hw.2 c1
      refine AW.iload_n (pc := 12) dX5_usersNow_12 rfl rfl ?_
      refine AW.aload_n (pc := 13) dX5_usersNow_13 rfl rfl ?_
      refine AW.iload_n (pc := 14) dX5_usersNow_14 rfl rfl ?_
      refine AW.iload_n (pc := 15) dX5_usersNow_15 rfl rfl ?_
      refine AW.callV (pc := 16) (S' := [.int x2]) dX5_usersNow_16 (c_M_uses (d := d - 1) ht (by omega) hw) ok_X5_uses tw_918 ts_39 tw_916 (fix_pos (by decide)) (lay_at ht (by decide)) (show aw_cl[5]? = some _ from rfl) rfl rfl (by omega) rfl (Nat.le_of_ble_eq_true rfl) (by omega) (by omega) ?_ (fun E h' k' hq => by obtain ⟨rfl, r3, m2, hv, -⟩ := hq; cases hv)
      intro v h' k' hq
      obtain ⟨rfl, r3, m2, hv, rfl, hw⟩ := hq
      cases hv
      show AW _ _ _ _ _ _ _ 19 [.ref 47, .int x1, .int x2, .int x3] [.int r3, .int x2] (lay t ex o m2) k _ _
      refine AW.if_eq (pc := 19) (tgt := 26) dX5_usersNow_19 (by decide) (fun c4 => ?_) (fun c4 => ?_)
      · have hw := hw.1 c4
        refine AW.iconst (v := 0) (pc := 26) dX5_usersNow_26 (by decide) ?_
        refine AW.iadd (pc := 27) dX5_usersNow_27 ?_
        refine AW.istore_n (L' := [.ref 47, .int x1, .int (x2 + (0 : Int32)), .int x3]) (pc := 28) dX5_usersNow_28 rfl (by decide) rfl rfl ?_
        refine AW.iinc (v := (x3 + 1)) (L' := [.ref 47, .int x1, .int (x2 + (0 : Int32)), .int (x3 + 1)]) (pc := 29) dX5_usersNow_29 rfl rfl (by decide) rfl rfl ?_
        refine AW.goto (pc := 32) (tgt := 4) dX5_usersNow_32 (by decide) ?_
        exact ih x1 (x2 + (0 : Int32)) (x3 + 1) m2 hw
      · have hw := hw.2 c4
        refine AW.iconst (v := 1) (pc := 22) dX5_usersNow_22 (by decide) ?_
        refine AW.goto (pc := 23) (tgt := 27) dX5_usersNow_23 (by decide) ?_
        refine AW.iadd (pc := 27) dX5_usersNow_27 ?_
        refine AW.istore_n (L' := [.ref 47, .int x1, .int (x2 + (1 : Int32)), .int x3]) (pc := 28) dX5_usersNow_28 rfl (by decide) rfl rfl ?_
        refine AW.iinc (v := (x3 + 1)) (L' := [.ref 47, .int x1, .int (x2 + (1 : Int32)), .int (x3 + 1)]) (pc := 29) dX5_usersNow_29 rfl rfl (by decide) rfl rfl ?_
        refine AW.goto (pc := 32) (tgt := 4) dX5_usersNow_32 (by decide) ?_
        exact ih x1 (x2 + (1 : Int32)) (x3 + 1) m2 hw
set_option maxRecDepth 100000 in
set_option maxHeartbeats 4000000 in
theorem b_M_usersNow {Z : Gz} {d k0 mc ms cs ss k t : Nat} {Q : Po} {ex : Hp} {o : Nat → Int64} {K : Int32 → Mem → Prop}  (ht : tok t) (hd : 3 ≤ d) (hcs : cs + 0 ≤ mc) (hss : ss + 0 ≤ ms) (hQ : ∀ (r : Int32) (m : Mem), K r m → Q (.inl (some (.int r))) (lay t ex o m) k) {m : Mem} (p1 : Int32) (hw : w_M_usersNow p1 m K) : AW Z mX5_usersNow d k0 mc ms Q 0 [.ref 47, .int p1, .null, .null] [] (lay t ex o m) k cs ss := by
  unfold w_M_usersNow at hw
  refine AW.iconst (v := 0) (pc := 0) dX5_usersNow_0 (by decide) ?_
  refine AW.istore_n (L' := [.ref 47, .int p1, .int (0 : Int32), .null]) (pc := 1) dX5_usersNow_1 rfl (by decide) rfl rfl ?_
  refine AW.iconst (v := 0) (pc := 2) dX5_usersNow_2 (by decide) ?_
  refine AW.istore_n (L' := [.ref 47, .int p1, .int (0 : Int32), .int (0 : Int32)]) (pc := 3) dX5_usersNow_3 rfl (by decide) rfl rfl ?_
  refine l_M_usersNow_4 ht hd (by omega) (by omega) hQ ?_ 31 p1 (0 : Int32) (0 : Int32) m hw
  intro y5 y6 y7 m8 hw
  refine AW.iload_n (pc := 35) dX5_usersNow_35 rfl rfl ?_
  exact AW.iret (pc := 36) dX5_usersNow_36 rfl rfl (by omega) (by omega) (hQ _ _ hw)
set_option maxRecDepth 100000 in
set_option maxHeartbeats 4000000 in
theorem c_M_usersNow {d k t : Nat} {ex : Hp} {o : Nat → Int64} {K : Int32 → Mem → Prop} {m : Mem} {p1 : Int32} (ht : tok t) (hd : 3 ≤ d) (hw : w_M_usersNow p1 m K) : AM mX5_usersNow d [.ref 47, .int p1] (lay t ex o m) k 0 0 (fun oc h' k' => k = k' ∧ ∃ (r : Int32) (m' : Mem), oc = .inl (some (.int r)) ∧ h' = lay t ex o m' ∧ K r m') :=
  AM.intro (μ := mX5_usersNow) (n := 2) (by decide) rfl rfl rfl (b_M_usersNow ht hd (by omega) (by omega) (fun _ _ hK => ⟨rfl, _, _, rfl, rfl, hK⟩) p1 hw)
def w_M_nextLine_4 : Nat → Int32 → Int32 → Mem → (Int32 → Int32 → Mem → Prop) → (Int32 → Mem → Prop) → Prop
  | 0, _, _, _, _, _ => False
  | n + 1, x1, x2, m, E110, K => (((m 47 1) ≤ x2 → E110 x1 x2 m) ∧ (¬ ((m 47 1) ≤ x2) → vp_in ((102 : Int32) + x2) 342 ∧ ((¬ ((m 60 ((102 : Int32) + x2).toNatClampNeg) = (-1 : Int32)) → ((x1 = (-1 : Int32) → w_M_nextLine_4 n x2 (x2 + 1) m E110 K) ∧ (¬ (x1 = (-1 : Int32)) → vp_in ((132 : Int32) + x2) 342 ∧ vp_in ((132 : Int32) + x1) 342 ∧ (((m 60 ((132 : Int32) + x2).toNatClampNeg) < (m 60 ((132 : Int32) + x1).toNatClampNeg) → w_M_nextLine_4 n x2 (x2 + 1) m E110 K) ∧ (¬ ((m 60 ((132 : Int32) + x2).toNatClampNeg) < (m 60 ((132 : Int32) + x1).toNatClampNeg)) → vp_in ((132 : Int32) + x2) 342 ∧ vp_in ((132 : Int32) + x1) 342 ∧ ((¬ ((m 60 ((132 : Int32) + x2).toNatClampNeg) = (m 60 ((132 : Int32) + x1).toNatClampNeg)) → w_M_nextLine_4 n x1 (x2 + 1) m E110 K) ∧ ((m 60 ((132 : Int32) + x2).toNatClampNeg) = (m 60 ((132 : Int32) + x1).toNatClampNeg) → vp_in ((162 : Int32) + x2) 342 ∧ vp_in ((162 : Int32) + x1) 342 ∧ (((m 60 ((162 : Int32) + x1).toNatClampNeg) ≤ (m 60 ((162 : Int32) + x2).toNatClampNeg) → w_M_nextLine_4 n x1 (x2 + 1) m E110 K) ∧ (¬ ((m 60 ((162 : Int32) + x1).toNatClampNeg) ≤ (m 60 ((162 : Int32) + x2).toNatClampNeg)) → w_M_nextLine_4 n x2 (x2 + 1) m E110 K))))))))) ∧ ((m 60 ((102 : Int32) + x2).toNatClampNeg) = (-1 : Int32) → w_M_nextLine_4 n x1 (x2 + 1) m E110 K))))
def w_M_nextLine (m : Mem) (K : Int32 → Mem → Prop) : Prop :=
  w_M_nextLine_4 31 (-1 : Int32) (0 : Int32) m (fun y7 y8 m9 => K y7 m9) K
set_option maxRecDepth 100000 in
set_option maxHeartbeats 4000000 in
theorem l_M_nextLine_4 {Z : Gz} {d k0 mc ms cs ss k t : Nat} {Q : Po} {ex : Hp} {o : Nat → Int64} {K : Int32 → Mem → Prop}  (ht : tok t) (hd : 2 ≤ d) (hcs : cs ≤ mc) (hss : ss ≤ ms) (hQ : ∀ (r : Int32) (m : Mem), K r m → Q (.inl (some (.int r))) (lay t ex o m) k) {E110 : Int32 → Int32 → Mem → Prop} (hE110 : ∀ (x1 : Int32) (x2 : Int32) (m : Mem), E110 x1 x2 m → AW Z mX5_nextLine d k0 mc ms Q 110 [.ref 47, .int x1, .int x2] [] (lay t ex o m) k cs ss) : ∀ (n : Nat) (x1 : Int32) (x2 : Int32) (m : Mem),  w_M_nextLine_4 n x1 x2 m E110 K → AW Z mX5_nextLine d k0 mc ms Q 4 [.ref 47, .int x1, .int x2] [] (lay t ex o m) k cs ss := by
  intro n
  induction n with
  | zero =>
    intros; rename_i hw; exact absurd hw (by simp [w_M_nextLine_4])
  | succ n ih =>
    intro x1 x2 m hw
    unfold w_M_nextLine_4 at hw
    refine AW.iload_n (pc := 4) dX5_nextLine_4 rfl rfl ?_
    refine AW.aload_n (pc := 5) dX5_nextLine_5 rfl rfl ?_
    refine LW.get (pc := 6) (f := 1) (ci := 5) (T := TX5) ht (by decide) rfl dX5_nextLine_6 tw_799 rfl (by decide) rfl ?_
    refine AW.icmp_ge (pc := 9) (tgt := 110) dX5_nextLine_9 (by decide) (fun c1 => ?_) (fun c1 => ?_)
    · have hw := hw.1 c1
      exact hE110 x1 x2 m hw
    · have hw := hw.2 c1
      refine AW.aload_n (pc := 12) dX5_nextLine_12 rfl rfl ?_
      refine LW.get (pc := 13) (f := 10) (ci := 5) (T := TX5) ht (by decide) rfl dX5_nextLine_13 tw_808 rfl (by decide) rfl ?_
      refine AW.bipush (v := 102) (pc := 16) dX5_nextLine_16 (by decide) ?_
      refine AW.iload_n (pc := 18) dX5_nextLine_18 rfl rfl ?_
      refine AW.iadd (pc := 19) dX5_nextLine_19 ?_
      obtain ⟨hin, hw⟩ := hw
      refine LW.ialdt (pc := 20) (j := ((102 : Int32) + x2).toNatClampNeg) ht dX5_nextLine_20 hin rfl ?_
      refine AW.iconst (v := -1) (pc := 21) dX5_nextLine_21 (by decide) ?_
      refine AW.icmp_ne (pc := 22) (tgt := 28) dX5_nextLine_22 (by decide) (fun c2 => ?_) (fun c2 => ?_)
      · have hw := hw.1 c2
        refine AW.iload_n (pc := 28) dX5_nextLine_28 rfl rfl ?_
        refine AW.iconst (v := -1) (pc := 29) dX5_nextLine_29 (by decide) ?_
        refine AW.icmp_eq (pc := 30) (tgt := 102) dX5_nextLine_30 (by decide) (fun c3 => ?_) (fun c3 => ?_)
        · have hw := hw.1 c3
          refine AW.iload_n (pc := 102) dX5_nextLine_102 rfl rfl ?_
          refine AW.istore_n (L' := [.ref 47, .int x2, .int x2]) (pc := 103) dX5_nextLine_103 rfl (by decide) rfl rfl ?_
          refine AW.iinc (v := (x2 + 1)) (L' := [.ref 47, .int x2, .int (x2 + 1)]) (pc := 104) dX5_nextLine_104 rfl rfl (by decide) rfl rfl ?_
          refine AW.goto (pc := 107) (tgt := 4) dX5_nextLine_107 (by decide) ?_
          exact ih x2 (x2 + 1) m hw
        · have hw := hw.2 c3
          refine AW.aload_n (pc := 33) dX5_nextLine_33 rfl rfl ?_
          refine LW.get (pc := 34) (f := 10) (ci := 5) (T := TX5) ht (by decide) rfl dX5_nextLine_34 tw_808 rfl (by decide) rfl ?_
          refine AW.sipush (v := 132) (pc := 37) dX5_nextLine_37 (by decide) ?_
          refine AW.iload_n (pc := 40) dX5_nextLine_40 rfl rfl ?_
          refine AW.iadd (pc := 41) dX5_nextLine_41 ?_
          obtain ⟨hin, hw⟩ := hw
          refine LW.ialdt (pc := 42) (j := ((132 : Int32) + x2).toNatClampNeg) ht dX5_nextLine_42 hin rfl ?_
          refine AW.aload_n (pc := 43) dX5_nextLine_43 rfl rfl ?_
          refine LW.get (pc := 44) (f := 10) (ci := 5) (T := TX5) ht (by decide) rfl dX5_nextLine_44 tw_808 rfl (by decide) rfl ?_
          refine AW.sipush (v := 132) (pc := 47) dX5_nextLine_47 (by decide) ?_
          refine AW.iload_n (pc := 50) dX5_nextLine_50 rfl rfl ?_
          refine AW.iadd (pc := 51) dX5_nextLine_51 ?_
          obtain ⟨hin, hw⟩ := hw
          refine LW.ialdt (pc := 52) (j := ((132 : Int32) + x1).toNatClampNeg) ht dX5_nextLine_52 hin rfl ?_
          refine AW.icmp_lt (pc := 53) (tgt := 102) dX5_nextLine_53 (by decide) (fun c4 => ?_) (fun c4 => ?_)
          · have hw := hw.1 c4
            refine AW.iload_n (pc := 102) dX5_nextLine_102 rfl rfl ?_
            refine AW.istore_n (L' := [.ref 47, .int x2, .int x2]) (pc := 103) dX5_nextLine_103 rfl (by decide) rfl rfl ?_
            refine AW.iinc (v := (x2 + 1)) (L' := [.ref 47, .int x2, .int (x2 + 1)]) (pc := 104) dX5_nextLine_104 rfl rfl (by decide) rfl rfl ?_
            refine AW.goto (pc := 107) (tgt := 4) dX5_nextLine_107 (by decide) ?_
            exact ih x2 (x2 + 1) m hw
          · have hw := hw.2 c4
            refine AW.aload_n (pc := 56) dX5_nextLine_56 rfl rfl ?_
            refine LW.get (pc := 57) (f := 10) (ci := 5) (T := TX5) ht (by decide) rfl dX5_nextLine_57 tw_808 rfl (by decide) rfl ?_
            refine AW.sipush (v := 132) (pc := 60) dX5_nextLine_60 (by decide) ?_
            refine AW.iload_n (pc := 63) dX5_nextLine_63 rfl rfl ?_
            refine AW.iadd (pc := 64) dX5_nextLine_64 ?_
            obtain ⟨hin, hw⟩ := hw
            refine LW.ialdt (pc := 65) (j := ((132 : Int32) + x2).toNatClampNeg) ht dX5_nextLine_65 hin rfl ?_
            refine AW.aload_n (pc := 66) dX5_nextLine_66 rfl rfl ?_
            refine LW.get (pc := 67) (f := 10) (ci := 5) (T := TX5) ht (by decide) rfl dX5_nextLine_67 tw_808 rfl (by decide) rfl ?_
            refine AW.sipush (v := 132) (pc := 70) dX5_nextLine_70 (by decide) ?_
            refine AW.iload_n (pc := 73) dX5_nextLine_73 rfl rfl ?_
            refine AW.iadd (pc := 74) dX5_nextLine_74 ?_
            obtain ⟨hin, hw⟩ := hw
            refine LW.ialdt (pc := 75) (j := ((132 : Int32) + x1).toNatClampNeg) ht dX5_nextLine_75 hin rfl ?_
            refine AW.icmp_ne (pc := 76) (tgt := 104) dX5_nextLine_76 (by decide) (fun c5 => ?_) (fun c5 => ?_)
            · have hw := hw.1 c5
              refine AW.iinc (v := (x2 + 1)) (L' := [.ref 47, .int x1, .int (x2 + 1)]) (pc := 104) dX5_nextLine_104 rfl rfl (by decide) rfl rfl ?_
              refine AW.goto (pc := 107) (tgt := 4) dX5_nextLine_107 (by decide) ?_
              exact ih x1 (x2 + 1) m hw
            · have hw := hw.2 c5
              refine AW.aload_n (pc := 79) dX5_nextLine_79 rfl rfl ?_
              refine LW.get (pc := 80) (f := 10) (ci := 5) (T := TX5) ht (by decide) rfl dX5_nextLine_80 tw_808 rfl (by decide) rfl ?_
              refine AW.sipush (v := 162) (pc := 83) dX5_nextLine_83 (by decide) ?_
              refine AW.iload_n (pc := 86) dX5_nextLine_86 rfl rfl ?_
              refine AW.iadd (pc := 87) dX5_nextLine_87 ?_
              obtain ⟨hin, hw⟩ := hw
              refine LW.ialdt (pc := 88) (j := ((162 : Int32) + x2).toNatClampNeg) ht dX5_nextLine_88 hin rfl ?_
              refine AW.aload_n (pc := 89) dX5_nextLine_89 rfl rfl ?_
              refine LW.get (pc := 90) (f := 10) (ci := 5) (T := TX5) ht (by decide) rfl dX5_nextLine_90 tw_808 rfl (by decide) rfl ?_
              refine AW.sipush (v := 162) (pc := 93) dX5_nextLine_93 (by decide) ?_
              refine AW.iload_n (pc := 96) dX5_nextLine_96 rfl rfl ?_
              refine AW.iadd (pc := 97) dX5_nextLine_97 ?_
              obtain ⟨hin, hw⟩ := hw
              refine LW.ialdt (pc := 98) (j := ((162 : Int32) + x1).toNatClampNeg) ht dX5_nextLine_98 hin rfl ?_
              refine AW.icmp_ge (pc := 99) (tgt := 104) dX5_nextLine_99 (by decide) (fun c6 => ?_) (fun c6 => ?_)
              · have hw := hw.1 c6
                refine AW.iinc (v := (x2 + 1)) (L' := [.ref 47, .int x1, .int (x2 + 1)]) (pc := 104) dX5_nextLine_104 rfl rfl (by decide) rfl rfl ?_
                refine AW.goto (pc := 107) (tgt := 4) dX5_nextLine_107 (by decide) ?_
                exact ih x1 (x2 + 1) m hw
              · have hw := hw.2 c6
                refine AW.iload_n (pc := 102) dX5_nextLine_102 rfl rfl ?_
                refine AW.istore_n (L' := [.ref 47, .int x2, .int x2]) (pc := 103) dX5_nextLine_103 rfl (by decide) rfl rfl ?_
                refine AW.iinc (v := (x2 + 1)) (L' := [.ref 47, .int x2, .int (x2 + 1)]) (pc := 104) dX5_nextLine_104 rfl rfl (by decide) rfl rfl ?_
                refine AW.goto (pc := 107) (tgt := 4) dX5_nextLine_107 (by decide) ?_
                exact ih x2 (x2 + 1) m hw
      · have hw := hw.2 c2
        refine AW.goto (pc := 25) (tgt := 104) dX5_nextLine_25 (by decide) ?_
        refine AW.iinc (v := (x2 + 1)) (L' := [.ref 47, .int x1, .int (x2 + 1)]) (pc := 104) dX5_nextLine_104 rfl rfl (by decide) rfl rfl ?_
        refine AW.goto (pc := 107) (tgt := 4) dX5_nextLine_107 (by decide) ?_
        exact ih x1 (x2 + 1) m hw
set_option maxRecDepth 100000 in
set_option maxHeartbeats 4000000 in
theorem b_M_nextLine {Z : Gz} {d k0 mc ms cs ss k t : Nat} {Q : Po} {ex : Hp} {o : Nat → Int64} {K : Int32 → Mem → Prop}  (ht : tok t) (hd : 2 ≤ d) (hcs : cs + 0 ≤ mc) (hss : ss + 0 ≤ ms) (hQ : ∀ (r : Int32) (m : Mem), K r m → Q (.inl (some (.int r))) (lay t ex o m) k) {m : Mem}  (hw : w_M_nextLine  m K) : AW Z mX5_nextLine d k0 mc ms Q 0 [.ref 47, .null, .null] [] (lay t ex o m) k cs ss := by
  unfold w_M_nextLine at hw
  refine AW.iconst (v := -1) (pc := 0) dX5_nextLine_0 (by decide) ?_
  refine AW.istore_n (L' := [.ref 47, .int (-1 : Int32), .null]) (pc := 1) dX5_nextLine_1 rfl (by decide) rfl rfl ?_
  refine AW.iconst (v := 0) (pc := 2) dX5_nextLine_2 (by decide) ?_
  refine AW.istore_n (L' := [.ref 47, .int (-1 : Int32), .int (0 : Int32)]) (pc := 3) dX5_nextLine_3 rfl (by decide) rfl rfl ?_
  refine l_M_nextLine_4 ht hd (by omega) (by omega) hQ ?_ 31 (-1 : Int32) (0 : Int32) m hw
  intro y7 y8 m9 hw
  refine AW.iload_n (pc := 110) dX5_nextLine_110 rfl rfl ?_
  exact AW.iret (pc := 111) dX5_nextLine_111 rfl rfl (by omega) (by omega) (hQ _ _ hw)
set_option maxRecDepth 100000 in
set_option maxHeartbeats 4000000 in
theorem c_M_nextLine {d k t : Nat} {ex : Hp} {o : Nat → Int64} {K : Int32 → Mem → Prop} {m : Mem}  (ht : tok t) (hd : 2 ≤ d) (hw : w_M_nextLine  m K) : AM mX5_nextLine d [.ref 47] (lay t ex o m) k 0 0 (fun oc h' k' => k = k' ∧ ∃ (r : Int32) (m' : Mem), oc = .inl (some (.int r)) ∧ h' = lay t ex o m' ∧ K r m') :=
  AM.intro (μ := mX5_nextLine) (n := 2) (by decide) rfl rfl rfl (b_M_nextLine ht hd (by omega) (by omega) (fun _ _ hK => ⟨rfl, _, _, rfl, rfl, hK⟩)  hw)
def w_M_pendingLines_4 : Nat → Int32 → Int32 → Mem → (Int32 → Int32 → Mem → Prop) → (Int32 → Mem → Prop) → Prop
  | 0, _, _, _, _, _ => False
  | n + 1, x1, x2, m, E39, K => (((m 47 1) ≤ x2 → E39 x1 x2 m) ∧ (¬ ((m 47 1) ≤ x2) → vp_in ((102 : Int32) + x2) 342 ∧ ((¬ ((m 60 ((102 : Int32) + x2).toNatClampNeg) = (-1 : Int32)) → w_M_pendingLines_4 n (x1 + (1 : Int32)) (x2 + 1) m E39 K) ∧ ((m 60 ((102 : Int32) + x2).toNatClampNeg) = (-1 : Int32) → w_M_pendingLines_4 n (x1 + (0 : Int32)) (x2 + 1) m E39 K))))
def w_M_pendingLines (m : Mem) (K : Int32 → Mem → Prop) : Prop :=
  w_M_pendingLines_4 31 (0 : Int32) (0 : Int32) m (fun y3 y4 m5 => K y3 m5) K
set_option maxRecDepth 100000 in
set_option maxHeartbeats 4000000 in
theorem l_M_pendingLines_4 {Z : Gz} {d k0 mc ms cs ss k t : Nat} {Q : Po} {ex : Hp} {o : Nat → Int64} {K : Int32 → Mem → Prop}  (ht : tok t) (hd : 2 ≤ d) (hcs : cs ≤ mc) (hss : ss ≤ ms) (hQ : ∀ (r : Int32) (m : Mem), K r m → Q (.inl (some (.int r))) (lay t ex o m) k) {E39 : Int32 → Int32 → Mem → Prop} (hE39 : ∀ (x1 : Int32) (x2 : Int32) (m : Mem), E39 x1 x2 m → AW Z mX5_pendingLines d k0 mc ms Q 39 [.ref 47, .int x1, .int x2] [] (lay t ex o m) k cs ss) : ∀ (n : Nat) (x1 : Int32) (x2 : Int32) (m : Mem),  w_M_pendingLines_4 n x1 x2 m E39 K → AW Z mX5_pendingLines d k0 mc ms Q 4 [.ref 47, .int x1, .int x2] [] (lay t ex o m) k cs ss := by
  intro n
  induction n with
  | zero =>
    intros; rename_i hw; exact absurd hw (by simp [w_M_pendingLines_4])
  | succ n ih =>
    intro x1 x2 m hw
    unfold w_M_pendingLines_4 at hw
    refine AW.iload_n (pc := 4) dX5_pendingLines_4 rfl rfl ?_
    refine AW.aload_n (pc := 5) dX5_pendingLines_5 rfl rfl ?_
    refine LW.get (pc := 6) (f := 1) (ci := 5) (T := TX5) ht (by decide) rfl dX5_pendingLines_6 tw_799 rfl (by decide) rfl ?_
    refine AW.icmp_ge (pc := 9) (tgt := 39) dX5_pendingLines_9 (by decide) (fun c1 => ?_) (fun c1 => ?_)
    · have hw := hw.1 c1
      exact hE39 x1 x2 m hw
    · have hw := hw.2 c1
      refine AW.iload_n (pc := 12) dX5_pendingLines_12 rfl rfl ?_
      refine AW.aload_n (pc := 13) dX5_pendingLines_13 rfl rfl ?_
      refine LW.get (pc := 14) (f := 10) (ci := 5) (T := TX5) ht (by decide) rfl dX5_pendingLines_14 tw_808 rfl (by decide) rfl ?_
      refine AW.bipush (v := 102) (pc := 17) dX5_pendingLines_17 (by decide) ?_
      refine AW.iload_n (pc := 19) dX5_pendingLines_19 rfl rfl ?_
      refine AW.iadd (pc := 20) dX5_pendingLines_20 ?_
      obtain ⟨hin, hw⟩ := hw
      refine LW.ialdt (pc := 21) (j := ((102 : Int32) + x2).toNatClampNeg) ht dX5_pendingLines_21 hin rfl ?_
      refine AW.iconst (v := -1) (pc := 22) dX5_pendingLines_22 (by decide) ?_
      refine AW.icmp_ne (pc := 23) (tgt := 30) dX5_pendingLines_23 (by decide) (fun c2 => ?_) (fun c2 => ?_)
      · have hw := hw.1 c2
        refine AW.iconst (v := 1) (pc := 30) dX5_pendingLines_30 (by decide) ?_
        refine AW.iadd (pc := 31) dX5_pendingLines_31 ?_
        refine AW.istore_n (L' := [.ref 47, .int (x1 + (1 : Int32)), .int x2]) (pc := 32) dX5_pendingLines_32 rfl (by decide) rfl rfl ?_
        refine AW.iinc (v := (x2 + 1)) (L' := [.ref 47, .int (x1 + (1 : Int32)), .int (x2 + 1)]) (pc := 33) dX5_pendingLines_33 rfl rfl (by decide) rfl rfl ?_
        refine AW.goto (pc := 36) (tgt := 4) dX5_pendingLines_36 (by decide) ?_
        exact ih (x1 + (1 : Int32)) (x2 + 1) m hw
      · have hw := hw.2 c2
        refine AW.iconst (v := 0) (pc := 26) dX5_pendingLines_26 (by decide) ?_
        refine AW.goto (pc := 27) (tgt := 31) dX5_pendingLines_27 (by decide) ?_
        refine AW.iadd (pc := 31) dX5_pendingLines_31 ?_
        refine AW.istore_n (L' := [.ref 47, .int (x1 + (0 : Int32)), .int x2]) (pc := 32) dX5_pendingLines_32 rfl (by decide) rfl rfl ?_
        refine AW.iinc (v := (x2 + 1)) (L' := [.ref 47, .int (x1 + (0 : Int32)), .int (x2 + 1)]) (pc := 33) dX5_pendingLines_33 rfl rfl (by decide) rfl rfl ?_
        refine AW.goto (pc := 36) (tgt := 4) dX5_pendingLines_36 (by decide) ?_
        exact ih (x1 + (0 : Int32)) (x2 + 1) m hw
set_option maxRecDepth 100000 in
set_option maxHeartbeats 4000000 in
theorem b_M_pendingLines {Z : Gz} {d k0 mc ms cs ss k t : Nat} {Q : Po} {ex : Hp} {o : Nat → Int64} {K : Int32 → Mem → Prop}  (ht : tok t) (hd : 2 ≤ d) (hcs : cs + 0 ≤ mc) (hss : ss + 0 ≤ ms) (hQ : ∀ (r : Int32) (m : Mem), K r m → Q (.inl (some (.int r))) (lay t ex o m) k) {m : Mem}  (hw : w_M_pendingLines  m K) : AW Z mX5_pendingLines d k0 mc ms Q 0 [.ref 47, .null, .null] [] (lay t ex o m) k cs ss := by
  unfold w_M_pendingLines at hw
  refine AW.iconst (v := 0) (pc := 0) dX5_pendingLines_0 (by decide) ?_
  refine AW.istore_n (L' := [.ref 47, .int (0 : Int32), .null]) (pc := 1) dX5_pendingLines_1 rfl (by decide) rfl rfl ?_
  refine AW.iconst (v := 0) (pc := 2) dX5_pendingLines_2 (by decide) ?_
  refine AW.istore_n (L' := [.ref 47, .int (0 : Int32), .int (0 : Int32)]) (pc := 3) dX5_pendingLines_3 rfl (by decide) rfl rfl ?_
  refine l_M_pendingLines_4 ht hd (by omega) (by omega) hQ ?_ 31 (0 : Int32) (0 : Int32) m hw
  intro y3 y4 m5 hw
  refine AW.iload_n (pc := 39) dX5_pendingLines_39 rfl rfl ?_
  exact AW.iret (pc := 40) dX5_pendingLines_40 rfl rfl (by omega) (by omega) (hQ _ _ hw)
set_option maxRecDepth 100000 in
set_option maxHeartbeats 4000000 in
theorem c_M_pendingLines {d k t : Nat} {ex : Hp} {o : Nat → Int64} {K : Int32 → Mem → Prop} {m : Mem}  (ht : tok t) (hd : 2 ≤ d) (hw : w_M_pendingLines  m K) : AM mX5_pendingLines d [.ref 47] (lay t ex o m) k 0 0 (fun oc h' k' => k = k' ∧ ∃ (r : Int32) (m' : Mem), oc = .inl (some (.int r)) ∧ h' = lay t ex o m' ∧ K r m') :=
  AM.intro (μ := mX5_pendingLines) (n := 2) (by decide) rfl rfl rfl (b_M_pendingLines ht hd (by omega) (by omega) (fun _ _ hK => ⟨rfl, _, _, rfl, rfl, hK⟩)  hw)
def w_M_toldNow (p1 : Int32) (m : Mem) (K : Int32 → Mem → Prop) : Prop :=
  ((p1 = 0 → K (m 60 0) m) ∧ (p1 = 1 → w_M_pendingLines  m (fun r2 m1 => K r2 m1)) ∧ (p1 = 2 → w_M_nextLine  m (fun r4 m3 => ((¬ (r4 = (-1 : Int32)) → w_M_nextLine  m3 (fun r7 m6 => vp_in ((132 : Int32) + r7) 342 ∧ K (m6 60 ((132 : Int32) + r7).toNatClampNeg) m6)) ∧ (r4 = (-1 : Int32) → K (-1 : Int32) m3)))) ∧ (p1 = 3 → K (m 60 1) m) ∧ (p1 = 4 → K (m 60 2) m) ∧ (¬ p1 = 0 → ¬ p1 = 1 → ¬ p1 = 2 → ¬ p1 = 3 → ¬ p1 = 4 → K (m 60 3) m))
set_option maxRecDepth 100000 in
set_option maxHeartbeats 4000000 in
theorem b_M_toldNow {Z : Gz} {d k0 mc ms cs ss k t : Nat} {Q : Po} {ex : Hp} {o : Nat → Int64} {K : Int32 → Mem → Prop}  (ht : tok t) (hd : 3 ≤ d) (hcs : cs + 0 ≤ mc) (hss : ss + 0 ≤ ms) (hQ : ∀ (r : Int32) (m : Mem), K r m → Q (.inl (some (.int r))) (lay t ex o m) k) {m : Mem} (p1 : Int32) (hw : w_M_toldNow p1 m K) : AW Z mX5_toldNow d k0 mc ms Q 0 [.ref 47, .int p1] [] (lay t ex o m) k cs ss := by
  unfold w_M_toldNow at hw
  refine AW.iload_n (pc := 0) dX5_toldNow_0 rfl rfl ?_
  by_cases s0 : p1 = 0
  · have hw := hw.1 s0
    refine AW.tableIn (pc := 1) (tgt := 36) dX5_toldNow_1 (by rw [s0]; decide) (by rw [s0]; decide) (off := 35) (by rw [s0]; decide) (by decide) ?_
    refine AW.aload_n (pc := 36) dX5_toldNow_36 rfl rfl ?_
    refine LW.get (pc := 37) (f := 10) (ci := 5) (T := TX5) ht (by decide) rfl dX5_toldNow_37 tw_808 rfl (by decide) rfl ?_
    refine AW.iconst (v := 0) (pc := 40) dX5_toldNow_40 (by decide) ?_
    refine LW.ialdt (pc := 41) (j := 0) ht dX5_toldNow_41 (vp_lit (by decide)) (by decide) ?_
    exact AW.iret (pc := 42) dX5_toldNow_42 rfl rfl (by omega) (by omega) (hQ _ _ hw)
  by_cases s1 : p1 = 1
  · have hw := hw.2.1 s1
    refine AW.tableIn (pc := 1) (tgt := 43) dX5_toldNow_1 (by rw [s1]; decide) (by rw [s1]; decide) (off := 42) (by rw [s1]; decide) (by decide) ?_
    refine AW.aload_n (pc := 43) dX5_toldNow_43 rfl rfl ?_
    refine AW.callV (pc := 44) (S' := []) dX5_toldNow_44 (c_M_pendingLines (d := d - 1) ht (by omega) hw) ok_X5_pendingLines tw_1020 ts_56 tw_1018 (fix_pos (by decide)) (lay_at ht (by decide)) (show aw_cl[5]? = some _ from rfl) rfl rfl (by omega) rfl (Nat.le_of_ble_eq_true rfl) (by omega) (by omega) ?_ (fun E h' k' hq => by obtain ⟨rfl, r2, m1, hv, -⟩ := hq; cases hv)
    intro v h' k' hq
    obtain ⟨rfl, r2, m1, hv, rfl, hw⟩ := hq
    cases hv
    show AW _ _ _ _ _ _ _ 47 [.ref 47, .int p1] [.int r2] (lay t ex o m1) k _ _
    exact AW.iret (pc := 47) dX5_toldNow_47 rfl rfl (by omega) (by omega) (hQ _ _ hw)
  by_cases s2 : p1 = 2
  · have hw := hw.2.2.1 s2
    refine AW.tableIn (pc := 1) (tgt := 48) dX5_toldNow_1 (by rw [s2]; decide) (by rw [s2]; decide) (off := 47) (by rw [s2]; decide) (by decide) ?_
    refine AW.aload_n (pc := 48) dX5_toldNow_48 rfl rfl ?_
    refine AW.callV (pc := 49) (S' := []) dX5_toldNow_49 (c_M_nextLine (d := d - 1) ht (by omega) hw) ok_X5_nextLine tw_1052 ts_62 tw_1050 (fix_pos (by decide)) (lay_at ht (by decide)) (show aw_cl[5]? = some _ from rfl) rfl rfl (by omega) rfl (Nat.le_of_ble_eq_true rfl) (by omega) (by omega) ?_ (fun E h' k' hq => by obtain ⟨rfl, r4, m3, hv, -⟩ := hq; cases hv)
    intro v h' k' hq
    obtain ⟨rfl, r4, m3, hv, rfl, hw⟩ := hq
    cases hv
    show AW _ _ _ _ _ _ _ 52 [.ref 47, .int p1] [.int r4] (lay t ex o m3) k _ _
    refine AW.iconst (v := -1) (pc := 52) dX5_toldNow_52 (by decide) ?_
    refine AW.icmp_ne (pc := 53) (tgt := 60) dX5_toldNow_53 (by decide) (fun c5 => ?_) (fun c5 => ?_)
    · have hw := hw.1 c5
      refine AW.aload_n (pc := 60) dX5_toldNow_60 rfl rfl ?_
      refine LW.get (pc := 61) (f := 10) (ci := 5) (T := TX5) ht (by decide) rfl dX5_toldNow_61 tw_808 rfl (by decide) rfl ?_
      refine AW.sipush (v := 132) (pc := 64) dX5_toldNow_64 (by decide) ?_
      refine AW.aload_n (pc := 67) dX5_toldNow_67 rfl rfl ?_
      refine AW.callV (pc := 68) (S' := [.int (132 : Int32), .ref t]) dX5_toldNow_68 (c_M_nextLine (d := d - 1) ht (by omega) hw) ok_X5_nextLine tw_1052 ts_62 tw_1050 (fix_pos (by decide)) (lay_at ht (by decide)) (show aw_cl[5]? = some _ from rfl) rfl rfl (by omega) rfl (Nat.le_of_ble_eq_true rfl) (by omega) (by omega) ?_ (fun E h' k' hq => by obtain ⟨rfl, r7, m6, hv, -⟩ := hq; cases hv)
      intro v h' k' hq
      obtain ⟨rfl, r7, m6, hv, rfl, hw⟩ := hq
      cases hv
      show AW _ _ _ _ _ _ _ 71 [.ref 47, .int p1] [.int r7, .int (132 : Int32), .ref t] (lay t ex o m6) k _ _
      refine AW.iadd (pc := 71) dX5_toldNow_71 ?_
      obtain ⟨hin, hw⟩ := hw
      refine LW.ialdt (pc := 72) (j := ((132 : Int32) + r7).toNatClampNeg) ht dX5_toldNow_72 hin rfl ?_
      exact AW.iret (pc := 73) dX5_toldNow_73 rfl rfl (by omega) (by omega) (hQ _ _ hw)
    · have hw := hw.2 c5
      refine AW.iconst (v := -1) (pc := 56) dX5_toldNow_56 (by decide) ?_
      refine AW.goto (pc := 57) (tgt := 73) dX5_toldNow_57 (by decide) ?_
      exact AW.iret (pc := 73) dX5_toldNow_73 rfl rfl (by omega) (by omega) (hQ _ _ hw)
  by_cases s3 : p1 = 3
  · have hw := hw.2.2.2.1 s3
    refine AW.tableIn (pc := 1) (tgt := 74) dX5_toldNow_1 (by rw [s3]; decide) (by rw [s3]; decide) (off := 73) (by rw [s3]; decide) (by decide) ?_
    refine AW.aload_n (pc := 74) dX5_toldNow_74 rfl rfl ?_
    refine LW.get (pc := 75) (f := 10) (ci := 5) (T := TX5) ht (by decide) rfl dX5_toldNow_75 tw_808 rfl (by decide) rfl ?_
    refine AW.iconst (v := 1) (pc := 78) dX5_toldNow_78 (by decide) ?_
    refine LW.ialdt (pc := 79) (j := 1) ht dX5_toldNow_79 (vp_lit (by decide)) (by decide) ?_
    exact AW.iret (pc := 80) dX5_toldNow_80 rfl rfl (by omega) (by omega) (hQ _ _ hw)
  by_cases s4 : p1 = 4
  · have hw := hw.2.2.2.2.1 s4
    refine AW.tableIn (pc := 1) (tgt := 81) dX5_toldNow_1 (by rw [s4]; decide) (by rw [s4]; decide) (off := 80) (by rw [s4]; decide) (by decide) ?_
    refine AW.aload_n (pc := 81) dX5_toldNow_81 rfl rfl ?_
    refine LW.get (pc := 82) (f := 10) (ci := 5) (T := TX5) ht (by decide) rfl dX5_toldNow_82 tw_808 rfl (by decide) rfl ?_
    refine AW.iconst (v := 2) (pc := 85) dX5_toldNow_85 (by decide) ?_
    refine LW.ialdt (pc := 86) (j := 2) ht dX5_toldNow_86 (vp_lit (by decide)) (by decide) ?_
    exact AW.iret (pc := 87) dX5_toldNow_87 rfl rfl (by omega) (by omega) (hQ _ _ hw)
  have hw := hw.2.2.2.2.2 s0 s1 s2 s3 s4
  refine AW.tableOut (pc := 1) (tgt := 88) dX5_toldNow_1 (by
      have q0 := lv_neT s0 (show (0 : Int32).toInt = 0 by decide)
      have q1 := lv_neT s1 (show (1 : Int32).toInt = 1 by decide)
      have q2 := lv_neT s2 (show (2 : Int32).toInt = 2 by decide)
      have q3 := lv_neT s3 (show (3 : Int32).toInt = 3 by decide)
      have q4 := lv_neT s4 (show (4 : Int32).toInt = 4 by decide)
      omega) (by decide) ?_
  refine AW.aload_n (pc := 88) dX5_toldNow_88 rfl rfl ?_
  refine LW.get (pc := 89) (f := 10) (ci := 5) (T := TX5) ht (by decide) rfl dX5_toldNow_89 tw_808 rfl (by decide) rfl ?_
  refine AW.iconst (v := 3) (pc := 92) dX5_toldNow_92 (by decide) ?_
  refine LW.ialdt (pc := 93) (j := 3) ht dX5_toldNow_93 (vp_lit (by decide)) (by decide) ?_
  exact AW.iret (pc := 94) dX5_toldNow_94 rfl rfl (by omega) (by omega) (hQ _ _ hw)
set_option maxRecDepth 100000 in
set_option maxHeartbeats 4000000 in
theorem c_M_toldNow {d k t : Nat} {ex : Hp} {o : Nat → Int64} {K : Int32 → Mem → Prop} {m : Mem} {p1 : Int32} (ht : tok t) (hd : 3 ≤ d) (hw : w_M_toldNow p1 m K) : AM mX5_toldNow d [.ref 47, .int p1] (lay t ex o m) k 0 0 (fun oc h' k' => k = k' ∧ ∃ (r : Int32) (m' : Mem), oc = .inl (some (.int r)) ∧ h' = lay t ex o m' ∧ K r m') :=
  AM.intro (μ := mX5_toldNow) (n := 0) (by decide) rfl rfl rfl (b_M_toldNow ht hd (by omega) (by omega) (fun _ _ hK => ⟨rfl, _, _, rfl, rfl, hK⟩) p1 hw)
def w_M_many (p0 : Int32) (m : Mem) (K : Int32 → Mem → Prop) : Prop :=
  (((2 : Int32) ≤ p0 → (((7 : Int32) ≤ p0 → K (3 : Int32) m) ∧ (¬ ((7 : Int32) ≤ p0) → K (2 : Int32) m))) ∧ (¬ ((2 : Int32) ≤ p0) → K (1 : Int32) m))
set_option maxRecDepth 100000 in
set_option maxHeartbeats 4000000 in
theorem b_M_many {Z : Gz} {d k0 mc ms cs ss k t : Nat} {Q : Po} {ex : Hp} {o : Nat → Int64} {K : Int32 → Mem → Prop}  (ht : tok t) (hd : 2 ≤ d) (hcs : cs + 0 ≤ mc) (hss : ss + 0 ≤ ms) (hQ : ∀ (r : Int32) (m : Mem), K r m → Q (.inl (some (.int r))) (lay t ex o m) k) {m : Mem} (p0 : Int32) (hw : w_M_many p0 m K) : AW Z mX5_many d k0 mc ms Q 0 [.int p0] [] (lay t ex o m) k cs ss := by
  unfold w_M_many at hw
  refine AW.iload_n (pc := 0) dX5_many_0 rfl rfl ?_
  refine AW.iconst (v := 2) (pc := 1) dX5_many_1 (by decide) ?_
  refine AW.icmp_ge (pc := 2) (tgt := 9) dX5_many_2 (by decide) (fun c1 => ?_) (fun c1 => ?_)
  · have hw := hw.1 c1
    refine AW.iload_n (pc := 9) dX5_many_9 rfl rfl ?_
    refine AW.bipush (v := 7) (pc := 10) dX5_many_10 (by decide) ?_
    refine AW.icmp_ge (pc := 12) (tgt := 19) dX5_many_12 (by decide) (fun c2 => ?_) (fun c2 => ?_)
    · have hw := hw.1 c2
      refine AW.iconst (v := 3) (pc := 19) dX5_many_19 (by decide) ?_
      exact AW.iret (pc := 20) dX5_many_20 rfl rfl (by omega) (by omega) (hQ _ _ hw)
    · have hw := hw.2 c2
      refine AW.iconst (v := 2) (pc := 15) dX5_many_15 (by decide) ?_
      refine AW.goto (pc := 16) (tgt := 20) dX5_many_16 (by decide) ?_
      exact AW.iret (pc := 20) dX5_many_20 rfl rfl (by omega) (by omega) (hQ _ _ hw)
  · have hw := hw.2 c1
    refine AW.iconst (v := 1) (pc := 5) dX5_many_5 (by decide) ?_
    refine AW.goto (pc := 6) (tgt := 20) dX5_many_6 (by decide) ?_
    exact AW.iret (pc := 20) dX5_many_20 rfl rfl (by omega) (by omega) (hQ _ _ hw)
set_option maxRecDepth 100000 in
set_option maxHeartbeats 4000000 in
theorem c_M_many {d k t : Nat} {ex : Hp} {o : Nat → Int64} {K : Int32 → Mem → Prop} {m : Mem} {p0 : Int32} (ht : tok t) (hd : 2 ≤ d) (hw : w_M_many p0 m K) : AM mX5_many d [.int p0] (lay t ex o m) k 0 0 (fun oc h' k' => k = k' ∧ ∃ (r : Int32) (m' : Mem), oc = .inl (some (.int r)) ∧ h' = lay t ex o m' ∧ K r m') :=
  AM.intro (μ := mX5_many) (n := 0) (by decide) rfl rfl rfl (b_M_many ht hd (by omega) (by omega) (fun _ _ hK => ⟨rfl, _, _, rfl, rfl, hK⟩) p0 hw)
def w_M_gate (p1 : Int32) (p2 : Int32) (p3 : Int32) (p4 : Int32) (p5 : Int32) (p6 : Int32) (m : Mem) (K : Int32 → Mem → Prop) : Prop :=
  ∀ m1 : Mem, m1 = up2 m 47 0 (0 : Int32) → w_M_isIn p1 (0 : Int32) (7 : Int32) m1 (fun r3 m2 => ((r3 = 0 → w_M_no (1 : Int32) m2 (fun r6 m5 => K r6 m5)) ∧ (¬ (r3 = 0) → w_M_isIn p6 (0 : Int32) (20 : Int32) m2 (fun r8 m7 => ((¬ (r8 = 0) → w_M_many p1 m7 (fun r11 m10 => w_M_isWire p2 m10 (fun r13 m12 => ((r13 = 0 → w_M_no (2 : Int32) m12 (fun r16 m15 => K r16 m15)) ∧ (¬ (r13 = 0) → w_M_isWire p3 m12 (fun r18 m17 => ((r18 = 0 → w_M_no (2 : Int32) m17 (fun r21 m20 => K r21 m20)) ∧ (¬ (r18 = 0) → (∀ J23 : Mem → Prop, (∀  (m22 : Mem), ((∀ J31 : Mem → Prop, (∀  (m30 : Mem), (((¬ ((m30 47 1) = (30 : Int32)) → (∀ J41 : Int32 → Mem → Prop, (∀ (v39 : Int32) (m40 : Mem), (((r11 ≤ (2 : Int32) → w_M_add p1 p2 p3 v39 (-1 : Int32) p6 m40 (fun r45 m44 => K r45 m44)) ∧ (¬ (r11 ≤ (2 : Int32)) → w_M_add p1 p2 p3 v39 p5 p6 m40 (fun r47 m46 => K r47 m46)))) → J41 v39 m40) → ((r11 ≤ (1 : Int32) → J41 (-1 : Int32) m30) ∧ (¬ (r11 ≤ (1 : Int32)) → J41 p4 m30)))) ∧ ((m30 47 1) = (30 : Int32) → w_M_no (3 : Int32) m30 (fun r49 m48 => K r49 m48)))) → J31 m30) → ((r11 ≤ (2 : Int32) → J31  m22) ∧ (¬ (r11 ≤ (2 : Int32)) → w_M_isWire p5 m22 (fun r34 m33 => ((¬ (r34 = 0) → J31  m33) ∧ (r34 = 0 → w_M_no (2 : Int32) m33 (fun r37 m36 => K r37 m36)))))))) → J23 m22) → ((r11 ≤ (1 : Int32) → J23  m17) ∧ (¬ (r11 ≤ (1 : Int32)) → w_M_isWire p4 m17 (fun r26 m25 => ((r26 = 0 → w_M_no (2 : Int32) m25 (fun r29 m28 => K r29 m28)) ∧ (¬ (r26 = 0) → J23  m25)))))))))))))) ∧ (r8 = 0 → w_M_no (1 : Int32) m7 (fun r51 m50 => K r51 m50)))))))
set_option maxRecDepth 100000 in
set_option maxHeartbeats 4000000 in
theorem b_M_gate {Z : Gz} {d k0 mc ms cs ss k t : Nat} {Q : Po} {ex : Hp} {o : Nat → Int64} {K : Int32 → Mem → Prop}  (ht : tok t) (hd : 4 ≤ d) (hcs : cs + 0 ≤ mc) (hss : ss + 0 ≤ ms) (hQ : ∀ (r : Int32) (m : Mem), K r m → Q (.inl (some (.int r))) (lay t ex o m) k) {m : Mem} (p1 : Int32) (p2 : Int32) (p3 : Int32) (p4 : Int32) (p5 : Int32) (p6 : Int32) (hw : w_M_gate p1 p2 p3 p4 p5 p6 m K) : AW Z mX5_gate d k0 mc ms Q 0 [.ref 47, .int p1, .int p2, .int p3, .int p4, .int p5, .int p6, .null] [] (lay t ex o m) k cs ss := by
  unfold w_M_gate at hw
  refine AW.aload_n (pc := 0) dX5_gate_0 rfl rfl ?_
  refine AW.iconst (v := 0) (pc := 1) dX5_gate_1 (by decide) ?_
  have hw := hw _ rfl
  refine LW.put (pc := 2) (f := 0) (ci := 5) (T := TX5) ht (by decide) rfl sp_47_0 dX5_gate_2 tw_798 rfl (by decide) (Nat.le_of_ble_eq_true rfl) rfl ⟨rfl, rfl⟩ ?_
  generalize up2 m 47 0 (0 : Int32) = m1 at hw ⊢
  refine AW.iload_n (pc := 5) dX5_gate_5 rfl rfl ?_
  refine AW.iconst (v := 0) (pc := 6) dX5_gate_6 (by decide) ?_
  refine AW.bipush (v := 7) (pc := 7) dX5_gate_7 (by decide) ?_
  refine AW.callS (pc := 9) (S' := []) dX5_gate_9 (c_M_isIn (d := d - 1) ht (by omega) hw) ok_X5_isIn tw_859 tw_858 rfl (by omega) rfl (Nat.le_of_ble_eq_true rfl) (by omega) (by omega) ?_ (fun E h' k' hq => by obtain ⟨rfl, r3, m2, hv, -⟩ := hq; cases hv)
  intro v h' k' hq
  obtain ⟨rfl, r3, m2, hv, rfl, hw⟩ := hq
  cases hv
  show AW _ _ _ _ _ _ _ 12 [.ref 47, .int p1, .int p2, .int p3, .int p4, .int p5, .int p6, .null] [.int r3] (lay t ex o m2) k _ _
  refine AW.if_eq (pc := 12) (tgt := 26) dX5_gate_12 (by decide) (fun c4 => ?_) (fun c4 => ?_)
  · have hw := hw.1 c4
    refine AW.aload_n (pc := 26) dX5_gate_26 rfl rfl ?_
    refine AW.iconst (v := 1) (pc := 27) dX5_gate_27 (by decide) ?_
    refine AW.callV (pc := 28) (S' := []) dX5_gate_28 (c_M_no (d := d - 1) ht (by omega) hw) ok_X5_no tw_863 ts_32 tw_861 (fix_pos (by decide)) (lay_at ht (by decide)) (show aw_cl[5]? = some _ from rfl) rfl rfl (by omega) rfl (Nat.le_of_ble_eq_true rfl) (by omega) (by omega) ?_ (fun E h' k' hq => by obtain ⟨rfl, r6, m5, hv, -⟩ := hq; cases hv)
    intro v h' k' hq
    obtain ⟨rfl, r6, m5, hv, rfl, hw⟩ := hq
    cases hv
    show AW _ _ _ _ _ _ _ 31 [.ref 47, .int p1, .int p2, .int p3, .int p4, .int p5, .int p6, .null] [.int r6] (lay t ex o m5) k _ _
    exact AW.iret (pc := 31) dX5_gate_31 rfl rfl (by omega) (by omega) (hQ _ _ hw)
  · have hw := hw.2 c4
    refine AW.iload (pc := 15) dX5_gate_15 rfl ?_
    refine AW.iconst (v := 0) (pc := 17) dX5_gate_17 (by decide) ?_
    refine AW.bipush (v := 20) (pc := 18) dX5_gate_18 (by decide) ?_
    refine AW.callS (pc := 20) (S' := []) dX5_gate_20 (c_M_isIn (d := d - 1) ht (by omega) hw) ok_X5_isIn tw_859 tw_858 rfl (by omega) rfl (Nat.le_of_ble_eq_true rfl) (by omega) (by omega) ?_ (fun E h' k' hq => by obtain ⟨rfl, r8, m7, hv, -⟩ := hq; cases hv)
    intro v h' k' hq
    obtain ⟨rfl, r8, m7, hv, rfl, hw⟩ := hq
    cases hv
    show AW _ _ _ _ _ _ _ 23 [.ref 47, .int p1, .int p2, .int p3, .int p4, .int p5, .int p6, .null] [.int r8] (lay t ex o m7) k _ _
    refine AW.if_ne (pc := 23) (tgt := 32) dX5_gate_23 (by decide) (fun c9 => ?_) (fun c9 => ?_)
    · have hw := hw.1 c9
      refine AW.iload_n (pc := 32) dX5_gate_32 rfl rfl ?_
      refine AW.callS (pc := 33) (S' := []) dX5_gate_33 (c_M_many (d := d - 1) ht (by omega) hw) ok_X5_many tw_874 tw_873 rfl (by omega) rfl (Nat.le_of_ble_eq_true rfl) (by omega) (by omega) ?_ (fun E h' k' hq => by obtain ⟨rfl, r11, m10, hv, -⟩ := hq; cases hv)
      intro v h' k' hq
      obtain ⟨rfl, r11, m10, hv, rfl, hw⟩ := hq
      cases hv
      show AW _ _ _ _ _ _ _ 36 [.ref 47, .int p1, .int p2, .int p3, .int p4, .int p5, .int p6, .null] [.int r11] (lay t ex o m10) k _ _
      refine AW.istore (L' := [.ref 47, .int p1, .int p2, .int p3, .int p4, .int p5, .int p6, .int r11]) (pc := 36) dX5_gate_36 (by decide) rfl rfl ?_
      refine AW.iload_n (pc := 38) dX5_gate_38 rfl rfl ?_
      refine AW.callS (pc := 39) (S' := []) dX5_gate_39 (c_M_isWire (d := d - 1) ht (by omega) hw) ok_X5_isWire tw_856 tw_855 rfl (by omega) rfl (Nat.le_of_ble_eq_true rfl) (by omega) (by omega) ?_ (fun E h' k' hq => by obtain ⟨rfl, r13, m12, hv, -⟩ := hq; cases hv)
      intro v h' k' hq
      obtain ⟨rfl, r13, m12, hv, rfl, hw⟩ := hq
      cases hv
      show AW _ _ _ _ _ _ _ 42 [.ref 47, .int p1, .int p2, .int p3, .int p4, .int p5, .int p6, .int r11] [.int r13] (lay t ex o m12) k _ _
      refine AW.if_eq (pc := 42) (tgt := 80) dX5_gate_42 (by decide) (fun c14 => ?_) (fun c14 => ?_)
      · have hw := hw.1 c14
        refine AW.aload_n (pc := 80) dX5_gate_80 rfl rfl ?_
        refine AW.iconst (v := 2) (pc := 81) dX5_gate_81 (by decide) ?_
        refine AW.callV (pc := 82) (S' := []) dX5_gate_82 (c_M_no (d := d - 1) ht (by omega) hw) ok_X5_no tw_863 ts_32 tw_861 (fix_pos (by decide)) (lay_at ht (by decide)) (show aw_cl[5]? = some _ from rfl) rfl rfl (by omega) rfl (Nat.le_of_ble_eq_true rfl) (by omega) (by omega) ?_ (fun E h' k' hq => by obtain ⟨rfl, r16, m15, hv, -⟩ := hq; cases hv)
        intro v h' k' hq
        obtain ⟨rfl, r16, m15, hv, rfl, hw⟩ := hq
        cases hv
        show AW _ _ _ _ _ _ _ 85 [.ref 47, .int p1, .int p2, .int p3, .int p4, .int p5, .int p6, .int r11] [.int r16] (lay t ex o m15) k _ _
        exact AW.iret (pc := 85) dX5_gate_85 rfl rfl (by omega) (by omega) (hQ _ _ hw)
      · have hw := hw.2 c14
        refine AW.iload_n (pc := 45) dX5_gate_45 rfl rfl ?_
        refine AW.callS (pc := 46) (S' := []) dX5_gate_46 (c_M_isWire (d := d - 1) ht (by omega) hw) ok_X5_isWire tw_856 tw_855 rfl (by omega) rfl (Nat.le_of_ble_eq_true rfl) (by omega) (by omega) ?_ (fun E h' k' hq => by obtain ⟨rfl, r18, m17, hv, -⟩ := hq; cases hv)
        intro v h' k' hq
        obtain ⟨rfl, r18, m17, hv, rfl, hw⟩ := hq
        cases hv
        show AW _ _ _ _ _ _ _ 49 [.ref 47, .int p1, .int p2, .int p3, .int p4, .int p5, .int p6, .int r11] [.int r18] (lay t ex o m17) k _ _
        refine AW.if_eq (pc := 49) (tgt := 80) dX5_gate_49 (by decide) (fun c19 => ?_) (fun c19 => ?_)
        · have hw := hw.1 c19
          refine AW.aload_n (pc := 80) dX5_gate_80 rfl rfl ?_
          refine AW.iconst (v := 2) (pc := 81) dX5_gate_81 (by decide) ?_
          refine AW.callV (pc := 82) (S' := []) dX5_gate_82 (c_M_no (d := d - 1) ht (by omega) hw) ok_X5_no tw_863 ts_32 tw_861 (fix_pos (by decide)) (lay_at ht (by decide)) (show aw_cl[5]? = some _ from rfl) rfl rfl (by omega) rfl (Nat.le_of_ble_eq_true rfl) (by omega) (by omega) ?_ (fun E h' k' hq => by obtain ⟨rfl, r21, m20, hv, -⟩ := hq; cases hv)
          intro v h' k' hq
          obtain ⟨rfl, r21, m20, hv, rfl, hw⟩ := hq
          cases hv
          show AW _ _ _ _ _ _ _ 85 [.ref 47, .int p1, .int p2, .int p3, .int p4, .int p5, .int p6, .int r11] [.int r21] (lay t ex o m20) k _ _
          exact AW.iret (pc := 85) dX5_gate_85 rfl rfl (by omega) (by omega) (hQ _ _ hw)
        · have hw := hw.2 c19
          refine AW.iload (pc := 52) dX5_gate_52 rfl ?_
          refine AW.iconst (v := 1) (pc := 54) dX5_gate_54 (by decide) ?_
          have hw := hw (fun m22 => AW Z mX5_gate d k0 mc ms Q 66 [.ref 47, .int p1, .int p2, .int p3, .int p4, .int p5, .int p6, .int r11] [] (lay t ex o m22) k (cs) (ss)) (by
              intro m22 hw
              refine AW.iload (pc := 66) dX5_gate_66 rfl ?_
              refine AW.iconst (v := 2) (pc := 68) dX5_gate_68 (by decide) ?_
              have hw := hw (fun m30 => AW Z mX5_gate d k0 mc ms Q 86 [.ref 47, .int p1, .int p2, .int p3, .int p4, .int p5, .int p6, .int r11] [] (lay t ex o m30) k (cs) (ss)) (by
                  intro m30 hw
                  refine AW.aload_n (pc := 86) dX5_gate_86 rfl rfl ?_
                  refine LW.get (pc := 87) (f := 1) (ci := 5) (T := TX5) ht (by decide) rfl dX5_gate_87 tw_799 rfl (by decide) rfl ?_
                  refine AW.bipush (v := 30) (pc := 90) dX5_gate_90 (by decide) ?_
                  refine AW.icmp_ne (pc := 92) (tgt := 103) dX5_gate_92 (by decide) (fun c38 => ?_) (fun c38 => ?_)
                  · have hw := hw.1 c38
                    refine AW.aload_n (pc := 103) dX5_gate_103 rfl rfl ?_
                    refine AW.iload_n (pc := 104) dX5_gate_104 rfl rfl ?_
                    refine AW.iload_n (pc := 105) dX5_gate_105 rfl rfl ?_
                    refine AW.iload_n (pc := 106) dX5_gate_106 rfl rfl ?_
                    refine AW.iload (pc := 107) dX5_gate_107 rfl ?_
                    refine AW.iconst (v := 1) (pc := 109) dX5_gate_109 (by decide) ?_
                    have hw := hw (fun v39 m40 => AW Z mX5_gate d k0 mc ms Q 119 [.ref 47, .int p1, .int p2, .int p3, .int p4, .int p5, .int p6, .int r11] [.int v39, .int p3, .int p2, .int p1, .ref 47] (lay t ex o m40) k (cs) (ss)) (by
                        intro v39 m40 hw
                        refine AW.iload (pc := 119) dX5_gate_119 rfl ?_
                        refine AW.iconst (v := 2) (pc := 121) dX5_gate_121 (by decide) ?_
                        refine AW.icmp_le (pc := 122) (tgt := 130) dX5_gate_122 (by decide) (fun c43 => ?_) (fun c43 => ?_)
                        · have hw := hw.1 c43
                          refine AW.iconst (v := -1) (pc := 130) dX5_gate_130 (by decide) ?_
                          refine AW.iload (pc := 131) dX5_gate_131 rfl ?_
                          refine AW.callV (pc := 133) (S' := []) dX5_gate_133 (c_M_add (d := d - 1) ht (by omega) hw) ok_X5_add tw_867 ts_33 tw_865 (fix_pos (by decide)) (lay_at ht (by decide)) (show aw_cl[5]? = some _ from rfl) rfl rfl (by omega) rfl (Nat.le_of_ble_eq_true rfl) (by omega) (by omega) ?_ (fun E h' k' hq => by obtain ⟨rfl, r45, m44, hv, -⟩ := hq; cases hv)
                          intro v h' k' hq
                          obtain ⟨rfl, r45, m44, hv, rfl, hw⟩ := hq
                          cases hv
                          show AW _ _ _ _ _ _ _ 136 [.ref 47, .int p1, .int p2, .int p3, .int p4, .int p5, .int p6, .int r11] [.int r45] (lay t ex o m44) k _ _
                          exact AW.iret (pc := 136) dX5_gate_136 rfl rfl (by omega) (by omega) (hQ _ _ hw)
                        · have hw := hw.2 c43
                          refine AW.iload (pc := 125) dX5_gate_125 rfl ?_
                          refine AW.goto (pc := 127) (tgt := 131) dX5_gate_127 (by decide) ?_
                          refine AW.iload (pc := 131) dX5_gate_131 rfl ?_
                          refine AW.callV (pc := 133) (S' := []) dX5_gate_133 (c_M_add (d := d - 1) ht (by omega) hw) ok_X5_add tw_867 ts_33 tw_865 (fix_pos (by decide)) (lay_at ht (by decide)) (show aw_cl[5]? = some _ from rfl) rfl rfl (by omega) rfl (Nat.le_of_ble_eq_true rfl) (by omega) (by omega) ?_ (fun E h' k' hq => by obtain ⟨rfl, r47, m46, hv, -⟩ := hq; cases hv)
                          intro v h' k' hq
                          obtain ⟨rfl, r47, m46, hv, rfl, hw⟩ := hq
                          cases hv
                          show AW _ _ _ _ _ _ _ 136 [.ref 47, .int p1, .int p2, .int p3, .int p4, .int p5, .int p6, .int r11] [.int r47] (lay t ex o m46) k _ _
                          exact AW.iret (pc := 136) dX5_gate_136 rfl rfl (by omega) (by omega) (hQ _ _ hw))
                    refine AW.icmp_le (pc := 110) (tgt := 118) dX5_gate_110 (by decide) (fun c42 => ?_) (fun c42 => ?_)
                    · have hw := hw.1 c42
                      refine AW.iconst (v := -1) (pc := 118) dX5_gate_118 (by decide) ?_
                      exact hw
                    · have hw := hw.2 c42
                      refine AW.iload (pc := 113) dX5_gate_113 rfl ?_
                      refine AW.goto (pc := 115) (tgt := 119) dX5_gate_115 (by decide) ?_
                      exact hw
                  · have hw := hw.2 c38
                    refine AW.aload_n (pc := 95) dX5_gate_95 rfl rfl ?_
                    refine AW.iconst (v := 3) (pc := 96) dX5_gate_96 (by decide) ?_
                    refine AW.callV (pc := 97) (S' := []) dX5_gate_97 (c_M_no (d := d - 1) ht (by omega) hw) ok_X5_no tw_863 ts_32 tw_861 (fix_pos (by decide)) (lay_at ht (by decide)) (show aw_cl[5]? = some _ from rfl) rfl rfl (by omega) rfl (Nat.le_of_ble_eq_true rfl) (by omega) (by omega) ?_ (fun E h' k' hq => by obtain ⟨rfl, r49, m48, hv, -⟩ := hq; cases hv)
                    intro v h' k' hq
                    obtain ⟨rfl, r49, m48, hv, rfl, hw⟩ := hq
                    cases hv
                    show AW _ _ _ _ _ _ _ 100 [.ref 47, .int p1, .int p2, .int p3, .int p4, .int p5, .int p6, .int r11] [.int r49] (lay t ex o m48) k _ _
                    refine AW.goto (pc := 100) (tgt := 136) dX5_gate_100 (by decide) ?_
                    exact AW.iret (pc := 136) dX5_gate_136 rfl rfl (by omega) (by omega) (hQ _ _ hw))
              refine AW.icmp_le (pc := 69) (tgt := 86) dX5_gate_69 (by decide) (fun c32 => ?_) (fun c32 => ?_)
              · have hw := hw.1 c32
                exact hw
              · have hw := hw.2 c32
                refine AW.iload (pc := 72) dX5_gate_72 rfl ?_
                refine AW.callS (pc := 74) (S' := []) dX5_gate_74 (c_M_isWire (d := d - 1) ht (by omega) hw) ok_X5_isWire tw_856 tw_855 rfl (by omega) rfl (Nat.le_of_ble_eq_true rfl) (by omega) (by omega) ?_ (fun E h' k' hq => by obtain ⟨rfl, r34, m33, hv, -⟩ := hq; cases hv)
                intro v h' k' hq
                obtain ⟨rfl, r34, m33, hv, rfl, hw⟩ := hq
                cases hv
                show AW _ _ _ _ _ _ _ 77 [.ref 47, .int p1, .int p2, .int p3, .int p4, .int p5, .int p6, .int r11] [.int r34] (lay t ex o m33) k _ _
                refine AW.if_ne (pc := 77) (tgt := 86) dX5_gate_77 (by decide) (fun c35 => ?_) (fun c35 => ?_)
                · have hw := hw.1 c35
                  exact hw
                · have hw := hw.2 c35
                  refine AW.aload_n (pc := 80) dX5_gate_80 rfl rfl ?_
                  refine AW.iconst (v := 2) (pc := 81) dX5_gate_81 (by decide) ?_
                  refine AW.callV (pc := 82) (S' := []) dX5_gate_82 (c_M_no (d := d - 1) ht (by omega) hw) ok_X5_no tw_863 ts_32 tw_861 (fix_pos (by decide)) (lay_at ht (by decide)) (show aw_cl[5]? = some _ from rfl) rfl rfl (by omega) rfl (Nat.le_of_ble_eq_true rfl) (by omega) (by omega) ?_ (fun E h' k' hq => by obtain ⟨rfl, r37, m36, hv, -⟩ := hq; cases hv)
                  intro v h' k' hq
                  obtain ⟨rfl, r37, m36, hv, rfl, hw⟩ := hq
                  cases hv
                  show AW _ _ _ _ _ _ _ 85 [.ref 47, .int p1, .int p2, .int p3, .int p4, .int p5, .int p6, .int r11] [.int r37] (lay t ex o m36) k _ _
                  exact AW.iret (pc := 85) dX5_gate_85 rfl rfl (by omega) (by omega) (hQ _ _ hw))
          refine AW.icmp_le (pc := 55) (tgt := 66) dX5_gate_55 (by decide) (fun c24 => ?_) (fun c24 => ?_)
          · have hw := hw.1 c24
            exact hw
          · have hw := hw.2 c24
            refine AW.iload (pc := 58) dX5_gate_58 rfl ?_
            refine AW.callS (pc := 60) (S' := []) dX5_gate_60 (c_M_isWire (d := d - 1) ht (by omega) hw) ok_X5_isWire tw_856 tw_855 rfl (by omega) rfl (Nat.le_of_ble_eq_true rfl) (by omega) (by omega) ?_ (fun E h' k' hq => by obtain ⟨rfl, r26, m25, hv, -⟩ := hq; cases hv)
            intro v h' k' hq
            obtain ⟨rfl, r26, m25, hv, rfl, hw⟩ := hq
            cases hv
            show AW _ _ _ _ _ _ _ 63 [.ref 47, .int p1, .int p2, .int p3, .int p4, .int p5, .int p6, .int r11] [.int r26] (lay t ex o m25) k _ _
            refine AW.if_eq (pc := 63) (tgt := 80) dX5_gate_63 (by decide) (fun c27 => ?_) (fun c27 => ?_)
            · have hw := hw.1 c27
              refine AW.aload_n (pc := 80) dX5_gate_80 rfl rfl ?_
              refine AW.iconst (v := 2) (pc := 81) dX5_gate_81 (by decide) ?_
              refine AW.callV (pc := 82) (S' := []) dX5_gate_82 (c_M_no (d := d - 1) ht (by omega) hw) ok_X5_no tw_863 ts_32 tw_861 (fix_pos (by decide)) (lay_at ht (by decide)) (show aw_cl[5]? = some _ from rfl) rfl rfl (by omega) rfl (Nat.le_of_ble_eq_true rfl) (by omega) (by omega) ?_ (fun E h' k' hq => by obtain ⟨rfl, r29, m28, hv, -⟩ := hq; cases hv)
              intro v h' k' hq
              obtain ⟨rfl, r29, m28, hv, rfl, hw⟩ := hq
              cases hv
              show AW _ _ _ _ _ _ _ 85 [.ref 47, .int p1, .int p2, .int p3, .int p4, .int p5, .int p6, .int r11] [.int r29] (lay t ex o m28) k _ _
              exact AW.iret (pc := 85) dX5_gate_85 rfl rfl (by omega) (by omega) (hQ _ _ hw)
            · have hw := hw.2 c27
              exact hw
    · have hw := hw.2 c9
      refine AW.aload_n (pc := 26) dX5_gate_26 rfl rfl ?_
      refine AW.iconst (v := 1) (pc := 27) dX5_gate_27 (by decide) ?_
      refine AW.callV (pc := 28) (S' := []) dX5_gate_28 (c_M_no (d := d - 1) ht (by omega) hw) ok_X5_no tw_863 ts_32 tw_861 (fix_pos (by decide)) (lay_at ht (by decide)) (show aw_cl[5]? = some _ from rfl) rfl rfl (by omega) rfl (Nat.le_of_ble_eq_true rfl) (by omega) (by omega) ?_ (fun E h' k' hq => by obtain ⟨rfl, r51, m50, hv, -⟩ := hq; cases hv)
      intro v h' k' hq
      obtain ⟨rfl, r51, m50, hv, rfl, hw⟩ := hq
      cases hv
      show AW _ _ _ _ _ _ _ 31 [.ref 47, .int p1, .int p2, .int p3, .int p4, .int p5, .int p6, .null] [.int r51] (lay t ex o m50) k _ _
      exact AW.iret (pc := 31) dX5_gate_31 rfl rfl (by omega) (by omega) (hQ _ _ hw)
set_option maxRecDepth 100000 in
set_option maxHeartbeats 4000000 in
theorem c_M_gate {d k t : Nat} {ex : Hp} {o : Nat → Int64} {K : Int32 → Mem → Prop} {m : Mem} {p1 : Int32} {p2 : Int32} {p3 : Int32} {p4 : Int32} {p5 : Int32} {p6 : Int32} (ht : tok t) (hd : 4 ≤ d) (hw : w_M_gate p1 p2 p3 p4 p5 p6 m K) : AM mX5_gate d [.ref 47, .int p1, .int p2, .int p3, .int p4, .int p5, .int p6] (lay t ex o m) k 0 0 (fun oc h' k' => k = k' ∧ ∃ (r : Int32) (m' : Mem), oc = .inl (some (.int r)) ∧ h' = lay t ex o m' ∧ K r m') :=
  AM.intro (μ := mX5_gate) (n := 1) (by decide) rfl rfl rfl (b_M_gate ht hd (by omega) (by omega) (fun _ _ hK => ⟨rfl, _, _, rfl, rfl, hK⟩) p1 p2 p3 p4 p5 p6 hw)
def w_M_ok (p1 : Int32) (m : Mem) (K : Int32 → Mem → Prop) : Prop :=
  ∀ m1 : Mem, m1 = up2 m 47 0 (0 : Int32) → K p1 m1
set_option maxRecDepth 100000 in
set_option maxHeartbeats 4000000 in
theorem b_M_ok {Z : Gz} {d k0 mc ms cs ss k t : Nat} {Q : Po} {ex : Hp} {o : Nat → Int64} {K : Int32 → Mem → Prop}  (ht : tok t) (hd : 2 ≤ d) (hcs : cs + 0 ≤ mc) (hss : ss + 0 ≤ ms) (hQ : ∀ (r : Int32) (m : Mem), K r m → Q (.inl (some (.int r))) (lay t ex o m) k) {m : Mem} (p1 : Int32) (hw : w_M_ok p1 m K) : AW Z mX5_ok d k0 mc ms Q 0 [.ref 47, .int p1] [] (lay t ex o m) k cs ss := by
  unfold w_M_ok at hw
  refine AW.aload_n (pc := 0) dX5_ok_0 rfl rfl ?_
  refine AW.iconst (v := 0) (pc := 1) dX5_ok_1 (by decide) ?_
  have hw := hw _ rfl
  refine LW.put (pc := 2) (f := 0) (ci := 5) (T := TX5) ht (by decide) rfl sp_47_0 dX5_ok_2 tw_798 rfl (by decide) (Nat.le_of_ble_eq_true rfl) rfl ⟨rfl, rfl⟩ ?_
  generalize up2 m 47 0 (0 : Int32) = m1 at hw ⊢
  refine AW.iload_n (pc := 5) dX5_ok_5 rfl rfl ?_
  exact AW.iret (pc := 6) dX5_ok_6 rfl rfl (by omega) (by omega) (hQ _ _ hw)
set_option maxRecDepth 100000 in
set_option maxHeartbeats 4000000 in
theorem c_M_ok {d k t : Nat} {ex : Hp} {o : Nat → Int64} {K : Int32 → Mem → Prop} {m : Mem} {p1 : Int32} (ht : tok t) (hd : 2 ≤ d) (hw : w_M_ok p1 m K) : AM mX5_ok d [.ref 47, .int p1] (lay t ex o m) k 0 0 (fun oc h' k' => k = k' ∧ ∃ (r : Int32) (m' : Mem), oc = .inl (some (.int r)) ∧ h' = lay t ex o m' ∧ K r m') :=
  AM.intro (μ := mX5_ok) (n := 0) (by decide) rfl rfl rfl (b_M_ok ht hd (by omega) (by omega) (fun _ _ hK => ⟨rfl, _, _, rfl, rfl, hK⟩) p1 hw)
def w_M_hazards (m : Mem) (K : Int32 → Mem → Prop) : Prop :=
  w_M_ok (m 60 5) m (fun r2 m1 => K r2 m1)
set_option maxRecDepth 100000 in
set_option maxHeartbeats 4000000 in
theorem b_M_hazards {Z : Gz} {d k0 mc ms cs ss k t : Nat} {Q : Po} {ex : Hp} {o : Nat → Int64} {K : Int32 → Mem → Prop}  (ht : tok t) (hd : 3 ≤ d) (hcs : cs + 0 ≤ mc) (hss : ss + 0 ≤ ms) (hQ : ∀ (r : Int32) (m : Mem), K r m → Q (.inl (some (.int r))) (lay t ex o m) k) {m : Mem}  (hw : w_M_hazards  m K) : AW Z mX5_hazards d k0 mc ms Q 0 [.ref 47] [] (lay t ex o m) k cs ss := by
  unfold w_M_hazards at hw
  refine AW.aload_n (pc := 0) dX5_hazards_0 rfl rfl ?_
  refine AW.aload_n (pc := 1) dX5_hazards_1 rfl rfl ?_
  refine LW.get (pc := 2) (f := 10) (ci := 5) (T := TX5) ht (by decide) rfl dX5_hazards_2 tw_808 rfl (by decide) rfl ?_
  refine AW.iconst (v := 5) (pc := 5) dX5_hazards_5 (by decide) ?_
  refine LW.ialdt (pc := 6) (j := 5) ht dX5_hazards_6 (vp_lit (by decide)) (by decide) ?_
  refine AW.callV (pc := 7) (S' := []) dX5_hazards_7 (c_M_ok (d := d - 1) ht (by omega) hw) ok_X5_ok tw_898 ts_35 tw_896 (fix_pos (by decide)) (lay_at ht (by decide)) (show aw_cl[5]? = some _ from rfl) rfl rfl (by omega) rfl (Nat.le_of_ble_eq_true rfl) (by omega) (by omega) ?_ (fun E h' k' hq => by obtain ⟨rfl, r2, m1, hv, -⟩ := hq; cases hv)
  intro v h' k' hq
  obtain ⟨rfl, r2, m1, hv, rfl, hw⟩ := hq
  cases hv
  show AW _ _ _ _ _ _ _ 10 [.ref 47] [.int r2] (lay t ex o m1) k _ _
  exact AW.iret (pc := 10) dX5_hazards_10 rfl rfl (by omega) (by omega) (hQ _ _ hw)
set_option maxRecDepth 100000 in
set_option maxHeartbeats 4000000 in
theorem c_M_hazards {d k t : Nat} {ex : Hp} {o : Nat → Int64} {K : Int32 → Mem → Prop} {m : Mem}  (ht : tok t) (hd : 3 ≤ d) (hw : w_M_hazards  m K) : AM mX5_hazards d [.ref 47] (lay t ex o m) k 0 0 (fun oc h' k' => k = k' ∧ ∃ (r : Int32) (m' : Mem), oc = .inl (some (.int r)) ∧ h' = lay t ex o m' ∧ K r m') :=
  AM.intro (μ := mX5_hazards) (n := 0) (by decide) rfl rfl rfl (b_M_hazards ht hd (by omega) (by omega) (fun _ _ hK => ⟨rfl, _, _, rfl, rfl, hK⟩)  hw)
def w_M_input (p1 : Int32) (m : Mem) (K : Int32 → Mem → Prop) : Prop :=
  ∀ m1 : Mem, m1 = up2 m 47 0 (0 : Int32) → w_M_isWire p1 m1 (fun r3 m2 => ((¬ (r3 = 0) → ((¬ ((m2 47 1) = (30 : Int32)) → w_M_add (-1 : Int32) p1 (-1 : Int32) (-1 : Int32) (-1 : Int32) (0 : Int32) m2 (fun r7 m6 => K r7 m6)) ∧ ((m2 47 1) = (30 : Int32) → w_M_no (2 : Int32) m2 (fun r9 m8 => K r9 m8)))) ∧ (r3 = 0 → w_M_no (1 : Int32) m2 (fun r11 m10 => K r11 m10))))
set_option maxRecDepth 100000 in
set_option maxHeartbeats 4000000 in
theorem b_M_input {Z : Gz} {d k0 mc ms cs ss k t : Nat} {Q : Po} {ex : Hp} {o : Nat → Int64} {K : Int32 → Mem → Prop}  (ht : tok t) (hd : 4 ≤ d) (hcs : cs + 0 ≤ mc) (hss : ss + 0 ≤ ms) (hQ : ∀ (r : Int32) (m : Mem), K r m → Q (.inl (some (.int r))) (lay t ex o m) k) {m : Mem} (p1 : Int32) (hw : w_M_input p1 m K) : AW Z mX5_input d k0 mc ms Q 0 [.ref 47, .int p1] [] (lay t ex o m) k cs ss := by
  unfold w_M_input at hw
  refine AW.aload_n (pc := 0) dX5_input_0 rfl rfl ?_
  refine AW.iconst (v := 0) (pc := 1) dX5_input_1 (by decide) ?_
  have hw := hw _ rfl
  refine LW.put (pc := 2) (f := 0) (ci := 5) (T := TX5) ht (by decide) rfl sp_47_0 dX5_input_2 tw_798 rfl (by decide) (Nat.le_of_ble_eq_true rfl) rfl ⟨rfl, rfl⟩ ?_
  generalize up2 m 47 0 (0 : Int32) = m1 at hw ⊢
  refine AW.iload_n (pc := 5) dX5_input_5 rfl rfl ?_
  refine AW.callS (pc := 6) (S' := []) dX5_input_6 (c_M_isWire (d := d - 1) ht (by omega) hw) ok_X5_isWire tw_856 tw_855 rfl (by omega) rfl (Nat.le_of_ble_eq_true rfl) (by omega) (by omega) ?_ (fun E h' k' hq => by obtain ⟨rfl, r3, m2, hv, -⟩ := hq; cases hv)
  intro v h' k' hq
  obtain ⟨rfl, r3, m2, hv, rfl, hw⟩ := hq
  cases hv
  show AW _ _ _ _ _ _ _ 9 [.ref 47, .int p1] [.int r3] (lay t ex o m2) k _ _
  refine AW.if_ne (pc := 9) (tgt := 18) dX5_input_9 (by decide) (fun c4 => ?_) (fun c4 => ?_)
  · have hw := hw.1 c4
    refine AW.aload_n (pc := 18) dX5_input_18 rfl rfl ?_
    refine LW.get (pc := 19) (f := 1) (ci := 5) (T := TX5) ht (by decide) rfl dX5_input_19 tw_799 rfl (by decide) rfl ?_
    refine AW.bipush (v := 30) (pc := 22) dX5_input_22 (by decide) ?_
    refine AW.icmp_ne (pc := 24) (tgt := 35) dX5_input_24 (by decide) (fun c5 => ?_) (fun c5 => ?_)
    · have hw := hw.1 c5
      refine AW.aload_n (pc := 35) dX5_input_35 rfl rfl ?_
      refine AW.iconst (v := -1) (pc := 36) dX5_input_36 (by decide) ?_
      refine AW.iload_n (pc := 37) dX5_input_37 rfl rfl ?_
      refine AW.iconst (v := -1) (pc := 38) dX5_input_38 (by decide) ?_
      refine AW.iconst (v := -1) (pc := 39) dX5_input_39 (by decide) ?_
      refine AW.iconst (v := -1) (pc := 40) dX5_input_40 (by decide) ?_
      refine AW.iconst (v := 0) (pc := 41) dX5_input_41 (by decide) ?_
      refine AW.callV (pc := 42) (S' := []) dX5_input_42 (c_M_add (d := d - 1) ht (by omega) hw) ok_X5_add tw_867 ts_33 tw_865 (fix_pos (by decide)) (lay_at ht (by decide)) (show aw_cl[5]? = some _ from rfl) rfl rfl (by omega) rfl (Nat.le_of_ble_eq_true rfl) (by omega) (by omega) ?_ (fun E h' k' hq => by obtain ⟨rfl, r7, m6, hv, -⟩ := hq; cases hv)
      intro v h' k' hq
      obtain ⟨rfl, r7, m6, hv, rfl, hw⟩ := hq
      cases hv
      show AW _ _ _ _ _ _ _ 45 [.ref 47, .int p1] [.int r7] (lay t ex o m6) k _ _
      exact AW.iret (pc := 45) dX5_input_45 rfl rfl (by omega) (by omega) (hQ _ _ hw)
    · have hw := hw.2 c5
      refine AW.aload_n (pc := 27) dX5_input_27 rfl rfl ?_
      refine AW.iconst (v := 2) (pc := 28) dX5_input_28 (by decide) ?_
      refine AW.callV (pc := 29) (S' := []) dX5_input_29 (c_M_no (d := d - 1) ht (by omega) hw) ok_X5_no tw_863 ts_32 tw_861 (fix_pos (by decide)) (lay_at ht (by decide)) (show aw_cl[5]? = some _ from rfl) rfl rfl (by omega) rfl (Nat.le_of_ble_eq_true rfl) (by omega) (by omega) ?_ (fun E h' k' hq => by obtain ⟨rfl, r9, m8, hv, -⟩ := hq; cases hv)
      intro v h' k' hq
      obtain ⟨rfl, r9, m8, hv, rfl, hw⟩ := hq
      cases hv
      show AW _ _ _ _ _ _ _ 32 [.ref 47, .int p1] [.int r9] (lay t ex o m8) k _ _
      refine AW.goto (pc := 32) (tgt := 45) dX5_input_32 (by decide) ?_
      exact AW.iret (pc := 45) dX5_input_45 rfl rfl (by omega) (by omega) (hQ _ _ hw)
  · have hw := hw.2 c4
    refine AW.aload_n (pc := 12) dX5_input_12 rfl rfl ?_
    refine AW.iconst (v := 1) (pc := 13) dX5_input_13 (by decide) ?_
    refine AW.callV (pc := 14) (S' := []) dX5_input_14 (c_M_no (d := d - 1) ht (by omega) hw) ok_X5_no tw_863 ts_32 tw_861 (fix_pos (by decide)) (lay_at ht (by decide)) (show aw_cl[5]? = some _ from rfl) rfl rfl (by omega) rfl (Nat.le_of_ble_eq_true rfl) (by omega) (by omega) ?_ (fun E h' k' hq => by obtain ⟨rfl, r11, m10, hv, -⟩ := hq; cases hv)
    intro v h' k' hq
    obtain ⟨rfl, r11, m10, hv, rfl, hw⟩ := hq
    cases hv
    show AW _ _ _ _ _ _ _ 17 [.ref 47, .int p1] [.int r11] (lay t ex o m10) k _ _
    exact AW.iret (pc := 17) dX5_input_17 rfl rfl (by omega) (by omega) (hQ _ _ hw)
set_option maxRecDepth 100000 in
set_option maxHeartbeats 4000000 in
theorem c_M_input {d k t : Nat} {ex : Hp} {o : Nat → Int64} {K : Int32 → Mem → Prop} {m : Mem} {p1 : Int32} (ht : tok t) (hd : 4 ≤ d) (hw : w_M_input p1 m K) : AM mX5_input d [.ref 47, .int p1] (lay t ex o m) k 0 0 (fun oc h' k' => k = k' ∧ ∃ (r : Int32) (m' : Mem), oc = .inl (some (.int r)) ∧ h' = lay t ex o m' ∧ K r m') :=
  AM.intro (μ := mX5_input) (n := 0) (by decide) rfl rfl rfl (b_M_input ht hd (by omega) (by omega) (fun _ _ hK => ⟨rfl, _, _, rfl, rfl, hK⟩) p1 hw)
def w_M_isLine (p1 : Int32) (m : Mem) (K : Int32 → Mem → Prop) : Prop :=
  w_M_isIn p1 (0 : Int32) ((m 47 1) - (1 : Int32)) m (fun r2 m1 => narrow .boolean (.int r2) = .int r2 ∧ K r2 m1)
set_option maxRecDepth 100000 in
set_option maxHeartbeats 4000000 in
theorem b_M_isLine {Z : Gz} {d k0 mc ms cs ss k t : Nat} {Q : Po} {ex : Hp} {o : Nat → Int64} {K : Int32 → Mem → Prop}  (ht : tok t) (hd : 3 ≤ d) (hcs : cs + 0 ≤ mc) (hss : ss + 0 ≤ ms) (hQ : ∀ (r : Int32) (m : Mem), K r m → Q (.inl (some (.int r))) (lay t ex o m) k) {m : Mem} (p1 : Int32) (hw : w_M_isLine p1 m K) : AW Z mX5_isLine d k0 mc ms Q 0 [.ref 47, .int p1] [] (lay t ex o m) k cs ss := by
  unfold w_M_isLine at hw
  refine AW.iload_n (pc := 0) dX5_isLine_0 rfl rfl ?_
  refine AW.iconst (v := 0) (pc := 1) dX5_isLine_1 (by decide) ?_
  refine AW.aload_n (pc := 2) dX5_isLine_2 rfl rfl ?_
  refine LW.get (pc := 3) (f := 1) (ci := 5) (T := TX5) ht (by decide) rfl dX5_isLine_3 tw_799 rfl (by decide) rfl ?_
  refine AW.iconst (v := 1) (pc := 6) dX5_isLine_6 (by decide) ?_
  refine AW.isub (pc := 7) dX5_isLine_7 ?_
  refine AW.callS (pc := 8) (S' := []) dX5_isLine_8 (c_M_isIn (d := d - 1) ht (by omega) hw) ok_X5_isIn tw_859 tw_858 rfl (by omega) rfl (Nat.le_of_ble_eq_true rfl) (by omega) (by omega) ?_ (fun E h' k' hq => by obtain ⟨rfl, r2, m1, hv, -⟩ := hq; cases hv)
  intro v h' k' hq
  obtain ⟨rfl, r2, m1, hv, rfl, hw⟩ := hq
  cases hv
  show AW _ _ _ _ _ _ _ 11 [.ref 47, .int p1] [.int r2] (lay t ex o m1) k _ _
  obtain ⟨hin, hw⟩ := hw
  exact AW.iret (pc := 11) dX5_isLine_11 rfl hin (by omega) (by omega) (hQ _ _ hw)
set_option maxRecDepth 100000 in
set_option maxHeartbeats 4000000 in
theorem c_M_isLine {d k t : Nat} {ex : Hp} {o : Nat → Int64} {K : Int32 → Mem → Prop} {m : Mem} {p1 : Int32} (ht : tok t) (hd : 3 ≤ d) (hw : w_M_isLine p1 m K) : AM mX5_isLine d [.ref 47, .int p1] (lay t ex o m) k 0 0 (fun oc h' k' => k = k' ∧ ∃ (r : Int32) (m' : Mem), oc = .inl (some (.int r)) ∧ h' = lay t ex o m' ∧ K r m') :=
  AM.intro (μ := mX5_isLine) (n := 0) (by decide) rfl rfl rfl (b_M_isLine ht hd (by omega) (by omega) (fun _ _ hK => ⟨rfl, _, _, rfl, rfl, hK⟩) p1 hw)
def w_M_isRunning (m : Mem) (K : Int32 → Mem → Prop) : Prop :=
  ∀ m1 : Mem, m1 = up2 m 47 0 (0 : Int32) → narrow .boolean (.int (m1 47 11)) = .int (m1 47 11) ∧ K (m1 47 11) m1
set_option maxRecDepth 100000 in
set_option maxHeartbeats 4000000 in
theorem b_M_isRunning {Z : Gz} {d k0 mc ms cs ss k t : Nat} {Q : Po} {ex : Hp} {o : Nat → Int64} {K : Int32 → Mem → Prop}  (ht : tok t) (hd : 2 ≤ d) (hcs : cs + 0 ≤ mc) (hss : ss + 0 ≤ ms) (hQ : ∀ (r : Int32) (m : Mem), K r m → Q (.inl (some (.int r))) (lay t ex o m) k) {m : Mem}  (hw : w_M_isRunning  m K) : AW Z mX5_isRunning d k0 mc ms Q 0 [.ref 47] [] (lay t ex o m) k cs ss := by
  unfold w_M_isRunning at hw
  refine AW.aload_n (pc := 0) dX5_isRunning_0 rfl rfl ?_
  refine AW.iconst (v := 0) (pc := 1) dX5_isRunning_1 (by decide) ?_
  have hw := hw _ rfl
  refine LW.put (pc := 2) (f := 0) (ci := 5) (T := TX5) ht (by decide) rfl sp_47_0 dX5_isRunning_2 tw_798 rfl (by decide) (Nat.le_of_ble_eq_true rfl) rfl ⟨rfl, rfl⟩ ?_
  generalize up2 m 47 0 (0 : Int32) = m1 at hw ⊢
  refine AW.aload_n (pc := 5) dX5_isRunning_5 rfl rfl ?_
  refine LW.get (pc := 6) (f := 11) (ci := 5) (T := TX5) ht (by decide) rfl dX5_isRunning_6 tw_809 rfl (by decide) rfl ?_
  obtain ⟨hin, hw⟩ := hw
  exact AW.iret (pc := 9) dX5_isRunning_9 rfl hin (by omega) (by omega) (hQ _ _ hw)
set_option maxRecDepth 100000 in
set_option maxHeartbeats 4000000 in
theorem c_M_isRunning {d k t : Nat} {ex : Hp} {o : Nat → Int64} {K : Int32 → Mem → Prop} {m : Mem}  (ht : tok t) (hd : 2 ≤ d) (hw : w_M_isRunning  m K) : AM mX5_isRunning d [.ref 47] (lay t ex o m) k 0 0 (fun oc h' k' => k = k' ∧ ∃ (r : Int32) (m' : Mem), oc = .inl (some (.int r)) ∧ h' = lay t ex o m' ∧ K r m') :=
  AM.intro (μ := mX5_isRunning) (n := 0) (by decide) rfl rfl rfl (b_M_isRunning ht hd (by omega) (by omega) (fun _ _ hK => ⟨rfl, _, _, rfl, rfl, hK⟩)  hw)
def w_M_lines (m : Mem) (K : Int32 → Mem → Prop) : Prop :=
  w_M_ok (m 47 1) m (fun r2 m1 => K r2 m1)
set_option maxRecDepth 100000 in
set_option maxHeartbeats 4000000 in
theorem b_M_lines {Z : Gz} {d k0 mc ms cs ss k t : Nat} {Q : Po} {ex : Hp} {o : Nat → Int64} {K : Int32 → Mem → Prop}  (ht : tok t) (hd : 3 ≤ d) (hcs : cs + 0 ≤ mc) (hss : ss + 0 ≤ ms) (hQ : ∀ (r : Int32) (m : Mem), K r m → Q (.inl (some (.int r))) (lay t ex o m) k) {m : Mem}  (hw : w_M_lines  m K) : AW Z mX5_lines d k0 mc ms Q 0 [.ref 47] [] (lay t ex o m) k cs ss := by
  unfold w_M_lines at hw
  refine AW.aload_n (pc := 0) dX5_lines_0 rfl rfl ?_
  refine AW.aload_n (pc := 1) dX5_lines_1 rfl rfl ?_
  refine LW.get (pc := 2) (f := 1) (ci := 5) (T := TX5) ht (by decide) rfl dX5_lines_2 tw_799 rfl (by decide) rfl ?_
  refine AW.callV (pc := 5) (S' := []) dX5_lines_5 (c_M_ok (d := d - 1) ht (by omega) hw) ok_X5_ok tw_898 ts_35 tw_896 (fix_pos (by decide)) (lay_at ht (by decide)) (show aw_cl[5]? = some _ from rfl) rfl rfl (by omega) rfl (Nat.le_of_ble_eq_true rfl) (by omega) (by omega) ?_ (fun E h' k' hq => by obtain ⟨rfl, r2, m1, hv, -⟩ := hq; cases hv)
  intro v h' k' hq
  obtain ⟨rfl, r2, m1, hv, rfl, hw⟩ := hq
  cases hv
  show AW _ _ _ _ _ _ _ 8 [.ref 47] [.int r2] (lay t ex o m1) k _ _
  exact AW.iret (pc := 8) dX5_lines_8 rfl rfl (by omega) (by omega) (hQ _ _ hw)
set_option maxRecDepth 100000 in
set_option maxHeartbeats 4000000 in
theorem c_M_lines {d k t : Nat} {ex : Hp} {o : Nat → Int64} {K : Int32 → Mem → Prop} {m : Mem}  (ht : tok t) (hd : 3 ≤ d) (hw : w_M_lines  m K) : AM mX5_lines d [.ref 47] (lay t ex o m) k 0 0 (fun oc h' k' => k = k' ∧ ∃ (r : Int32) (m' : Mem), oc = .inl (some (.int r)) ∧ h' = lay t ex o m' ∧ K r m') :=
  AM.intro (μ := mX5_lines) (n := 0) (by decide) rfl rfl rfl (b_M_lines ht hd (by omega) (by omega) (fun _ _ hK => ⟨rfl, _, _, rfl, rfl, hK⟩)  hw)
def w_M_ofHazard (p1 : Int32) (p2 : Int32) (m : Mem) (K : Int32 → Mem → Prop) : Prop :=
  ∀ m1 : Mem, m1 = up2 m 47 0 (0 : Int32) → w_M_isIn p1 (0 : Int32) ((m1 60 5) - (1 : Int32)) m1 (fun r3 m2 => ((¬ (r3 = 0) → w_M_isIn p2 (0 : Int32) (2 : Int32) m2 (fun r6 m5 => ((r6 = 0 → w_M_no (2 : Int32) m5 (fun r9 m8 => K r9 m8)) ∧ (¬ (r6 = 0) → vp_in (((222 : Int32) + ((3 : Int32) * p1)) + p2) 342 ∧ K (m5 60 (((222 : Int32) + ((3 : Int32) * p1)) + p2).toNatClampNeg) m5)))) ∧ (r3 = 0 → w_M_no (1 : Int32) m2 (fun r11 m10 => K r11 m10))))
set_option maxRecDepth 100000 in
set_option maxHeartbeats 4000000 in
theorem b_M_ofHazard {Z : Gz} {d k0 mc ms cs ss k t : Nat} {Q : Po} {ex : Hp} {o : Nat → Int64} {K : Int32 → Mem → Prop}  (ht : tok t) (hd : 3 ≤ d) (hcs : cs + 0 ≤ mc) (hss : ss + 0 ≤ ms) (hQ : ∀ (r : Int32) (m : Mem), K r m → Q (.inl (some (.int r))) (lay t ex o m) k) {m : Mem} (p1 : Int32) (p2 : Int32) (hw : w_M_ofHazard p1 p2 m K) : AW Z mX5_ofHazard d k0 mc ms Q 0 [.ref 47, .int p1, .int p2] [] (lay t ex o m) k cs ss := by
  unfold w_M_ofHazard at hw
  refine AW.aload_n (pc := 0) dX5_ofHazard_0 rfl rfl ?_
  refine AW.iconst (v := 0) (pc := 1) dX5_ofHazard_1 (by decide) ?_
  have hw := hw _ rfl
  refine LW.put (pc := 2) (f := 0) (ci := 5) (T := TX5) ht (by decide) rfl sp_47_0 dX5_ofHazard_2 tw_798 rfl (by decide) (Nat.le_of_ble_eq_true rfl) rfl ⟨rfl, rfl⟩ ?_
  generalize up2 m 47 0 (0 : Int32) = m1 at hw ⊢
  refine AW.iload_n (pc := 5) dX5_ofHazard_5 rfl rfl ?_
  refine AW.iconst (v := 0) (pc := 6) dX5_ofHazard_6 (by decide) ?_
  refine AW.aload_n (pc := 7) dX5_ofHazard_7 rfl rfl ?_
  refine LW.get (pc := 8) (f := 10) (ci := 5) (T := TX5) ht (by decide) rfl dX5_ofHazard_8 tw_808 rfl (by decide) rfl ?_
  refine AW.iconst (v := 5) (pc := 11) dX5_ofHazard_11 (by decide) ?_
  refine LW.ialdt (pc := 12) (j := 5) ht dX5_ofHazard_12 (vp_lit (by decide)) (by decide) ?_
  refine AW.iconst (v := 1) (pc := 13) dX5_ofHazard_13 (by decide) ?_
  refine AW.isub (pc := 14) dX5_ofHazard_14 ?_
  refine AW.callS (pc := 15) (S' := []) dX5_ofHazard_15 (c_M_isIn (d := d - 1) ht (by omega) hw) ok_X5_isIn tw_859 tw_858 rfl (by omega) rfl (Nat.le_of_ble_eq_true rfl) (by omega) (by omega) ?_ (fun E h' k' hq => by obtain ⟨rfl, r3, m2, hv, -⟩ := hq; cases hv)
  intro v h' k' hq
  obtain ⟨rfl, r3, m2, hv, rfl, hw⟩ := hq
  cases hv
  show AW _ _ _ _ _ _ _ 18 [.ref 47, .int p1, .int p2] [.int r3] (lay t ex o m2) k _ _
  refine AW.if_ne (pc := 18) (tgt := 27) dX5_ofHazard_18 (by decide) (fun c4 => ?_) (fun c4 => ?_)
  · have hw := hw.1 c4
    refine AW.iload_n (pc := 27) dX5_ofHazard_27 rfl rfl ?_
    refine AW.iconst (v := 0) (pc := 28) dX5_ofHazard_28 (by decide) ?_
    refine AW.iconst (v := 2) (pc := 29) dX5_ofHazard_29 (by decide) ?_
    refine AW.callS (pc := 30) (S' := []) dX5_ofHazard_30 (c_M_isIn (d := d - 1) ht (by omega) hw) ok_X5_isIn tw_859 tw_858 rfl (by omega) rfl (Nat.le_of_ble_eq_true rfl) (by omega) (by omega) ?_ (fun E h' k' hq => by obtain ⟨rfl, r6, m5, hv, -⟩ := hq; cases hv)
    intro v h' k' hq
    obtain ⟨rfl, r6, m5, hv, rfl, hw⟩ := hq
    cases hv
    show AW _ _ _ _ _ _ _ 33 [.ref 47, .int p1, .int p2] [.int r6] (lay t ex o m5) k _ _
    refine AW.if_eq (pc := 33) (tgt := 53) dX5_ofHazard_33 (by decide) (fun c7 => ?_) (fun c7 => ?_)
    · have hw := hw.1 c7
      refine AW.aload_n (pc := 53) dX5_ofHazard_53 rfl rfl ?_
      refine AW.iconst (v := 2) (pc := 54) dX5_ofHazard_54 (by decide) ?_
      refine AW.callV (pc := 55) (S' := []) dX5_ofHazard_55 (c_M_no (d := d - 1) ht (by omega) hw) ok_X5_no tw_863 ts_32 tw_861 (fix_pos (by decide)) (lay_at ht (by decide)) (show aw_cl[5]? = some _ from rfl) rfl rfl (by omega) rfl (Nat.le_of_ble_eq_true rfl) (by omega) (by omega) ?_ (fun E h' k' hq => by obtain ⟨rfl, r9, m8, hv, -⟩ := hq; cases hv)
      intro v h' k' hq
      obtain ⟨rfl, r9, m8, hv, rfl, hw⟩ := hq
      cases hv
      show AW _ _ _ _ _ _ _ 58 [.ref 47, .int p1, .int p2] [.int r9] (lay t ex o m8) k _ _
      exact AW.iret (pc := 58) dX5_ofHazard_58 rfl rfl (by omega) (by omega) (hQ _ _ hw)
    · have hw := hw.2 c7
      refine AW.aload_n (pc := 36) dX5_ofHazard_36 rfl rfl ?_
      refine LW.get (pc := 37) (f := 10) (ci := 5) (T := TX5) ht (by decide) rfl dX5_ofHazard_37 tw_808 rfl (by decide) rfl ?_
      refine AW.sipush (v := 222) (pc := 40) dX5_ofHazard_40 (by decide) ?_
      refine AW.iconst (v := 3) (pc := 43) dX5_ofHazard_43 (by decide) ?_
      refine AW.iload_n (pc := 44) dX5_ofHazard_44 rfl rfl ?_
      refine AW.imul (pc := 45) dX5_ofHazard_45 ?_
      refine AW.iadd (pc := 46) dX5_ofHazard_46 ?_
      refine AW.iload_n (pc := 47) dX5_ofHazard_47 rfl rfl ?_
      refine AW.iadd (pc := 48) dX5_ofHazard_48 ?_
      obtain ⟨hin, hw⟩ := hw
      refine LW.ialdt (pc := 49) (j := (((222 : Int32) + ((3 : Int32) * p1)) + p2).toNatClampNeg) ht dX5_ofHazard_49 hin rfl ?_
      refine AW.goto (pc := 50) (tgt := 58) dX5_ofHazard_50 (by decide) ?_
      exact AW.iret (pc := 58) dX5_ofHazard_58 rfl rfl (by omega) (by omega) (hQ _ _ hw)
  · have hw := hw.2 c4
    refine AW.aload_n (pc := 21) dX5_ofHazard_21 rfl rfl ?_
    refine AW.iconst (v := 1) (pc := 22) dX5_ofHazard_22 (by decide) ?_
    refine AW.callV (pc := 23) (S' := []) dX5_ofHazard_23 (c_M_no (d := d - 1) ht (by omega) hw) ok_X5_no tw_863 ts_32 tw_861 (fix_pos (by decide)) (lay_at ht (by decide)) (show aw_cl[5]? = some _ from rfl) rfl rfl (by omega) rfl (Nat.le_of_ble_eq_true rfl) (by omega) (by omega) ?_ (fun E h' k' hq => by obtain ⟨rfl, r11, m10, hv, -⟩ := hq; cases hv)
    intro v h' k' hq
    obtain ⟨rfl, r11, m10, hv, rfl, hw⟩ := hq
    cases hv
    show AW _ _ _ _ _ _ _ 26 [.ref 47, .int p1, .int p2] [.int r11] (lay t ex o m10) k _ _
    exact AW.iret (pc := 26) dX5_ofHazard_26 rfl rfl (by omega) (by omega) (hQ _ _ hw)
set_option maxRecDepth 100000 in
set_option maxHeartbeats 4000000 in
theorem c_M_ofHazard {d k t : Nat} {ex : Hp} {o : Nat → Int64} {K : Int32 → Mem → Prop} {m : Mem} {p1 : Int32} {p2 : Int32} (ht : tok t) (hd : 3 ≤ d) (hw : w_M_ofHazard p1 p2 m K) : AM mX5_ofHazard d [.ref 47, .int p1, .int p2] (lay t ex o m) k 0 0 (fun oc h' k' => k = k' ∧ ∃ (r : Int32) (m' : Mem), oc = .inl (some (.int r)) ∧ h' = lay t ex o m' ∧ K r m') :=
  AM.intro (μ := mX5_ofHazard) (n := 0) (by decide) rfl rfl rfl (b_M_ofHazard ht hd (by omega) (by omega) (fun _ _ hK => ⟨rfl, _, _, rfl, rfl, hK⟩) p1 p2 hw)
def w_M_ofWire (p1 : Int32) (p2 : Int32) (m : Mem) (K : Int32 → Mem → Prop) : Prop :=
  ∀ m1 : Mem, m1 = up2 m 47 0 (0 : Int32) → w_M_isWire p1 m1 (fun r3 m2 => ((¬ (r3 = 0) → w_M_isIn p2 (0 : Int32) (3 : Int32) m2 (fun r6 m5 => ((r6 = 0 → w_M_no (2 : Int32) m5 (fun r9 m8 => K r9 m8)) ∧ (¬ (r6 = 0) → vp_in (((6 : Int32) + (p2 * (24 : Int32))) + p1) 342 ∧ K (m5 60 (((6 : Int32) + (p2 * (24 : Int32))) + p1).toNatClampNeg) m5)))) ∧ (r3 = 0 → w_M_no (1 : Int32) m2 (fun r11 m10 => K r11 m10))))
set_option maxRecDepth 100000 in
set_option maxHeartbeats 4000000 in
theorem b_M_ofWire {Z : Gz} {d k0 mc ms cs ss k t : Nat} {Q : Po} {ex : Hp} {o : Nat → Int64} {K : Int32 → Mem → Prop}  (ht : tok t) (hd : 4 ≤ d) (hcs : cs + 0 ≤ mc) (hss : ss + 0 ≤ ms) (hQ : ∀ (r : Int32) (m : Mem), K r m → Q (.inl (some (.int r))) (lay t ex o m) k) {m : Mem} (p1 : Int32) (p2 : Int32) (hw : w_M_ofWire p1 p2 m K) : AW Z mX5_ofWire d k0 mc ms Q 0 [.ref 47, .int p1, .int p2] [] (lay t ex o m) k cs ss := by
  unfold w_M_ofWire at hw
  refine AW.aload_n (pc := 0) dX5_ofWire_0 rfl rfl ?_
  refine AW.iconst (v := 0) (pc := 1) dX5_ofWire_1 (by decide) ?_
  have hw := hw _ rfl
  refine LW.put (pc := 2) (f := 0) (ci := 5) (T := TX5) ht (by decide) rfl sp_47_0 dX5_ofWire_2 tw_798 rfl (by decide) (Nat.le_of_ble_eq_true rfl) rfl ⟨rfl, rfl⟩ ?_
  generalize up2 m 47 0 (0 : Int32) = m1 at hw ⊢
  refine AW.iload_n (pc := 5) dX5_ofWire_5 rfl rfl ?_
  refine AW.callS (pc := 6) (S' := []) dX5_ofWire_6 (c_M_isWire (d := d - 1) ht (by omega) hw) ok_X5_isWire tw_856 tw_855 rfl (by omega) rfl (Nat.le_of_ble_eq_true rfl) (by omega) (by omega) ?_ (fun E h' k' hq => by obtain ⟨rfl, r3, m2, hv, -⟩ := hq; cases hv)
  intro v h' k' hq
  obtain ⟨rfl, r3, m2, hv, rfl, hw⟩ := hq
  cases hv
  show AW _ _ _ _ _ _ _ 9 [.ref 47, .int p1, .int p2] [.int r3] (lay t ex o m2) k _ _
  refine AW.if_ne (pc := 9) (tgt := 18) dX5_ofWire_9 (by decide) (fun c4 => ?_) (fun c4 => ?_)
  · have hw := hw.1 c4
    refine AW.iload_n (pc := 18) dX5_ofWire_18 rfl rfl ?_
    refine AW.iconst (v := 0) (pc := 19) dX5_ofWire_19 (by decide) ?_
    refine AW.iconst (v := 3) (pc := 20) dX5_ofWire_20 (by decide) ?_
    refine AW.callS (pc := 21) (S' := []) dX5_ofWire_21 (c_M_isIn (d := d - 1) ht (by omega) hw) ok_X5_isIn tw_859 tw_858 rfl (by omega) rfl (Nat.le_of_ble_eq_true rfl) (by omega) (by omega) ?_ (fun E h' k' hq => by obtain ⟨rfl, r6, m5, hv, -⟩ := hq; cases hv)
    intro v h' k' hq
    obtain ⟨rfl, r6, m5, hv, rfl, hw⟩ := hq
    cases hv
    show AW _ _ _ _ _ _ _ 24 [.ref 47, .int p1, .int p2] [.int r6] (lay t ex o m5) k _ _
    refine AW.if_eq (pc := 24) (tgt := 44) dX5_ofWire_24 (by decide) (fun c7 => ?_) (fun c7 => ?_)
    · have hw := hw.1 c7
      refine AW.aload_n (pc := 44) dX5_ofWire_44 rfl rfl ?_
      refine AW.iconst (v := 2) (pc := 45) dX5_ofWire_45 (by decide) ?_
      refine AW.callV (pc := 46) (S' := []) dX5_ofWire_46 (c_M_no (d := d - 1) ht (by omega) hw) ok_X5_no tw_863 ts_32 tw_861 (fix_pos (by decide)) (lay_at ht (by decide)) (show aw_cl[5]? = some _ from rfl) rfl rfl (by omega) rfl (Nat.le_of_ble_eq_true rfl) (by omega) (by omega) ?_ (fun E h' k' hq => by obtain ⟨rfl, r9, m8, hv, -⟩ := hq; cases hv)
      intro v h' k' hq
      obtain ⟨rfl, r9, m8, hv, rfl, hw⟩ := hq
      cases hv
      show AW _ _ _ _ _ _ _ 49 [.ref 47, .int p1, .int p2] [.int r9] (lay t ex o m8) k _ _
      exact AW.iret (pc := 49) dX5_ofWire_49 rfl rfl (by omega) (by omega) (hQ _ _ hw)
    · have hw := hw.2 c7
      refine AW.aload_n (pc := 27) dX5_ofWire_27 rfl rfl ?_
      refine LW.get (pc := 28) (f := 10) (ci := 5) (T := TX5) ht (by decide) rfl dX5_ofWire_28 tw_808 rfl (by decide) rfl ?_
      refine AW.bipush (v := 6) (pc := 31) dX5_ofWire_31 (by decide) ?_
      refine AW.iload_n (pc := 33) dX5_ofWire_33 rfl rfl ?_
      refine AW.bipush (v := 24) (pc := 34) dX5_ofWire_34 (by decide) ?_
      refine AW.imul (pc := 36) dX5_ofWire_36 ?_
      refine AW.iadd (pc := 37) dX5_ofWire_37 ?_
      refine AW.iload_n (pc := 38) dX5_ofWire_38 rfl rfl ?_
      refine AW.iadd (pc := 39) dX5_ofWire_39 ?_
      obtain ⟨hin, hw⟩ := hw
      refine LW.ialdt (pc := 40) (j := (((6 : Int32) + (p2 * (24 : Int32))) + p1).toNatClampNeg) ht dX5_ofWire_40 hin rfl ?_
      refine AW.goto (pc := 41) (tgt := 49) dX5_ofWire_41 (by decide) ?_
      exact AW.iret (pc := 49) dX5_ofWire_49 rfl rfl (by omega) (by omega) (hQ _ _ hw)
  · have hw := hw.2 c4
    refine AW.aload_n (pc := 12) dX5_ofWire_12 rfl rfl ?_
    refine AW.iconst (v := 1) (pc := 13) dX5_ofWire_13 (by decide) ?_
    refine AW.callV (pc := 14) (S' := []) dX5_ofWire_14 (c_M_no (d := d - 1) ht (by omega) hw) ok_X5_no tw_863 ts_32 tw_861 (fix_pos (by decide)) (lay_at ht (by decide)) (show aw_cl[5]? = some _ from rfl) rfl rfl (by omega) rfl (Nat.le_of_ble_eq_true rfl) (by omega) (by omega) ?_ (fun E h' k' hq => by obtain ⟨rfl, r11, m10, hv, -⟩ := hq; cases hv)
    intro v h' k' hq
    obtain ⟨rfl, r11, m10, hv, rfl, hw⟩ := hq
    cases hv
    show AW _ _ _ _ _ _ _ 17 [.ref 47, .int p1, .int p2] [.int r11] (lay t ex o m10) k _ _
    exact AW.iret (pc := 17) dX5_ofWire_17 rfl rfl (by omega) (by omega) (hQ _ _ hw)
set_option maxRecDepth 100000 in
set_option maxHeartbeats 4000000 in
theorem c_M_ofWire {d k t : Nat} {ex : Hp} {o : Nat → Int64} {K : Int32 → Mem → Prop} {m : Mem} {p1 : Int32} {p2 : Int32} (ht : tok t) (hd : 4 ≤ d) (hw : w_M_ofWire p1 p2 m K) : AM mX5_ofWire d [.ref 47, .int p1, .int p2] (lay t ex o m) k 0 0 (fun oc h' k' => k = k' ∧ ∃ (r : Int32) (m' : Mem), oc = .inl (some (.int r)) ∧ h' = lay t ex o m' ∧ K r m') :=
  AM.intro (μ := mX5_ofWire) (n := 0) (by decide) rfl rfl rfl (b_M_ofWire ht hd (by omega) (by omega) (fun _ _ hK => ⟨rfl, _, _, rfl, rfl, hK⟩) p1 p2 hw)
def w_M_passTo_56 : Nat → Int32 → Int32 → Int32 → Int32 → Int32 → Mem → (Int32 → Int32 → Int32 → Int32 → Int32 → Mem → Prop) → (Int32 → Mem → Prop) → Prop
  | 0, _, _, _, _, _, _, _, _ => False
  | n + 1, x1, x2, x3, x4, x5, m, E82, K => (((m 47 1) ≤ x5 → E82 x1 x2 x3 x4 x5 m) ∧ (¬ ((m 47 1) ≤ x5) → vp_in ((102 : Int32) + x5) 342 ∧ ∀ m18 : Mem, m18 = up2 m 60 (((102 : Int32) + x5).toNatClampNeg) (-1 : Int32) → w_M_passTo_56 n x1 x2 x3 x4 (x5 + 1) m18 E82 K))
def w_M_passTo_15 : Nat → Int32 → Int32 → Int32 → Int32 → Mem → (Int32 → Int32 → Int32 → Int32 → Mem → Prop) → (Int32 → Mem → Prop) → Prop
  | 0, _, _, _, _, _, _, _ => False
  | n + 1, x1, x2, x3, x4, m, E166, K => ((x4 = (-1 : Int32) → E166 x1 x2 x3 x4 m) ∧ (¬ (x4 = (-1 : Int32)) → vp_in ((132 : Int32) + x4) 342 ∧ ((x1 < (m 60 ((132 : Int32) + x4).toNatClampNeg) → E166 x1 x2 x3 x4 m) ∧ (¬ (x1 < (m 60 ((132 : Int32) + x4).toNatClampNeg)) → ((¬ (x3 = (300 : Int32)) → vp_in ((102 : Int32) + x4) 342 ∧ vp_in ((102 : Int32) + x4) 342 ∧ ∀ m6 : Mem, m6 = up2 m 60 (((102 : Int32) + x4).toNatClampNeg) (-1 : Int32) → vp_in ((132 : Int32) + x4) 342 ∧ ∀ m7 : Mem, m7 = up2 m6 60 (0) (m6 60 ((132 : Int32) + x4).toNatClampNeg) → vp_in x4 30 ∧ w_M_valueOf (m7 49 (x4).toNatClampNeg) m7 (fun r9 m8 => ((r9 = (m 60 ((102 : Int32) + x4).toNatClampNeg) → w_M_nextLine  m8 (fun r12 m11 => w_M_passTo_15 n x1 x2 (x3 + 1) r12 m11 E166 K)) ∧ (¬ (r9 = (m 60 ((102 : Int32) + x4).toNatClampNeg)) → vp_in x4 30 ∧ w_M_change (m8 49 (x4).toNatClampNeg) (m 60 ((102 : Int32) + x4).toNatClampNeg) m8 (fun m13 => w_M_nextLine  m13 (fun r15 m14 => w_M_passTo_15 n x1 x2 (x3 + 1) r15 m14 E166 K)))))) ∧ (x3 = (300 : Int32) → ∀ m16 : Mem, m16 = up2 m 60 (2) ((m 60 2) + (1 : Int32)) → w_M_passTo_56 31 x1 x2 x3 x4 (0 : Int32) m16 (fun y19 y20 y21 y22 y23 m24 => E166 y19 y20 y21 y22 m24) K))))))
def w_M_passTo (p1 : Int32) (m : Mem) (K : Int32 → Mem → Prop) : Prop :=
  w_M_nextLine  m (fun r2 m1 => w_M_passTo_15 302 p1 (m 60 3) (0 : Int32) r2 m1 (fun y25 y26 y27 y28 m29 => K ((m29 60 3) - y26) m29) K)
set_option maxRecDepth 100000 in
set_option maxHeartbeats 4000000 in
theorem l_M_passTo_56 {Z : Gz} {d k0 mc ms cs ss k t : Nat} {Q : Po} {ex : Hp} {o : Nat → Int64} {K : Int32 → Mem → Prop}  (ht : tok t) (hd : 6 ≤ d) (hcs : cs ≤ mc) (hss : ss ≤ ms) (hQ : ∀ (r : Int32) (m : Mem), K r m → Q (.inl (some (.int r))) (lay t ex o m) k) {E82 : Int32 → Int32 → Int32 → Int32 → Int32 → Mem → Prop} (hE82 : ∀ (x1 : Int32) (x2 : Int32) (x3 : Int32) (x4 : Int32) (x5 : Int32) (m : Mem), E82 x1 x2 x3 x4 x5 m → AW Z mX5_passTo d k0 mc ms Q 82 [.ref 47, .int x1, .int x2, .int x3, .int x4, .int x5] [] (lay t ex o m) k cs ss) : ∀ (n : Nat) (x1 : Int32) (x2 : Int32) (x3 : Int32) (x4 : Int32) (x5 : Int32) (m : Mem),  w_M_passTo_56 n x1 x2 x3 x4 x5 m E82 K → AW Z mX5_passTo d k0 mc ms Q 56 [.ref 47, .int x1, .int x2, .int x3, .int x4, .int x5] [] (lay t ex o m) k cs ss := by
  intro n
  induction n with
  | zero =>
    intros; rename_i hw; exact absurd hw (by simp [w_M_passTo_56])
  | succ n ih =>
    intro x1 x2 x3 x4 x5 m hw
    unfold w_M_passTo_56 at hw
    refine AW.iload (pc := 56) dX5_passTo_56 rfl ?_
    refine AW.aload_n (pc := 58) dX5_passTo_58 rfl rfl ?_
    refine LW.get (pc := 59) (f := 1) (ci := 5) (T := TX5) ht (by decide) rfl dX5_passTo_59 tw_799 rfl (by decide) rfl ?_
    refine AW.icmp_ge (pc := 62) (tgt := 82) dX5_passTo_62 (by decide) (fun c17 => ?_) (fun c17 => ?_)
    · have hw := hw.1 c17
      exact hE82 x1 x2 x3 x4 x5 m hw
    · have hw := hw.2 c17
      refine AW.aload_n (pc := 65) dX5_passTo_65 rfl rfl ?_
      refine LW.get (pc := 66) (f := 10) (ci := 5) (T := TX5) ht (by decide) rfl dX5_passTo_66 tw_808 rfl (by decide) rfl ?_
      refine AW.bipush (v := 102) (pc := 69) dX5_passTo_69 (by decide) ?_
      refine AW.iload (pc := 71) dX5_passTo_71 rfl ?_
      refine AW.iadd (pc := 73) dX5_passTo_73 ?_
      refine AW.iconst (v := -1) (pc := 74) dX5_passTo_74 (by decide) ?_
      obtain ⟨hin, hw⟩ := hw
      have hw := hw _ rfl
      refine LW.iastt (pc := 75) (j := ((102 : Int32) + x5).toNatClampNeg) ht dX5_passTo_75 hin rfl ?_
      generalize up2 m 60 (((102 : Int32) + x5).toNatClampNeg) (-1 : Int32) = m18 at hw ⊢
      refine AW.iinc (v := (x5 + 1)) (L' := [.ref 47, .int x1, .int x2, .int x3, .int x4, .int (x5 + 1)]) (pc := 76) dX5_passTo_76 rfl rfl (by decide) rfl rfl ?_
      refine AW.goto (pc := 79) (tgt := 56) dX5_passTo_79 (by decide) ?_
      exact ih x1 x2 x3 x4 (x5 + 1) m18 hw
set_option maxRecDepth 100000 in
set_option maxHeartbeats 4000000 in
theorem l_M_passTo_15 {Z : Gz} {d k0 mc ms cs ss k t : Nat} {Q : Po} {ex : Hp} {o : Nat → Int64} {K : Int32 → Mem → Prop}  (ht : tok t) (hd : 6 ≤ d) (hcs : cs ≤ mc) (hss : ss ≤ ms) (hQ : ∀ (r : Int32) (m : Mem), K r m → Q (.inl (some (.int r))) (lay t ex o m) k) {E166 : Int32 → Int32 → Int32 → Int32 → Mem → Prop} (hE166 : ∀ (x1 : Int32) (x2 : Int32) (x3 : Int32) (x4 : Int32) (m : Mem), E166 x1 x2 x3 x4 m → AW Z mX5_passTo d k0 mc ms Q 166 [.ref 47, .int x1, .int x2, .int x3, .int x4, .null] [] (lay t ex o m) k cs ss) : ∀ (n : Nat) (x1 : Int32) (x2 : Int32) (x3 : Int32) (x4 : Int32) (m : Mem),  w_M_passTo_15 n x1 x2 x3 x4 m E166 K → AW Z mX5_passTo d k0 mc ms Q 15 [.ref 47, .int x1, .int x2, .int x3, .int x4, .null] [] (lay t ex o m) k cs ss := by
  intro n
  induction n with
  | zero =>
    intros; rename_i hw; exact absurd hw (by simp [w_M_passTo_15])
  | succ n ih =>
    intro x1 x2 x3 x4 m hw
    unfold w_M_passTo_15 at hw
    refine AW.iload (pc := 15) dX5_passTo_15 rfl ?_
    refine AW.iconst (v := -1) (pc := 17) dX5_passTo_17 (by decide) ?_
    refine AW.icmp_eq (pc := 18) (tgt := 166) dX5_passTo_18 (by decide) (fun c3 => ?_) (fun c3 => ?_)
    · have hw := hw.1 c3
      exact hE166 x1 x2 x3 x4 m hw
    · have hw := hw.2 c3
      refine AW.aload_n (pc := 21) dX5_passTo_21 rfl rfl ?_
      refine LW.get (pc := 22) (f := 10) (ci := 5) (T := TX5) ht (by decide) rfl dX5_passTo_22 tw_808 rfl (by decide) rfl ?_
      refine AW.sipush (v := 132) (pc := 25) dX5_passTo_25 (by decide) ?_
      refine AW.iload (pc := 28) dX5_passTo_28 rfl ?_
      refine AW.iadd (pc := 30) dX5_passTo_30 ?_
      obtain ⟨hin, hw⟩ := hw
      refine LW.ialdt (pc := 31) (j := ((132 : Int32) + x4).toNatClampNeg) ht dX5_passTo_31 hin rfl ?_
      refine AW.iload_n (pc := 32) dX5_passTo_32 rfl rfl ?_
      refine AW.icmp_gt (pc := 33) (tgt := 166) dX5_passTo_33 (by decide) (fun c4 => ?_) (fun c4 => ?_)
      · have hw := hw.1 c4
        exact hE166 x1 x2 x3 x4 m hw
      · have hw := hw.2 c4
        refine AW.iload_n (pc := 36) dX5_passTo_36 rfl rfl ?_
        refine AW.sipush (v := 300) (pc := 37) dX5_passTo_37 (by decide) ?_
        refine AW.icmp_ne (pc := 40) (tgt := 85) dX5_passTo_40 (by decide) (fun c5 => ?_) (fun c5 => ?_)
        · have hw := hw.1 c5
          refine AW.iinc (v := (x3 + 1)) (L' := [.ref 47, .int x1, .int x2, .int (x3 + 1), .int x4, .null]) (pc := 85) dX5_passTo_85 rfl rfl (by decide) rfl rfl ?_
          refine AW.aload_n (pc := 88) dX5_passTo_88 rfl rfl ?_
          refine LW.get (pc := 89) (f := 10) (ci := 5) (T := TX5) ht (by decide) rfl dX5_passTo_89 tw_808 rfl (by decide) rfl ?_
          refine AW.bipush (v := 102) (pc := 92) dX5_passTo_92 (by decide) ?_
          refine AW.iload (pc := 94) dX5_passTo_94 rfl ?_
          refine AW.iadd (pc := 96) dX5_passTo_96 ?_
          obtain ⟨hin, hw⟩ := hw
          refine LW.ialdt (pc := 97) (j := ((102 : Int32) + x4).toNatClampNeg) ht dX5_passTo_97 hin rfl ?_
          refine AW.istore (L' := [.ref 47, .int x1, .int x2, .int (x3 + 1), .int x4, .int (m 60 ((102 : Int32) + x4).toNatClampNeg)]) (pc := 98) dX5_passTo_98 (by decide) rfl rfl ?_
          refine AW.aload_n (pc := 100) dX5_passTo_100 rfl rfl ?_
          refine LW.get (pc := 101) (f := 10) (ci := 5) (T := TX5) ht (by decide) rfl dX5_passTo_101 tw_808 rfl (by decide) rfl ?_
          refine AW.bipush (v := 102) (pc := 104) dX5_passTo_104 (by decide) ?_
          refine AW.iload (pc := 106) dX5_passTo_106 rfl ?_
          refine AW.iadd (pc := 108) dX5_passTo_108 ?_
          refine AW.iconst (v := -1) (pc := 109) dX5_passTo_109 (by decide) ?_
          obtain ⟨hin, hw⟩ := hw
          have hw := hw _ rfl
          refine LW.iastt (pc := 110) (j := ((102 : Int32) + x4).toNatClampNeg) ht dX5_passTo_110 hin rfl ?_
          generalize up2 m 60 (((102 : Int32) + x4).toNatClampNeg) (-1 : Int32) = m6 at hw ⊢
          refine AW.aload_n (pc := 111) dX5_passTo_111 rfl rfl ?_
          refine LW.get (pc := 112) (f := 10) (ci := 5) (T := TX5) ht (by decide) rfl dX5_passTo_112 tw_808 rfl (by decide) rfl ?_
          refine AW.iconst (v := 0) (pc := 115) dX5_passTo_115 (by decide) ?_
          refine AW.aload_n (pc := 116) dX5_passTo_116 rfl rfl ?_
          refine LW.get (pc := 117) (f := 10) (ci := 5) (T := TX5) ht (by decide) rfl dX5_passTo_117 tw_808 rfl (by decide) rfl ?_
          refine AW.sipush (v := 132) (pc := 120) dX5_passTo_120 (by decide) ?_
          refine AW.iload (pc := 123) dX5_passTo_123 rfl ?_
          refine AW.iadd (pc := 125) dX5_passTo_125 ?_
          obtain ⟨hin, hw⟩ := hw
          refine LW.ialdt (pc := 126) (j := ((132 : Int32) + x4).toNatClampNeg) ht dX5_passTo_126 hin rfl ?_
          have hw := hw _ rfl
          refine LW.iastt (pc := 127) (j := 0) ht dX5_passTo_127 (vp_lit (by decide)) (by decide) ?_
          generalize up2 m6 60 (0) (m6 60 ((132 : Int32) + x4).toNatClampNeg) = m7 at hw ⊢
          refine AW.aload_n (pc := 128) dX5_passTo_128 rfl rfl ?_
          refine AW.aload_n (pc := 129) dX5_passTo_129 rfl rfl ?_
          refine LW.get (pc := 130) (f := 3) (ci := 5) (T := TX5) ht (by decide) rfl dX5_passTo_130 tw_801 rfl (by decide) rfl ?_
          refine AW.iload (pc := 133) dX5_passTo_133 rfl ?_
          obtain ⟨hin, hw⟩ := hw
          refine LW.iald (pc := 135) (j := x4.toNatClampNeg) ht (by decide) rfl dX5_passTo_135 hin rfl ?_
          refine AW.callV (pc := 136) (S' := []) dX5_passTo_136 (c_M_valueOf (d := d - 1) ht (by omega) hw) ok_X5_valueOf tw_990 ts_50 tw_988 (fix_pos (by decide)) (lay_at ht (by decide)) (show aw_cl[5]? = some _ from rfl) rfl rfl (by omega) rfl (Nat.le_of_ble_eq_true rfl) (by omega) (by omega) ?_ (fun E h' k' hq => by obtain ⟨rfl, r9, m8, hv, -⟩ := hq; cases hv)
          intro v h' k' hq
          obtain ⟨rfl, r9, m8, hv, rfl, hw⟩ := hq
          cases hv
          show AW _ _ _ _ _ _ _ 139 [.ref 47, .int x1, .int x2, .int (x3 + 1), .int x4, .int (m 60 ((102 : Int32) + x4).toNatClampNeg)] [.int r9] (lay t ex o m8) k _ _
          refine AW.iload (pc := 139) dX5_passTo_139 rfl ?_
          refine AW.icmp_eq (pc := 141) (tgt := 157) dX5_passTo_141 (by decide) (fun c10 => ?_) (fun c10 => ?_)
          · have hw := hw.1 c10
            refine AW.aload_n (pc := 157) dX5_passTo_157 rfl rfl ?_
            refine AW.callV (pc := 158) (S' := []) dX5_passTo_158 (c_M_nextLine (d := d - 1) ht (by omega) hw) ok_X5_nextLine tw_1052 ts_62 tw_1050 (fix_pos (by decide)) (lay_at ht (by decide)) (show aw_cl[5]? = some _ from rfl) rfl rfl (by omega) rfl (Nat.le_of_ble_eq_true rfl) (by omega) (by omega) ?_ (fun E h' k' hq => by obtain ⟨rfl, r12, m11, hv, -⟩ := hq; cases hv)
            intro v h' k' hq
            obtain ⟨rfl, r12, m11, hv, rfl, hw⟩ := hq
            cases hv
            show AW _ _ _ _ _ _ _ 161 [.ref 47, .int x1, .int x2, .int (x3 + 1), .int x4, .int (m 60 ((102 : Int32) + x4).toNatClampNeg)] [.int r12] (lay t ex o m11) k _ _
            refine AW.istore (L' := [.ref 47, .int x1, .int x2, .int (x3 + 1), .int r12, .int (m 60 ((102 : Int32) + x4).toNatClampNeg)]) (pc := 161) dX5_passTo_161 (by decide) rfl rfl ?_
            refine AW.goto (pc := 163) (tgt := 15) dX5_passTo_163 (by decide) ?_
            refine AW.locals (L' := [.ref 47, .int x1, .int x2, .int (x3 + 1), .int r12, .null]) (aw_fewer_same (aw_fewer_same (aw_fewer_same (aw_fewer_same (aw_fewer_same (aw_fewer_null aw_fewer_nil)))))) ?_
            exact ih x1 x2 (x3 + 1) r12 m11 hw
          · have hw := hw.2 c10
            refine AW.aload_n (pc := 144) dX5_passTo_144 rfl rfl ?_
            refine AW.aload_n (pc := 145) dX5_passTo_145 rfl rfl ?_
            refine LW.get (pc := 146) (f := 3) (ci := 5) (T := TX5) ht (by decide) rfl dX5_passTo_146 tw_801 rfl (by decide) rfl ?_
            refine AW.iload (pc := 149) dX5_passTo_149 rfl ?_
            obtain ⟨hin, hw⟩ := hw
            refine LW.iald (pc := 151) (j := x4.toNatClampNeg) ht (by decide) rfl dX5_passTo_151 hin rfl ?_
            refine AW.iload (pc := 152) dX5_passTo_152 rfl ?_
            refine AW.callV (pc := 154) (S' := []) dX5_passTo_154 (c_M_change (d := d - 1) ht (by omega) hw) ok_X5_change tw_986 ts_49 tw_984 (fix_pos (by decide)) (lay_at ht (by decide)) (show aw_cl[5]? = some _ from rfl) rfl rfl (by omega) rfl (Nat.le_of_ble_eq_true rfl) (by omega) (by omega) ?_ (fun E h' k' hq => by obtain ⟨rfl, m13, hv, -⟩ := hq; cases hv)
            intro v h' k' hq
            obtain ⟨rfl, m13, hv, rfl, hw⟩ := hq
            cases hv
            show AW _ _ _ _ _ _ _ 157 [.ref 47, .int x1, .int x2, .int (x3 + 1), .int x4, .int (m 60 ((102 : Int32) + x4).toNatClampNeg)] [] (lay t ex o m13) k _ _
            refine AW.aload_n (pc := 157) dX5_passTo_157 rfl rfl ?_
            refine AW.callV (pc := 158) (S' := []) dX5_passTo_158 (c_M_nextLine (d := d - 1) ht (by omega) hw) ok_X5_nextLine tw_1052 ts_62 tw_1050 (fix_pos (by decide)) (lay_at ht (by decide)) (show aw_cl[5]? = some _ from rfl) rfl rfl (by omega) rfl (Nat.le_of_ble_eq_true rfl) (by omega) (by omega) ?_ (fun E h' k' hq => by obtain ⟨rfl, r15, m14, hv, -⟩ := hq; cases hv)
            intro v h' k' hq
            obtain ⟨rfl, r15, m14, hv, rfl, hw⟩ := hq
            cases hv
            show AW _ _ _ _ _ _ _ 161 [.ref 47, .int x1, .int x2, .int (x3 + 1), .int x4, .int (m 60 ((102 : Int32) + x4).toNatClampNeg)] [.int r15] (lay t ex o m14) k _ _
            refine AW.istore (L' := [.ref 47, .int x1, .int x2, .int (x3 + 1), .int r15, .int (m 60 ((102 : Int32) + x4).toNatClampNeg)]) (pc := 161) dX5_passTo_161 (by decide) rfl rfl ?_
            refine AW.goto (pc := 163) (tgt := 15) dX5_passTo_163 (by decide) ?_
            refine AW.locals (L' := [.ref 47, .int x1, .int x2, .int (x3 + 1), .int r15, .null]) (aw_fewer_same (aw_fewer_same (aw_fewer_same (aw_fewer_same (aw_fewer_same (aw_fewer_null aw_fewer_nil)))))) ?_
            exact ih x1 x2 (x3 + 1) r15 m14 hw
        · have hw := hw.2 c5
          refine AW.aload_n (pc := 43) dX5_passTo_43 rfl rfl ?_
          refine LW.get (pc := 44) (f := 10) (ci := 5) (T := TX5) ht (by decide) rfl dX5_passTo_44 tw_808 rfl (by decide) rfl ?_
          refine AW.iconst (v := 2) (pc := 47) dX5_passTo_47 (by decide) ?_
          refine AW.dup2 (pc := 48) dX5_passTo_48 rfl rfl ?_
          refine LW.ialdt (pc := 49) (j := 2) ht dX5_passTo_49 (vp_lit (by decide)) (by decide) ?_
          refine AW.iconst (v := 1) (pc := 50) dX5_passTo_50 (by decide) ?_
          refine AW.iadd (pc := 51) dX5_passTo_51 ?_
          have hw := hw _ rfl
          refine LW.iastt (pc := 52) (j := 2) ht dX5_passTo_52 (vp_lit (by decide)) (by decide) ?_
          generalize up2 m 60 (2) ((m 60 2) + (1 : Int32)) = m16 at hw ⊢
          refine AW.iconst (v := 0) (pc := 53) dX5_passTo_53 (by decide) ?_
          refine AW.istore (L' := [.ref 47, .int x1, .int x2, .int x3, .int x4, .int (0 : Int32)]) (pc := 54) dX5_passTo_54 (by decide) rfl rfl ?_
          refine l_M_passTo_56 ht hd (by omega) (by omega) hQ ?_ 31 x1 x2 x3 x4 (0 : Int32) m16 hw
          intro y19 y20 y21 y22 y23 m24 hw
          refine AW.goto (pc := 82) (tgt := 166) dX5_passTo_82 (by decide) ?_
          refine AW.locals (L' := [.ref 47, .int y19, .int y20, .int y21, .int y22, .null]) (aw_fewer_same (aw_fewer_same (aw_fewer_same (aw_fewer_same (aw_fewer_same (aw_fewer_null aw_fewer_nil)))))) ?_
          exact hE166 y19 y20 y21 y22 m24 hw
set_option maxRecDepth 100000 in
set_option maxHeartbeats 4000000 in
theorem b_M_passTo {Z : Gz} {d k0 mc ms cs ss k t : Nat} {Q : Po} {ex : Hp} {o : Nat → Int64} {K : Int32 → Mem → Prop}  (ht : tok t) (hd : 6 ≤ d) (hcs : cs + 0 ≤ mc) (hss : ss + 0 ≤ ms) (hQ : ∀ (r : Int32) (m : Mem), K r m → Q (.inl (some (.int r))) (lay t ex o m) k) {m : Mem} (p1 : Int32) (hw : w_M_passTo p1 m K) : AW Z mX5_passTo d k0 mc ms Q 0 [.ref 47, .int p1, .null, .null, .null, .null] [] (lay t ex o m) k cs ss := by
  unfold w_M_passTo at hw
  refine AW.aload_n (pc := 0) dX5_passTo_0 rfl rfl ?_
  refine LW.get (pc := 1) (f := 10) (ci := 5) (T := TX5) ht (by decide) rfl dX5_passTo_1 tw_808 rfl (by decide) rfl ?_
  refine AW.iconst (v := 3) (pc := 4) dX5_passTo_4 (by decide) ?_
  refine LW.ialdt (pc := 5) (j := 3) ht dX5_passTo_5 (vp_lit (by decide)) (by decide) ?_
  refine AW.istore_n (L' := [.ref 47, .int p1, .int (m 60 3), .null, .null, .null]) (pc := 6) dX5_passTo_6 rfl (by decide) rfl rfl ?_
  refine AW.iconst (v := 0) (pc := 7) dX5_passTo_7 (by decide) ?_
  refine AW.istore_n (L' := [.ref 47, .int p1, .int (m 60 3), .int (0 : Int32), .null, .null]) (pc := 8) dX5_passTo_8 rfl (by decide) rfl rfl ?_
  refine AW.aload_n (pc := 9) dX5_passTo_9 rfl rfl ?_
  refine AW.callV (pc := 10) (S' := []) dX5_passTo_10 (c_M_nextLine (d := d - 1) ht (by omega) hw) ok_X5_nextLine tw_1052 ts_62 tw_1050 (fix_pos (by decide)) (lay_at ht (by decide)) (show aw_cl[5]? = some _ from rfl) rfl rfl (by omega) rfl (Nat.le_of_ble_eq_true rfl) (by omega) (by omega) ?_ (fun E h' k' hq => by obtain ⟨rfl, r2, m1, hv, -⟩ := hq; cases hv)
  intro v h' k' hq
  obtain ⟨rfl, r2, m1, hv, rfl, hw⟩ := hq
  cases hv
  show AW _ _ _ _ _ _ _ 13 [.ref 47, .int p1, .int (m 60 3), .int (0 : Int32), .null, .null] [.int r2] (lay t ex o m1) k _ _
  refine AW.istore (L' := [.ref 47, .int p1, .int (m 60 3), .int (0 : Int32), .int r2, .null]) (pc := 13) dX5_passTo_13 (by decide) rfl rfl ?_
  refine l_M_passTo_15 ht hd (by omega) (by omega) hQ ?_ 302 p1 (m 60 3) (0 : Int32) r2 m1 hw
  intro y25 y26 y27 y28 m29 hw
  refine AW.aload_n (pc := 166) dX5_passTo_166 rfl rfl ?_
  refine LW.get (pc := 167) (f := 10) (ci := 5) (T := TX5) ht (by decide) rfl dX5_passTo_167 tw_808 rfl (by decide) rfl ?_
  refine AW.iconst (v := 3) (pc := 170) dX5_passTo_170 (by decide) ?_
  refine LW.ialdt (pc := 171) (j := 3) ht dX5_passTo_171 (vp_lit (by decide)) (by decide) ?_
  refine AW.iload_n (pc := 172) dX5_passTo_172 rfl rfl ?_
  refine AW.isub (pc := 173) dX5_passTo_173 ?_
  exact AW.iret (pc := 174) dX5_passTo_174 rfl rfl (by omega) (by omega) (hQ _ _ hw)
set_option maxRecDepth 100000 in
set_option maxHeartbeats 4000000 in
theorem c_M_passTo {d k t : Nat} {ex : Hp} {o : Nat → Int64} {K : Int32 → Mem → Prop} {m : Mem} {p1 : Int32} (ht : tok t) (hd : 6 ≤ d) (hw : w_M_passTo p1 m K) : AM mX5_passTo d [.ref 47, .int p1] (lay t ex o m) k 0 0 (fun oc h' k' => k = k' ∧ ∃ (r : Int32) (m' : Mem), oc = .inl (some (.int r)) ∧ h' = lay t ex o m' ∧ K r m') :=
  AM.intro (μ := mX5_passTo) (n := 4) (by decide) rfl rfl rfl (b_M_passTo ht hd (by omega) (by omega) (fun _ _ hK => ⟨rfl, _, _, rfl, rfl, hK⟩) p1 hw)
def w_M_pass (p1 : Int32) (m : Mem) (K : Int32 → Mem → Prop) : Prop :=
  ∀ m1 : Mem, m1 = up2 m 47 0 (0 : Int32) → ((¬ ((m1 47 11) = 0) → w_M_isIn p1 (0 : Int32) (100 : Int32) m1 (fun r4 m3 => ((¬ (r4 = 0) → w_M_passTo ((m3 60 0) + p1) m3 (fun r7 m6 => ∀ m8 : Mem, m8 = up2 m6 60 (0) ((m3 60 0) + p1) → K r7 m8)) ∧ (r4 = 0 → w_M_no (2 : Int32) m3 (fun r10 m9 => K r10 m9))))) ∧ ((m1 47 11) = 0 → w_M_no (1 : Int32) m1 (fun r12 m11 => K r12 m11)))
set_option maxRecDepth 100000 in
set_option maxHeartbeats 4000000 in
theorem b_M_pass {Z : Gz} {d k0 mc ms cs ss k t : Nat} {Q : Po} {ex : Hp} {o : Nat → Int64} {K : Int32 → Mem → Prop}  (ht : tok t) (hd : 7 ≤ d) (hcs : cs + 0 ≤ mc) (hss : ss + 0 ≤ ms) (hQ : ∀ (r : Int32) (m : Mem), K r m → Q (.inl (some (.int r))) (lay t ex o m) k) {m : Mem} (p1 : Int32) (hw : w_M_pass p1 m K) : AW Z mX5_pass d k0 mc ms Q 0 [.ref 47, .int p1, .null, .null] [] (lay t ex o m) k cs ss := by
  unfold w_M_pass at hw
  refine AW.aload_n (pc := 0) dX5_pass_0 rfl rfl ?_
  refine AW.iconst (v := 0) (pc := 1) dX5_pass_1 (by decide) ?_
  have hw := hw _ rfl
  refine LW.put (pc := 2) (f := 0) (ci := 5) (T := TX5) ht (by decide) rfl sp_47_0 dX5_pass_2 tw_798 rfl (by decide) (Nat.le_of_ble_eq_true rfl) rfl ⟨rfl, rfl⟩ ?_
  generalize up2 m 47 0 (0 : Int32) = m1 at hw ⊢
  refine AW.aload_n (pc := 5) dX5_pass_5 rfl rfl ?_
  refine LW.get (pc := 6) (f := 11) (ci := 5) (T := TX5) ht (by decide) rfl dX5_pass_6 tw_809 rfl (by decide) rfl ?_
  refine AW.if_ne (pc := 9) (tgt := 18) dX5_pass_9 (by decide) (fun c2 => ?_) (fun c2 => ?_)
  · have hw := hw.1 c2
    refine AW.iload_n (pc := 18) dX5_pass_18 rfl rfl ?_
    refine AW.iconst (v := 0) (pc := 19) dX5_pass_19 (by decide) ?_
    refine AW.bipush (v := 100) (pc := 20) dX5_pass_20 (by decide) ?_
    refine AW.callS (pc := 22) (S' := []) dX5_pass_22 (c_M_isIn (d := d - 1) ht (by omega) hw) ok_X5_isIn tw_859 tw_858 rfl (by omega) rfl (Nat.le_of_ble_eq_true rfl) (by omega) (by omega) ?_ (fun E h' k' hq => by obtain ⟨rfl, r4, m3, hv, -⟩ := hq; cases hv)
    intro v h' k' hq
    obtain ⟨rfl, r4, m3, hv, rfl, hw⟩ := hq
    cases hv
    show AW _ _ _ _ _ _ _ 25 [.ref 47, .int p1, .null, .null] [.int r4] (lay t ex o m3) k _ _
    refine AW.if_ne (pc := 25) (tgt := 34) dX5_pass_25 (by decide) (fun c5 => ?_) (fun c5 => ?_)
    · have hw := hw.1 c5
      refine AW.aload_n (pc := 34) dX5_pass_34 rfl rfl ?_
      refine LW.get (pc := 35) (f := 10) (ci := 5) (T := TX5) ht (by decide) rfl dX5_pass_35 tw_808 rfl (by decide) rfl ?_
      refine AW.iconst (v := 0) (pc := 38) dX5_pass_38 (by decide) ?_
      refine LW.ialdt (pc := 39) (j := 0) ht dX5_pass_39 (vp_lit (by decide)) (by decide) ?_
      refine AW.iload_n (pc := 40) dX5_pass_40 rfl rfl ?_
      refine AW.iadd (pc := 41) dX5_pass_41 ?_
      refine AW.istore_n (L' := [.ref 47, .int p1, .int ((m3 60 0) + p1), .null]) (pc := 42) dX5_pass_42 rfl (by decide) rfl rfl ?_
      refine AW.aload_n (pc := 43) dX5_pass_43 rfl rfl ?_
      refine AW.iload_n (pc := 44) dX5_pass_44 rfl rfl ?_
      refine AW.callV (pc := 45) (S' := []) dX5_pass_45 (c_M_passTo (d := d - 1) ht (by omega) hw) ok_X5_passTo tw_1048 ts_61 tw_1046 (fix_pos (by decide)) (lay_at ht (by decide)) (show aw_cl[5]? = some _ from rfl) rfl rfl (by omega) rfl (Nat.le_of_ble_eq_true rfl) (by omega) (by omega) ?_ (fun E h' k' hq => by obtain ⟨rfl, r7, m6, hv, -⟩ := hq; cases hv)
      intro v h' k' hq
      obtain ⟨rfl, r7, m6, hv, rfl, hw⟩ := hq
      cases hv
      show AW _ _ _ _ _ _ _ 48 [.ref 47, .int p1, .int ((m3 60 0) + p1), .null] [.int r7] (lay t ex o m6) k _ _
      refine AW.istore_n (L' := [.ref 47, .int p1, .int ((m3 60 0) + p1), .int r7]) (pc := 48) dX5_pass_48 rfl (by decide) rfl rfl ?_
      refine AW.aload_n (pc := 49) dX5_pass_49 rfl rfl ?_
      refine LW.get (pc := 50) (f := 10) (ci := 5) (T := TX5) ht (by decide) rfl dX5_pass_50 tw_808 rfl (by decide) rfl ?_
      refine AW.iconst (v := 0) (pc := 53) dX5_pass_53 (by decide) ?_
      refine AW.iload_n (pc := 54) dX5_pass_54 rfl rfl ?_
      have hw := hw _ rfl
      refine LW.iastt (pc := 55) (j := 0) ht dX5_pass_55 (vp_lit (by decide)) (by decide) ?_
      generalize up2 m6 60 (0) ((m3 60 0) + p1) = m8 at hw ⊢
      refine AW.iload_n (pc := 56) dX5_pass_56 rfl rfl ?_
      exact AW.iret (pc := 57) dX5_pass_57 rfl rfl (by omega) (by omega) (hQ _ _ hw)
    · have hw := hw.2 c5
      refine AW.aload_n (pc := 28) dX5_pass_28 rfl rfl ?_
      refine AW.iconst (v := 2) (pc := 29) dX5_pass_29 (by decide) ?_
      refine AW.callV (pc := 30) (S' := []) dX5_pass_30 (c_M_no (d := d - 1) ht (by omega) hw) ok_X5_no tw_863 ts_32 tw_861 (fix_pos (by decide)) (lay_at ht (by decide)) (show aw_cl[5]? = some _ from rfl) rfl rfl (by omega) rfl (Nat.le_of_ble_eq_true rfl) (by omega) (by omega) ?_ (fun E h' k' hq => by obtain ⟨rfl, r10, m9, hv, -⟩ := hq; cases hv)
      intro v h' k' hq
      obtain ⟨rfl, r10, m9, hv, rfl, hw⟩ := hq
      cases hv
      show AW _ _ _ _ _ _ _ 33 [.ref 47, .int p1, .null, .null] [.int r10] (lay t ex o m9) k _ _
      exact AW.iret (pc := 33) dX5_pass_33 rfl rfl (by omega) (by omega) (hQ _ _ hw)
  · have hw := hw.2 c2
    refine AW.aload_n (pc := 12) dX5_pass_12 rfl rfl ?_
    refine AW.iconst (v := 1) (pc := 13) dX5_pass_13 (by decide) ?_
    refine AW.callV (pc := 14) (S' := []) dX5_pass_14 (c_M_no (d := d - 1) ht (by omega) hw) ok_X5_no tw_863 ts_32 tw_861 (fix_pos (by decide)) (lay_at ht (by decide)) (show aw_cl[5]? = some _ from rfl) rfl rfl (by omega) rfl (Nat.le_of_ble_eq_true rfl) (by omega) (by omega) ?_ (fun E h' k' hq => by obtain ⟨rfl, r12, m11, hv, -⟩ := hq; cases hv)
    intro v h' k' hq
    obtain ⟨rfl, r12, m11, hv, rfl, hw⟩ := hq
    cases hv
    show AW _ _ _ _ _ _ _ 17 [.ref 47, .int p1, .null, .null] [.int r12] (lay t ex o m11) k _ _
    exact AW.iret (pc := 17) dX5_pass_17 rfl rfl (by omega) (by omega) (hQ _ _ hw)
set_option maxRecDepth 100000 in
set_option maxHeartbeats 4000000 in
theorem c_M_pass {d k t : Nat} {ex : Hp} {o : Nat → Int64} {K : Int32 → Mem → Prop} {m : Mem} {p1 : Int32} (ht : tok t) (hd : 7 ≤ d) (hw : w_M_pass p1 m K) : AM mX5_pass d [.ref 47, .int p1] (lay t ex o m) k 0 0 (fun oc h' k' => k = k' ∧ ∃ (r : Int32) (m' : Mem), oc = .inl (some (.int r)) ∧ h' = lay t ex o m' ∧ K r m') :=
  AM.intro (μ := mX5_pass) (n := 2) (by decide) rfl rfl rfl (b_M_pass ht hd (by omega) (by omega) (fun _ _ hK => ⟨rfl, _, _, rfl, rfl, hK⟩) p1 hw)
def w_M_pending (p1 : Int32) (m : Mem) (K : Int32 → Mem → Prop) : Prop :=
  ∀ m1 : Mem, m1 = up2 m 47 0 (0 : Int32) → w_M_isLine p1 m1 (fun r3 m2 => ((r3 = 0 → w_M_no (1 : Int32) m2 (fun r6 m5 => K r6 m5)) ∧ (¬ (r3 = 0) → vp_in ((102 : Int32) + p1) 342 ∧ K (m2 60 ((102 : Int32) + p1).toNatClampNeg) m2)))
set_option maxRecDepth 100000 in
set_option maxHeartbeats 4000000 in
theorem b_M_pending {Z : Gz} {d k0 mc ms cs ss k t : Nat} {Q : Po} {ex : Hp} {o : Nat → Int64} {K : Int32 → Mem → Prop}  (ht : tok t) (hd : 4 ≤ d) (hcs : cs + 0 ≤ mc) (hss : ss + 0 ≤ ms) (hQ : ∀ (r : Int32) (m : Mem), K r m → Q (.inl (some (.int r))) (lay t ex o m) k) {m : Mem} (p1 : Int32) (hw : w_M_pending p1 m K) : AW Z mX5_pending d k0 mc ms Q 0 [.ref 47, .int p1] [] (lay t ex o m) k cs ss := by
  unfold w_M_pending at hw
  refine AW.aload_n (pc := 0) dX5_pending_0 rfl rfl ?_
  refine AW.iconst (v := 0) (pc := 1) dX5_pending_1 (by decide) ?_
  have hw := hw _ rfl
  refine LW.put (pc := 2) (f := 0) (ci := 5) (T := TX5) ht (by decide) rfl sp_47_0 dX5_pending_2 tw_798 rfl (by decide) (Nat.le_of_ble_eq_true rfl) rfl ⟨rfl, rfl⟩ ?_
  generalize up2 m 47 0 (0 : Int32) = m1 at hw ⊢
  refine AW.aload_n (pc := 5) dX5_pending_5 rfl rfl ?_
  refine AW.iload_n (pc := 6) dX5_pending_6 rfl rfl ?_
  refine AW.callV (pc := 7) (S' := []) dX5_pending_7 (c_M_isLine (d := d - 1) ht (by omega) hw) ok_X5_isLine tw_886 ts_34 tw_884 (fix_pos (by decide)) (lay_at ht (by decide)) (show aw_cl[5]? = some _ from rfl) rfl rfl (by omega) rfl (Nat.le_of_ble_eq_true rfl) (by omega) (by omega) ?_ (fun E h' k' hq => by obtain ⟨rfl, r3, m2, hv, -⟩ := hq; cases hv)
  intro v h' k' hq
  obtain ⟨rfl, r3, m2, hv, rfl, hw⟩ := hq
  cases hv
  show AW _ _ _ _ _ _ _ 10 [.ref 47, .int p1] [.int r3] (lay t ex o m2) k _ _
  refine AW.if_eq (pc := 10) (tgt := 25) dX5_pending_10 (by decide) (fun c4 => ?_) (fun c4 => ?_)
  · have hw := hw.1 c4
    refine AW.aload_n (pc := 25) dX5_pending_25 rfl rfl ?_
    refine AW.iconst (v := 1) (pc := 26) dX5_pending_26 (by decide) ?_
    refine AW.callV (pc := 27) (S' := []) dX5_pending_27 (c_M_no (d := d - 1) ht (by omega) hw) ok_X5_no tw_863 ts_32 tw_861 (fix_pos (by decide)) (lay_at ht (by decide)) (show aw_cl[5]? = some _ from rfl) rfl rfl (by omega) rfl (Nat.le_of_ble_eq_true rfl) (by omega) (by omega) ?_ (fun E h' k' hq => by obtain ⟨rfl, r6, m5, hv, -⟩ := hq; cases hv)
    intro v h' k' hq
    obtain ⟨rfl, r6, m5, hv, rfl, hw⟩ := hq
    cases hv
    show AW _ _ _ _ _ _ _ 30 [.ref 47, .int p1] [.int r6] (lay t ex o m5) k _ _
    exact AW.iret (pc := 30) dX5_pending_30 rfl rfl (by omega) (by omega) (hQ _ _ hw)
  · have hw := hw.2 c4
    refine AW.aload_n (pc := 13) dX5_pending_13 rfl rfl ?_
    refine LW.get (pc := 14) (f := 10) (ci := 5) (T := TX5) ht (by decide) rfl dX5_pending_14 tw_808 rfl (by decide) rfl ?_
    refine AW.bipush (v := 102) (pc := 17) dX5_pending_17 (by decide) ?_
    refine AW.iload_n (pc := 19) dX5_pending_19 rfl rfl ?_
    refine AW.iadd (pc := 20) dX5_pending_20 ?_
    obtain ⟨hin, hw⟩ := hw
    refine LW.ialdt (pc := 21) (j := ((102 : Int32) + p1).toNatClampNeg) ht dX5_pending_21 hin rfl ?_
    refine AW.goto (pc := 22) (tgt := 30) dX5_pending_22 (by decide) ?_
    exact AW.iret (pc := 30) dX5_pending_30 rfl rfl (by omega) (by omega) (hQ _ _ hw)
set_option maxRecDepth 100000 in
set_option maxHeartbeats 4000000 in
theorem c_M_pending {d k t : Nat} {ex : Hp} {o : Nat → Int64} {K : Int32 → Mem → Prop} {m : Mem} {p1 : Int32} (ht : tok t) (hd : 4 ≤ d) (hw : w_M_pending p1 m K) : AM mX5_pending d [.ref 47, .int p1] (lay t ex o m) k 0 0 (fun oc h' k' => k = k' ∧ ∃ (r : Int32) (m' : Mem), oc = .inl (some (.int r)) ∧ h' = lay t ex o m' ∧ K r m') :=
  AM.intro (μ := mX5_pending) (n := 0) (by decide) rfl rfl rfl (b_M_pending ht hd (by omega) (by omega) (fun _ _ hK => ⟨rfl, _, _, rfl, rfl, hK⟩) p1 hw)
def w_M_register (p1 : Int32) (p2 : Int32) (p3 : Int32) (p4 : Int32) (p5 : Int32) (m : Mem) (K : Int32 → Mem → Prop) : Prop :=
  ∀ m1 : Mem, m1 = up2 m 47 0 (0 : Int32) → w_M_isWire p1 m1 (fun r3 m2 => ((r3 = 0 → w_M_no (1 : Int32) m2 (fun r6 m5 => K r6 m5)) ∧ (¬ (r3 = 0) → w_M_isWire p2 m2 (fun r8 m7 => ((r8 = 0 → w_M_no (1 : Int32) m7 (fun r11 m10 => K r11 m10)) ∧ (¬ (r8 = 0) → w_M_isWire p3 m7 (fun r13 m12 => ((r13 = 0 → w_M_no (1 : Int32) m12 (fun r16 m15 => K r16 m15)) ∧ (¬ (r13 = 0) → (∀ J18 : Mem → Prop, (∀  (m17 : Mem), (w_M_isIn p5 (0 : Int32) (20 : Int32) m17 (fun r26 m25 => ((¬ (r26 = 0) → ((¬ ((m25 47 1) = (30 : Int32)) → w_M_add (-2 : Int32) p1 p2 p3 p4 p5 m25 (fun r30 m29 => K r30 m29)) ∧ ((m25 47 1) = (30 : Int32) → w_M_no (3 : Int32) m25 (fun r32 m31 => K r32 m31)))) ∧ (r26 = 0 → w_M_no (2 : Int32) m25 (fun r34 m33 => K r34 m33))))) → J18 m17) → ((p4 = (-1 : Int32) → J18  m12) ∧ (¬ (p4 = (-1 : Int32)) → w_M_isWire p4 m12 (fun r21 m20 => ((¬ (r21 = 0) → J18  m20) ∧ (r21 = 0 → w_M_no (1 : Int32) m20 (fun r24 m23 => K r24 m23))))))))))))))))
set_option maxRecDepth 100000 in
set_option maxHeartbeats 4000000 in
theorem b_M_register {Z : Gz} {d k0 mc ms cs ss k t : Nat} {Q : Po} {ex : Hp} {o : Nat → Int64} {K : Int32 → Mem → Prop}  (ht : tok t) (hd : 4 ≤ d) (hcs : cs + 0 ≤ mc) (hss : ss + 0 ≤ ms) (hQ : ∀ (r : Int32) (m : Mem), K r m → Q (.inl (some (.int r))) (lay t ex o m) k) {m : Mem} (p1 : Int32) (p2 : Int32) (p3 : Int32) (p4 : Int32) (p5 : Int32) (hw : w_M_register p1 p2 p3 p4 p5 m K) : AW Z mX5_register d k0 mc ms Q 0 [.ref 47, .int p1, .int p2, .int p3, .int p4, .int p5] [] (lay t ex o m) k cs ss := by
  unfold w_M_register at hw
  refine AW.aload_n (pc := 0) dX5_register_0 rfl rfl ?_
  refine AW.iconst (v := 0) (pc := 1) dX5_register_1 (by decide) ?_
  have hw := hw _ rfl
  refine LW.put (pc := 2) (f := 0) (ci := 5) (T := TX5) ht (by decide) rfl sp_47_0 dX5_register_2 tw_798 rfl (by decide) (Nat.le_of_ble_eq_true rfl) rfl ⟨rfl, rfl⟩ ?_
  generalize up2 m 47 0 (0 : Int32) = m1 at hw ⊢
  refine AW.iload_n (pc := 5) dX5_register_5 rfl rfl ?_
  refine AW.callS (pc := 6) (S' := []) dX5_register_6 (c_M_isWire (d := d - 1) ht (by omega) hw) ok_X5_isWire tw_856 tw_855 rfl (by omega) rfl (Nat.le_of_ble_eq_true rfl) (by omega) (by omega) ?_ (fun E h' k' hq => by obtain ⟨rfl, r3, m2, hv, -⟩ := hq; cases hv)
  intro v h' k' hq
  obtain ⟨rfl, r3, m2, hv, rfl, hw⟩ := hq
  cases hv
  show AW _ _ _ _ _ _ _ 9 [.ref 47, .int p1, .int p2, .int p3, .int p4, .int p5] [.int r3] (lay t ex o m2) k _ _
  refine AW.if_eq (pc := 9) (tgt := 40) dX5_register_9 (by decide) (fun c4 => ?_) (fun c4 => ?_)
  · have hw := hw.1 c4
    refine AW.aload_n (pc := 40) dX5_register_40 rfl rfl ?_
    refine AW.iconst (v := 1) (pc := 41) dX5_register_41 (by decide) ?_
    refine AW.callV (pc := 42) (S' := []) dX5_register_42 (c_M_no (d := d - 1) ht (by omega) hw) ok_X5_no tw_863 ts_32 tw_861 (fix_pos (by decide)) (lay_at ht (by decide)) (show aw_cl[5]? = some _ from rfl) rfl rfl (by omega) rfl (Nat.le_of_ble_eq_true rfl) (by omega) (by omega) ?_ (fun E h' k' hq => by obtain ⟨rfl, r6, m5, hv, -⟩ := hq; cases hv)
    intro v h' k' hq
    obtain ⟨rfl, r6, m5, hv, rfl, hw⟩ := hq
    cases hv
    show AW _ _ _ _ _ _ _ 45 [.ref 47, .int p1, .int p2, .int p3, .int p4, .int p5] [.int r6] (lay t ex o m5) k _ _
    exact AW.iret (pc := 45) dX5_register_45 rfl rfl (by omega) (by omega) (hQ _ _ hw)
  · have hw := hw.2 c4
    refine AW.iload_n (pc := 12) dX5_register_12 rfl rfl ?_
    refine AW.callS (pc := 13) (S' := []) dX5_register_13 (c_M_isWire (d := d - 1) ht (by omega) hw) ok_X5_isWire tw_856 tw_855 rfl (by omega) rfl (Nat.le_of_ble_eq_true rfl) (by omega) (by omega) ?_ (fun E h' k' hq => by obtain ⟨rfl, r8, m7, hv, -⟩ := hq; cases hv)
    intro v h' k' hq
    obtain ⟨rfl, r8, m7, hv, rfl, hw⟩ := hq
    cases hv
    show AW _ _ _ _ _ _ _ 16 [.ref 47, .int p1, .int p2, .int p3, .int p4, .int p5] [.int r8] (lay t ex o m7) k _ _
    refine AW.if_eq (pc := 16) (tgt := 40) dX5_register_16 (by decide) (fun c9 => ?_) (fun c9 => ?_)
    · have hw := hw.1 c9
      refine AW.aload_n (pc := 40) dX5_register_40 rfl rfl ?_
      refine AW.iconst (v := 1) (pc := 41) dX5_register_41 (by decide) ?_
      refine AW.callV (pc := 42) (S' := []) dX5_register_42 (c_M_no (d := d - 1) ht (by omega) hw) ok_X5_no tw_863 ts_32 tw_861 (fix_pos (by decide)) (lay_at ht (by decide)) (show aw_cl[5]? = some _ from rfl) rfl rfl (by omega) rfl (Nat.le_of_ble_eq_true rfl) (by omega) (by omega) ?_ (fun E h' k' hq => by obtain ⟨rfl, r11, m10, hv, -⟩ := hq; cases hv)
      intro v h' k' hq
      obtain ⟨rfl, r11, m10, hv, rfl, hw⟩ := hq
      cases hv
      show AW _ _ _ _ _ _ _ 45 [.ref 47, .int p1, .int p2, .int p3, .int p4, .int p5] [.int r11] (lay t ex o m10) k _ _
      exact AW.iret (pc := 45) dX5_register_45 rfl rfl (by omega) (by omega) (hQ _ _ hw)
    · have hw := hw.2 c9
      refine AW.iload_n (pc := 19) dX5_register_19 rfl rfl ?_
      refine AW.callS (pc := 20) (S' := []) dX5_register_20 (c_M_isWire (d := d - 1) ht (by omega) hw) ok_X5_isWire tw_856 tw_855 rfl (by omega) rfl (Nat.le_of_ble_eq_true rfl) (by omega) (by omega) ?_ (fun E h' k' hq => by obtain ⟨rfl, r13, m12, hv, -⟩ := hq; cases hv)
      intro v h' k' hq
      obtain ⟨rfl, r13, m12, hv, rfl, hw⟩ := hq
      cases hv
      show AW _ _ _ _ _ _ _ 23 [.ref 47, .int p1, .int p2, .int p3, .int p4, .int p5] [.int r13] (lay t ex o m12) k _ _
      refine AW.if_eq (pc := 23) (tgt := 40) dX5_register_23 (by decide) (fun c14 => ?_) (fun c14 => ?_)
      · have hw := hw.1 c14
        refine AW.aload_n (pc := 40) dX5_register_40 rfl rfl ?_
        refine AW.iconst (v := 1) (pc := 41) dX5_register_41 (by decide) ?_
        refine AW.callV (pc := 42) (S' := []) dX5_register_42 (c_M_no (d := d - 1) ht (by omega) hw) ok_X5_no tw_863 ts_32 tw_861 (fix_pos (by decide)) (lay_at ht (by decide)) (show aw_cl[5]? = some _ from rfl) rfl rfl (by omega) rfl (Nat.le_of_ble_eq_true rfl) (by omega) (by omega) ?_ (fun E h' k' hq => by obtain ⟨rfl, r16, m15, hv, -⟩ := hq; cases hv)
        intro v h' k' hq
        obtain ⟨rfl, r16, m15, hv, rfl, hw⟩ := hq
        cases hv
        show AW _ _ _ _ _ _ _ 45 [.ref 47, .int p1, .int p2, .int p3, .int p4, .int p5] [.int r16] (lay t ex o m15) k _ _
        exact AW.iret (pc := 45) dX5_register_45 rfl rfl (by omega) (by omega) (hQ _ _ hw)
      · have hw := hw.2 c14
        refine AW.iload (pc := 26) dX5_register_26 rfl ?_
        refine AW.iconst (v := -1) (pc := 28) dX5_register_28 (by decide) ?_
        have hw := hw (fun m17 => AW Z mX5_register d k0 mc ms Q 46 [.ref 47, .int p1, .int p2, .int p3, .int p4, .int p5] [] (lay t ex o m17) k (cs) (ss)) (by
            intro m17 hw
            refine AW.iload (pc := 46) dX5_register_46 rfl ?_
            refine AW.iconst (v := 0) (pc := 48) dX5_register_48 (by decide) ?_
            refine AW.bipush (v := 20) (pc := 49) dX5_register_49 (by decide) ?_
            refine AW.callS (pc := 51) (S' := []) dX5_register_51 (c_M_isIn (d := d - 1) ht (by omega) hw) ok_X5_isIn tw_859 tw_858 rfl (by omega) rfl (Nat.le_of_ble_eq_true rfl) (by omega) (by omega) ?_ (fun E h' k' hq => by obtain ⟨rfl, r26, m25, hv, -⟩ := hq; cases hv)
            intro v h' k' hq
            obtain ⟨rfl, r26, m25, hv, rfl, hw⟩ := hq
            cases hv
            show AW _ _ _ _ _ _ _ 54 [.ref 47, .int p1, .int p2, .int p3, .int p4, .int p5] [.int r26] (lay t ex o m25) k _ _
            refine AW.if_ne (pc := 54) (tgt := 63) dX5_register_54 (by decide) (fun c27 => ?_) (fun c27 => ?_)
            · have hw := hw.1 c27
              refine AW.aload_n (pc := 63) dX5_register_63 rfl rfl ?_
              refine LW.get (pc := 64) (f := 1) (ci := 5) (T := TX5) ht (by decide) rfl dX5_register_64 tw_799 rfl (by decide) rfl ?_
              refine AW.bipush (v := 30) (pc := 67) dX5_register_67 (by decide) ?_
              refine AW.icmp_ne (pc := 69) (tgt := 80) dX5_register_69 (by decide) (fun c28 => ?_) (fun c28 => ?_)
              · have hw := hw.1 c28
                refine AW.aload_n (pc := 80) dX5_register_80 rfl rfl ?_
                refine AW.bipush (v := -2) (pc := 81) dX5_register_81 (by decide) ?_
                refine AW.iload_n (pc := 83) dX5_register_83 rfl rfl ?_
                refine AW.iload_n (pc := 84) dX5_register_84 rfl rfl ?_
                refine AW.iload_n (pc := 85) dX5_register_85 rfl rfl ?_
                refine AW.iload (pc := 86) dX5_register_86 rfl ?_
                refine AW.iload (pc := 88) dX5_register_88 rfl ?_
                refine AW.callV (pc := 90) (S' := []) dX5_register_90 (c_M_add (d := d - 1) ht (by omega) hw) ok_X5_add tw_867 ts_33 tw_865 (fix_pos (by decide)) (lay_at ht (by decide)) (show aw_cl[5]? = some _ from rfl) rfl rfl (by omega) rfl (Nat.le_of_ble_eq_true rfl) (by omega) (by omega) ?_ (fun E h' k' hq => by obtain ⟨rfl, r30, m29, hv, -⟩ := hq; cases hv)
                intro v h' k' hq
                obtain ⟨rfl, r30, m29, hv, rfl, hw⟩ := hq
                cases hv
                show AW _ _ _ _ _ _ _ 93 [.ref 47, .int p1, .int p2, .int p3, .int p4, .int p5] [.int r30] (lay t ex o m29) k _ _
                exact AW.iret (pc := 93) dX5_register_93 rfl rfl (by omega) (by omega) (hQ _ _ hw)
              · have hw := hw.2 c28
                refine AW.aload_n (pc := 72) dX5_register_72 rfl rfl ?_
                refine AW.iconst (v := 3) (pc := 73) dX5_register_73 (by decide) ?_
                refine AW.callV (pc := 74) (S' := []) dX5_register_74 (c_M_no (d := d - 1) ht (by omega) hw) ok_X5_no tw_863 ts_32 tw_861 (fix_pos (by decide)) (lay_at ht (by decide)) (show aw_cl[5]? = some _ from rfl) rfl rfl (by omega) rfl (Nat.le_of_ble_eq_true rfl) (by omega) (by omega) ?_ (fun E h' k' hq => by obtain ⟨rfl, r32, m31, hv, -⟩ := hq; cases hv)
                intro v h' k' hq
                obtain ⟨rfl, r32, m31, hv, rfl, hw⟩ := hq
                cases hv
                show AW _ _ _ _ _ _ _ 77 [.ref 47, .int p1, .int p2, .int p3, .int p4, .int p5] [.int r32] (lay t ex o m31) k _ _
                refine AW.goto (pc := 77) (tgt := 93) dX5_register_77 (by decide) ?_
                exact AW.iret (pc := 93) dX5_register_93 rfl rfl (by omega) (by omega) (hQ _ _ hw)
            · have hw := hw.2 c27
              refine AW.aload_n (pc := 57) dX5_register_57 rfl rfl ?_
              refine AW.iconst (v := 2) (pc := 58) dX5_register_58 (by decide) ?_
              refine AW.callV (pc := 59) (S' := []) dX5_register_59 (c_M_no (d := d - 1) ht (by omega) hw) ok_X5_no tw_863 ts_32 tw_861 (fix_pos (by decide)) (lay_at ht (by decide)) (show aw_cl[5]? = some _ from rfl) rfl rfl (by omega) rfl (Nat.le_of_ble_eq_true rfl) (by omega) (by omega) ?_ (fun E h' k' hq => by obtain ⟨rfl, r34, m33, hv, -⟩ := hq; cases hv)
              intro v h' k' hq
              obtain ⟨rfl, r34, m33, hv, rfl, hw⟩ := hq
              cases hv
              show AW _ _ _ _ _ _ _ 62 [.ref 47, .int p1, .int p2, .int p3, .int p4, .int p5] [.int r34] (lay t ex o m33) k _ _
              exact AW.iret (pc := 62) dX5_register_62 rfl rfl (by omega) (by omega) (hQ _ _ hw))
        refine AW.icmp_eq (pc := 29) (tgt := 46) dX5_register_29 (by decide) (fun c19 => ?_) (fun c19 => ?_)
        · have hw := hw.1 c19
          exact hw
        · have hw := hw.2 c19
          refine AW.iload (pc := 32) dX5_register_32 rfl ?_
          refine AW.callS (pc := 34) (S' := []) dX5_register_34 (c_M_isWire (d := d - 1) ht (by omega) hw) ok_X5_isWire tw_856 tw_855 rfl (by omega) rfl (Nat.le_of_ble_eq_true rfl) (by omega) (by omega) ?_ (fun E h' k' hq => by obtain ⟨rfl, r21, m20, hv, -⟩ := hq; cases hv)
          intro v h' k' hq
          obtain ⟨rfl, r21, m20, hv, rfl, hw⟩ := hq
          cases hv
          show AW _ _ _ _ _ _ _ 37 [.ref 47, .int p1, .int p2, .int p3, .int p4, .int p5] [.int r21] (lay t ex o m20) k _ _
          refine AW.if_ne (pc := 37) (tgt := 46) dX5_register_37 (by decide) (fun c22 => ?_) (fun c22 => ?_)
          · have hw := hw.1 c22
            exact hw
          · have hw := hw.2 c22
            refine AW.aload_n (pc := 40) dX5_register_40 rfl rfl ?_
            refine AW.iconst (v := 1) (pc := 41) dX5_register_41 (by decide) ?_
            refine AW.callV (pc := 42) (S' := []) dX5_register_42 (c_M_no (d := d - 1) ht (by omega) hw) ok_X5_no tw_863 ts_32 tw_861 (fix_pos (by decide)) (lay_at ht (by decide)) (show aw_cl[5]? = some _ from rfl) rfl rfl (by omega) rfl (Nat.le_of_ble_eq_true rfl) (by omega) (by omega) ?_ (fun E h' k' hq => by obtain ⟨rfl, r24, m23, hv, -⟩ := hq; cases hv)
            intro v h' k' hq
            obtain ⟨rfl, r24, m23, hv, rfl, hw⟩ := hq
            cases hv
            show AW _ _ _ _ _ _ _ 45 [.ref 47, .int p1, .int p2, .int p3, .int p4, .int p5] [.int r24] (lay t ex o m23) k _ _
            exact AW.iret (pc := 45) dX5_register_45 rfl rfl (by omega) (by omega) (hQ _ _ hw)
set_option maxRecDepth 100000 in
set_option maxHeartbeats 4000000 in
theorem c_M_register {d k t : Nat} {ex : Hp} {o : Nat → Int64} {K : Int32 → Mem → Prop} {m : Mem} {p1 : Int32} {p2 : Int32} {p3 : Int32} {p4 : Int32} {p5 : Int32} (ht : tok t) (hd : 4 ≤ d) (hw : w_M_register p1 p2 p3 p4 p5 m K) : AM mX5_register d [.ref 47, .int p1, .int p2, .int p3, .int p4, .int p5] (lay t ex o m) k 0 0 (fun oc h' k' => k = k' ∧ ∃ (r : Int32) (m' : Mem), oc = .inl (some (.int r)) ∧ h' = lay t ex o m' ∧ K r m') :=
  AM.intro (μ := mX5_register) (n := 0) (by decide) rfl rfl rfl (b_M_register ht hd (by omega) (by omega) (fun _ _ hK => ⟨rfl, _, _, rfl, rfl, hK⟩) p1 p2 p3 p4 p5 hw)
def w_M_setNow (p1 : Int32) (p2 : Int32) (m : Mem) (K : Int32 → Mem → Prop) : Prop :=
  w_M_valueOf p1 m (fun r2 m1 => w_M_beginCounting  m1 (fun m3 => ((r2 = p2 → K r2 m3) ∧ (¬ (r2 = p2) → w_M_change p1 p2 m3 (fun m5 => K r2 m5)))))
set_option maxRecDepth 100000 in
set_option maxHeartbeats 4000000 in
theorem b_M_setNow {Z : Gz} {d k0 mc ms cs ss k t : Nat} {Q : Po} {ex : Hp} {o : Nat → Int64} {K : Int32 → Mem → Prop}  (ht : tok t) (hd : 6 ≤ d) (hcs : cs + 0 ≤ mc) (hss : ss + 0 ≤ ms) (hQ : ∀ (r : Int32) (m : Mem), K r m → Q (.inl (some (.int r))) (lay t ex o m) k) {m : Mem} (p1 : Int32) (p2 : Int32) (hw : w_M_setNow p1 p2 m K) : AW Z mX5_setNow d k0 mc ms Q 0 [.ref 47, .int p1, .int p2, .null] [] (lay t ex o m) k cs ss := by
  unfold w_M_setNow at hw
  refine AW.aload_n (pc := 0) dX5_setNow_0 rfl rfl ?_
  refine AW.iload_n (pc := 1) dX5_setNow_1 rfl rfl ?_
  refine AW.callV (pc := 2) (S' := []) dX5_setNow_2 (c_M_valueOf (d := d - 1) ht (by omega) hw) ok_X5_valueOf tw_990 ts_50 tw_988 (fix_pos (by decide)) (lay_at ht (by decide)) (show aw_cl[5]? = some _ from rfl) rfl rfl (by omega) rfl (Nat.le_of_ble_eq_true rfl) (by omega) (by omega) ?_ (fun E h' k' hq => by obtain ⟨rfl, r2, m1, hv, -⟩ := hq; cases hv)
  intro v h' k' hq
  obtain ⟨rfl, r2, m1, hv, rfl, hw⟩ := hq
  cases hv
  show AW _ _ _ _ _ _ _ 5 [.ref 47, .int p1, .int p2, .null] [.int r2] (lay t ex o m1) k _ _
  refine AW.istore_n (L' := [.ref 47, .int p1, .int p2, .int r2]) (pc := 5) dX5_setNow_5 rfl (by decide) rfl rfl ?_
  refine AW.aload_n (pc := 6) dX5_setNow_6 rfl rfl ?_
  refine AW.callV (pc := 7) (S' := []) dX5_setNow_7 (c_M_beginCounting (d := d - 1) ht (by omega) hw) ok_X5_beginCounting tw_1040 ts_60 tw_1038 (fix_pos (by decide)) (lay_at ht (by decide)) (show aw_cl[5]? = some _ from rfl) rfl rfl (by omega) rfl (Nat.le_of_ble_eq_true rfl) (by omega) (by omega) ?_ (fun E h' k' hq => by obtain ⟨rfl, m3, hv, -⟩ := hq; cases hv)
  intro v h' k' hq
  obtain ⟨rfl, m3, hv, rfl, hw⟩ := hq
  cases hv
  show AW _ _ _ _ _ _ _ 10 [.ref 47, .int p1, .int p2, .int r2] [] (lay t ex o m3) k _ _
  refine AW.iload_n (pc := 10) dX5_setNow_10 rfl rfl ?_
  refine AW.iload_n (pc := 11) dX5_setNow_11 rfl rfl ?_
  refine AW.icmp_eq (pc := 12) (tgt := 21) dX5_setNow_12 (by decide) (fun c4 => ?_) (fun c4 => ?_)
  · have hw := hw.1 c4
    refine AW.iload_n (pc := 21) dX5_setNow_21 rfl rfl ?_
    exact AW.iret (pc := 22) dX5_setNow_22 rfl rfl (by omega) (by omega) (hQ _ _ hw)
  · have hw := hw.2 c4
    refine AW.aload_n (pc := 15) dX5_setNow_15 rfl rfl ?_
    refine AW.iload_n (pc := 16) dX5_setNow_16 rfl rfl ?_
    refine AW.iload_n (pc := 17) dX5_setNow_17 rfl rfl ?_
    refine AW.callV (pc := 18) (S' := []) dX5_setNow_18 (c_M_change (d := d - 1) ht (by omega) hw) ok_X5_change tw_986 ts_49 tw_984 (fix_pos (by decide)) (lay_at ht (by decide)) (show aw_cl[5]? = some _ from rfl) rfl rfl (by omega) rfl (Nat.le_of_ble_eq_true rfl) (by omega) (by omega) ?_ (fun E h' k' hq => by obtain ⟨rfl, m5, hv, -⟩ := hq; cases hv)
    intro v h' k' hq
    obtain ⟨rfl, m5, hv, rfl, hw⟩ := hq
    cases hv
    show AW _ _ _ _ _ _ _ 21 [.ref 47, .int p1, .int p2, .int r2] [] (lay t ex o m5) k _ _
    refine AW.iload_n (pc := 21) dX5_setNow_21 rfl rfl ?_
    exact AW.iret (pc := 22) dX5_setNow_22 rfl rfl (by omega) (by omega) (hQ _ _ hw)
set_option maxRecDepth 100000 in
set_option maxHeartbeats 4000000 in
theorem c_M_setNow {d k t : Nat} {ex : Hp} {o : Nat → Int64} {K : Int32 → Mem → Prop} {m : Mem} {p1 : Int32} {p2 : Int32} (ht : tok t) (hd : 6 ≤ d) (hw : w_M_setNow p1 p2 m K) : AM mX5_setNow d [.ref 47, .int p1, .int p2] (lay t ex o m) k 0 0 (fun oc h' k' => k = k' ∧ ∃ (r : Int32) (m' : Mem), oc = .inl (some (.int r)) ∧ h' = lay t ex o m' ∧ K r m') :=
  AM.intro (μ := mX5_setNow) (n := 1) (by decide) rfl rfl rfl (b_M_setNow ht hd (by omega) (by omega) (fun _ _ hK => ⟨rfl, _, _, rfl, rfl, hK⟩) p1 p2 hw)
def w_M_set (p1 : Int32) (p2 : Int32) (m : Mem) (K : Int32 → Mem → Prop) : Prop :=
  w_M_asked p1 p2 (0 : Int32) m (fun r2 m1 => ∀ m3 : Mem, m3 = up2 m1 47 0 r2 → ((¬ ((m3 47 0) = 0) → K (0 : Int32) m3) ∧ ((m3 47 0) = 0 → w_M_setNow p1 p2 m3 (fun r6 m5 => K r6 m5))))
set_option maxRecDepth 100000 in
set_option maxHeartbeats 4000000 in
theorem b_M_set {Z : Gz} {d k0 mc ms cs ss k t : Nat} {Q : Po} {ex : Hp} {o : Nat → Int64} {K : Int32 → Mem → Prop}  (ht : tok t) (hd : 7 ≤ d) (hcs : cs + 0 ≤ mc) (hss : ss + 0 ≤ ms) (hQ : ∀ (r : Int32) (m : Mem), K r m → Q (.inl (some (.int r))) (lay t ex o m) k) {m : Mem} (p1 : Int32) (p2 : Int32) (hw : w_M_set p1 p2 m K) : AW Z mX5_set d k0 mc ms Q 0 [.ref 47, .int p1, .int p2] [] (lay t ex o m) k cs ss := by
  unfold w_M_set at hw
  refine AW.aload_n (pc := 0) dX5_set_0 rfl rfl ?_
  refine AW.aload_n (pc := 1) dX5_set_1 rfl rfl ?_
  refine AW.iload_n (pc := 2) dX5_set_2 rfl rfl ?_
  refine AW.iload_n (pc := 3) dX5_set_3 rfl rfl ?_
  refine AW.iconst (v := 0) (pc := 4) dX5_set_4 (by decide) ?_
  refine AW.callV (pc := 5) (S' := [.ref 47]) dX5_set_5 (c_M_asked (d := d - 1) ht (by omega) hw) ok_X5_asked tw_1028 ts_57 tw_1026 (fix_pos (by decide)) (lay_at ht (by decide)) (show aw_cl[5]? = some _ from rfl) rfl rfl (by omega) rfl (Nat.le_of_ble_eq_true rfl) (by omega) (by omega) ?_ (fun E h' k' hq => by obtain ⟨rfl, r2, m1, hv, -⟩ := hq; cases hv)
  intro v h' k' hq
  obtain ⟨rfl, r2, m1, hv, rfl, hw⟩ := hq
  cases hv
  show AW _ _ _ _ _ _ _ 8 [.ref 47, .int p1, .int p2] [.int r2, .ref 47] (lay t ex o m1) k _ _
  have hw := hw _ rfl
  refine LW.put (pc := 8) (f := 0) (ci := 5) (T := TX5) ht (by decide) rfl sp_47_0 dX5_set_8 tw_798 rfl (by decide) (Nat.le_of_ble_eq_true rfl) rfl ⟨rfl, rfl⟩ ?_
  generalize up2 m1 47 0 r2 = m3 at hw ⊢
  refine AW.aload_n (pc := 11) dX5_set_11 rfl rfl ?_
  refine LW.get (pc := 12) (f := 0) (ci := 5) (T := TX5) ht (by decide) rfl dX5_set_12 tw_798 rfl (by decide) rfl ?_
  refine AW.if_ne (pc := 15) (tgt := 27) dX5_set_15 (by decide) (fun c4 => ?_) (fun c4 => ?_)
  · have hw := hw.1 c4
    refine AW.iconst (v := 0) (pc := 27) dX5_set_27 (by decide) ?_
    exact AW.iret (pc := 28) dX5_set_28 rfl rfl (by omega) (by omega) (hQ _ _ hw)
  · have hw := hw.2 c4
    refine AW.aload_n (pc := 18) dX5_set_18 rfl rfl ?_
    refine AW.iload_n (pc := 19) dX5_set_19 rfl rfl ?_
    refine AW.iload_n (pc := 20) dX5_set_20 rfl rfl ?_
    refine AW.callV (pc := 21) (S' := []) dX5_set_21 (c_M_setNow (d := d - 1) ht (by omega) hw) ok_X5_setNow tw_1036 ts_59 tw_1034 (fix_pos (by decide)) (lay_at ht (by decide)) (show aw_cl[5]? = some _ from rfl) rfl rfl (by omega) rfl (Nat.le_of_ble_eq_true rfl) (by omega) (by omega) ?_ (fun E h' k' hq => by obtain ⟨rfl, r6, m5, hv, -⟩ := hq; cases hv)
    intro v h' k' hq
    obtain ⟨rfl, r6, m5, hv, rfl, hw⟩ := hq
    cases hv
    show AW _ _ _ _ _ _ _ 24 [.ref 47, .int p1, .int p2] [.int r6] (lay t ex o m5) k _ _
    refine AW.goto (pc := 24) (tgt := 28) dX5_set_24 (by decide) ?_
    exact AW.iret (pc := 28) dX5_set_28 rfl rfl (by omega) (by omega) (hQ _ _ hw)
set_option maxRecDepth 100000 in
set_option maxHeartbeats 4000000 in
theorem c_M_set {d k t : Nat} {ex : Hp} {o : Nat → Int64} {K : Int32 → Mem → Prop} {m : Mem} {p1 : Int32} {p2 : Int32} (ht : tok t) (hd : 7 ≤ d) (hw : w_M_set p1 p2 m K) : AM mX5_set d [.ref 47, .int p1, .int p2] (lay t ex o m) k 0 0 (fun oc h' k' => k = k' ∧ ∃ (r : Int32) (m' : Mem), oc = .inl (some (.int r)) ∧ h' = lay t ex o m' ∧ K r m') :=
  AM.intro (μ := mX5_set) (n := 0) (by decide) rfl rfl rfl (b_M_set ht hd (by omega) (by omega) (fun _ _ hK => ⟨rfl, _, _, rfl, rfl, hK⟩) p1 p2 hw)
def w_M_setDelay (p1 : Int32) (p2 : Int32) (m : Mem) (K : Int32 → Mem → Prop) : Prop :=
  ∀ m1 : Mem, m1 = up2 m 47 0 (0 : Int32) → w_M_isLine p1 m1 (fun r3 m2 => ((¬ (r3 = 0) → vp_in p1 30 ∧ (((m2 48 (p1).toNatClampNeg) = (-1 : Int32) → w_M_no (2 : Int32) m2 (fun r7 m6 => K r7 m6)) ∧ (¬ ((m2 48 (p1).toNatClampNeg) = (-1 : Int32)) → w_M_isIn p2 (0 : Int32) (20 : Int32) m2 (fun r9 m8 => ((¬ (r9 = 0) → vp_in p1 30 ∧ vp_in p1 30 ∧ ∀ m11 : Mem, m11 = up2 m8 53 (p1.toNatClampNeg) p2 → K (m8 53 (p1).toNatClampNeg) m11) ∧ (r9 = 0 → w_M_no (2 : Int32) m8 (fun r13 m12 => K r13 m12))))))) ∧ (r3 = 0 → w_M_no (1 : Int32) m2 (fun r15 m14 => K r15 m14))))
set_option maxRecDepth 100000 in
set_option maxHeartbeats 4000000 in
theorem b_M_setDelay {Z : Gz} {d k0 mc ms cs ss k t : Nat} {Q : Po} {ex : Hp} {o : Nat → Int64} {K : Int32 → Mem → Prop}  (ht : tok t) (hd : 4 ≤ d) (hcs : cs + 0 ≤ mc) (hss : ss + 0 ≤ ms) (hQ : ∀ (r : Int32) (m : Mem), K r m → Q (.inl (some (.int r))) (lay t ex o m) k) {m : Mem} (p1 : Int32) (p2 : Int32) (hw : w_M_setDelay p1 p2 m K) : AW Z mX5_setDelay d k0 mc ms Q 0 [.ref 47, .int p1, .int p2, .null] [] (lay t ex o m) k cs ss := by
  unfold w_M_setDelay at hw
  refine AW.aload_n (pc := 0) dX5_setDelay_0 rfl rfl ?_
  refine AW.iconst (v := 0) (pc := 1) dX5_setDelay_1 (by decide) ?_
  have hw := hw _ rfl
  refine LW.put (pc := 2) (f := 0) (ci := 5) (T := TX5) ht (by decide) rfl sp_47_0 dX5_setDelay_2 tw_798 rfl (by decide) (Nat.le_of_ble_eq_true rfl) rfl ⟨rfl, rfl⟩ ?_
  generalize up2 m 47 0 (0 : Int32) = m1 at hw ⊢
  refine AW.aload_n (pc := 5) dX5_setDelay_5 rfl rfl ?_
  refine AW.iload_n (pc := 6) dX5_setDelay_6 rfl rfl ?_
  refine AW.callV (pc := 7) (S' := []) dX5_setDelay_7 (c_M_isLine (d := d - 1) ht (by omega) hw) ok_X5_isLine tw_886 ts_34 tw_884 (fix_pos (by decide)) (lay_at ht (by decide)) (show aw_cl[5]? = some _ from rfl) rfl rfl (by omega) rfl (Nat.le_of_ble_eq_true rfl) (by omega) (by omega) ?_ (fun E h' k' hq => by obtain ⟨rfl, r3, m2, hv, -⟩ := hq; cases hv)
  intro v h' k' hq
  obtain ⟨rfl, r3, m2, hv, rfl, hw⟩ := hq
  cases hv
  show AW _ _ _ _ _ _ _ 10 [.ref 47, .int p1, .int p2, .null] [.int r3] (lay t ex o m2) k _ _
  refine AW.if_ne (pc := 10) (tgt := 19) dX5_setDelay_10 (by decide) (fun c4 => ?_) (fun c4 => ?_)
  · have hw := hw.1 c4
    refine AW.aload_n (pc := 19) dX5_setDelay_19 rfl rfl ?_
    refine LW.get (pc := 20) (f := 2) (ci := 5) (T := TX5) ht (by decide) rfl dX5_setDelay_20 tw_800 rfl (by decide) rfl ?_
    refine AW.iload_n (pc := 23) dX5_setDelay_23 rfl rfl ?_
    obtain ⟨hin, hw⟩ := hw
    refine LW.iald (pc := 24) (j := p1.toNatClampNeg) ht (by decide) rfl dX5_setDelay_24 hin rfl ?_
    refine AW.iconst (v := -1) (pc := 25) dX5_setDelay_25 (by decide) ?_
    refine AW.icmp_eq (pc := 26) (tgt := 39) dX5_setDelay_26 (by decide) (fun c5 => ?_) (fun c5 => ?_)
    · have hw := hw.1 c5
      refine AW.aload_n (pc := 39) dX5_setDelay_39 rfl rfl ?_
      refine AW.iconst (v := 2) (pc := 40) dX5_setDelay_40 (by decide) ?_
      refine AW.callV (pc := 41) (S' := []) dX5_setDelay_41 (c_M_no (d := d - 1) ht (by omega) hw) ok_X5_no tw_863 ts_32 tw_861 (fix_pos (by decide)) (lay_at ht (by decide)) (show aw_cl[5]? = some _ from rfl) rfl rfl (by omega) rfl (Nat.le_of_ble_eq_true rfl) (by omega) (by omega) ?_ (fun E h' k' hq => by obtain ⟨rfl, r7, m6, hv, -⟩ := hq; cases hv)
      intro v h' k' hq
      obtain ⟨rfl, r7, m6, hv, rfl, hw⟩ := hq
      cases hv
      show AW _ _ _ _ _ _ _ 44 [.ref 47, .int p1, .int p2, .null] [.int r7] (lay t ex o m6) k _ _
      exact AW.iret (pc := 44) dX5_setDelay_44 rfl rfl (by omega) (by omega) (hQ _ _ hw)
    · have hw := hw.2 c5
      refine AW.iload_n (pc := 29) dX5_setDelay_29 rfl rfl ?_
      refine AW.iconst (v := 0) (pc := 30) dX5_setDelay_30 (by decide) ?_
      refine AW.bipush (v := 20) (pc := 31) dX5_setDelay_31 (by decide) ?_
      refine AW.callS (pc := 33) (S' := []) dX5_setDelay_33 (c_M_isIn (d := d - 1) ht (by omega) hw) ok_X5_isIn tw_859 tw_858 rfl (by omega) rfl (Nat.le_of_ble_eq_true rfl) (by omega) (by omega) ?_ (fun E h' k' hq => by obtain ⟨rfl, r9, m8, hv, -⟩ := hq; cases hv)
      intro v h' k' hq
      obtain ⟨rfl, r9, m8, hv, rfl, hw⟩ := hq
      cases hv
      show AW _ _ _ _ _ _ _ 36 [.ref 47, .int p1, .int p2, .null] [.int r9] (lay t ex o m8) k _ _
      refine AW.if_ne (pc := 36) (tgt := 45) dX5_setDelay_36 (by decide) (fun c10 => ?_) (fun c10 => ?_)
      · have hw := hw.1 c10
        refine AW.aload_n (pc := 45) dX5_setDelay_45 rfl rfl ?_
        refine LW.get (pc := 46) (f := 7) (ci := 5) (T := TX5) ht (by decide) rfl dX5_setDelay_46 tw_805 rfl (by decide) rfl ?_
        refine AW.iload_n (pc := 49) dX5_setDelay_49 rfl rfl ?_
        obtain ⟨hin, hw⟩ := hw
        refine LW.iald (pc := 50) (j := p1.toNatClampNeg) ht (by decide) rfl dX5_setDelay_50 hin rfl ?_
        refine AW.istore_n (L' := [.ref 47, .int p1, .int p2, .int (m8 53 (p1).toNatClampNeg)]) (pc := 51) dX5_setDelay_51 rfl (by decide) rfl rfl ?_
        refine AW.aload_n (pc := 52) dX5_setDelay_52 rfl rfl ?_
        refine LW.get (pc := 53) (f := 7) (ci := 5) (T := TX5) ht (by decide) rfl dX5_setDelay_53 tw_805 rfl (by decide) rfl ?_
        refine AW.iload_n (pc := 56) dX5_setDelay_56 rfl rfl ?_
        refine AW.iload_n (pc := 57) dX5_setDelay_57 rfl rfl ?_
        obtain ⟨hin, hw⟩ := hw
        have hw := hw _ rfl
        refine LW.iast (pc := 58) (j := p1.toNatClampNeg) ht (by decide) (fun _ => rfl) dX5_setDelay_58 hin rfl ?_
        generalize up2 m8 53 (p1.toNatClampNeg) p2 = m11 at hw ⊢
        refine AW.iload_n (pc := 59) dX5_setDelay_59 rfl rfl ?_
        exact AW.iret (pc := 60) dX5_setDelay_60 rfl rfl (by omega) (by omega) (hQ _ _ hw)
      · have hw := hw.2 c10
        refine AW.aload_n (pc := 39) dX5_setDelay_39 rfl rfl ?_
        refine AW.iconst (v := 2) (pc := 40) dX5_setDelay_40 (by decide) ?_
        refine AW.callV (pc := 41) (S' := []) dX5_setDelay_41 (c_M_no (d := d - 1) ht (by omega) hw) ok_X5_no tw_863 ts_32 tw_861 (fix_pos (by decide)) (lay_at ht (by decide)) (show aw_cl[5]? = some _ from rfl) rfl rfl (by omega) rfl (Nat.le_of_ble_eq_true rfl) (by omega) (by omega) ?_ (fun E h' k' hq => by obtain ⟨rfl, r13, m12, hv, -⟩ := hq; cases hv)
        intro v h' k' hq
        obtain ⟨rfl, r13, m12, hv, rfl, hw⟩ := hq
        cases hv
        show AW _ _ _ _ _ _ _ 44 [.ref 47, .int p1, .int p2, .null] [.int r13] (lay t ex o m12) k _ _
        exact AW.iret (pc := 44) dX5_setDelay_44 rfl rfl (by omega) (by omega) (hQ _ _ hw)
  · have hw := hw.2 c4
    refine AW.aload_n (pc := 13) dX5_setDelay_13 rfl rfl ?_
    refine AW.iconst (v := 1) (pc := 14) dX5_setDelay_14 (by decide) ?_
    refine AW.callV (pc := 15) (S' := []) dX5_setDelay_15 (c_M_no (d := d - 1) ht (by omega) hw) ok_X5_no tw_863 ts_32 tw_861 (fix_pos (by decide)) (lay_at ht (by decide)) (show aw_cl[5]? = some _ from rfl) rfl rfl (by omega) rfl (Nat.le_of_ble_eq_true rfl) (by omega) (by omega) ?_ (fun E h' k' hq => by obtain ⟨rfl, r15, m14, hv, -⟩ := hq; cases hv)
    intro v h' k' hq
    obtain ⟨rfl, r15, m14, hv, rfl, hw⟩ := hq
    cases hv
    show AW _ _ _ _ _ _ _ 18 [.ref 47, .int p1, .int p2, .null] [.int r15] (lay t ex o m14) k _ _
    exact AW.iret (pc := 18) dX5_setDelay_18 rfl rfl (by omega) (by omega) (hQ _ _ hw)
set_option maxRecDepth 100000 in
set_option maxHeartbeats 4000000 in
theorem c_M_setDelay {d k t : Nat} {ex : Hp} {o : Nat → Int64} {K : Int32 → Mem → Prop} {m : Mem} {p1 : Int32} {p2 : Int32} (ht : tok t) (hd : 4 ≤ d) (hw : w_M_setDelay p1 p2 m K) : AM mX5_setDelay d [.ref 47, .int p1, .int p2] (lay t ex o m) k 0 0 (fun oc h' k' => k = k' ∧ ∃ (r : Int32) (m' : Mem), oc = .inl (some (.int r)) ∧ h' = lay t ex o m' ∧ K r m') :=
  AM.intro (μ := mX5_setDelay) (n := 1) (by decide) rfl rfl rfl (b_M_setDelay ht hd (by omega) (by omega) (fun _ _ hK => ⟨rfl, _, _, rfl, rfl, hK⟩) p1 p2 hw)
def w_M_setWindow (p1 : Int32) (p2 : Int32) (p3 : Int32) (m : Mem) (K : Int32 → Mem → Prop) : Prop :=
  ∀ m1 : Mem, m1 = up2 m 47 0 (0 : Int32) → w_M_isLine p1 m1 (fun r3 m2 => ((¬ (r3 = 0) → vp_in p1 30 ∧ ((¬ ((m2 48 (p1).toNatClampNeg) = (-2 : Int32)) → w_M_no (2 : Int32) m2 (fun r7 m6 => K r7 m6)) ∧ ((m2 48 (p1).toNatClampNeg) = (-2 : Int32) → w_M_isIn p2 (0 : Int32) (20 : Int32) m2 (fun r9 m8 => ((r9 = 0 → w_M_no (2 : Int32) m8 (fun r12 m11 => K r12 m11)) ∧ (¬ (r9 = 0) → w_M_isIn p3 (0 : Int32) (20 : Int32) m8 (fun r14 m13 => ((¬ (r14 = 0) → vp_in p1 30 ∧ vp_in p1 30 ∧ ∀ m16 : Mem, m16 = up2 m13 54 (p1.toNatClampNeg) p2 → vp_in p1 30 ∧ ∀ m17 : Mem, m17 = up2 m16 55 (p1.toNatClampNeg) p3 → K (m13 54 (p1).toNatClampNeg) m17) ∧ (r14 = 0 → w_M_no (2 : Int32) m13 (fun r19 m18 => K r19 m18)))))))))) ∧ (r3 = 0 → w_M_no (1 : Int32) m2 (fun r21 m20 => K r21 m20))))
set_option maxRecDepth 100000 in
set_option maxHeartbeats 4000000 in
theorem b_M_setWindow {Z : Gz} {d k0 mc ms cs ss k t : Nat} {Q : Po} {ex : Hp} {o : Nat → Int64} {K : Int32 → Mem → Prop}  (ht : tok t) (hd : 4 ≤ d) (hcs : cs + 0 ≤ mc) (hss : ss + 0 ≤ ms) (hQ : ∀ (r : Int32) (m : Mem), K r m → Q (.inl (some (.int r))) (lay t ex o m) k) {m : Mem} (p1 : Int32) (p2 : Int32) (p3 : Int32) (hw : w_M_setWindow p1 p2 p3 m K) : AW Z mX5_setWindow d k0 mc ms Q 0 [.ref 47, .int p1, .int p2, .int p3, .null] [] (lay t ex o m) k cs ss := by
  unfold w_M_setWindow at hw
  refine AW.aload_n (pc := 0) dX5_setWindow_0 rfl rfl ?_
  refine AW.iconst (v := 0) (pc := 1) dX5_setWindow_1 (by decide) ?_
  have hw := hw _ rfl
  refine LW.put (pc := 2) (f := 0) (ci := 5) (T := TX5) ht (by decide) rfl sp_47_0 dX5_setWindow_2 tw_798 rfl (by decide) (Nat.le_of_ble_eq_true rfl) rfl ⟨rfl, rfl⟩ ?_
  generalize up2 m 47 0 (0 : Int32) = m1 at hw ⊢
  refine AW.aload_n (pc := 5) dX5_setWindow_5 rfl rfl ?_
  refine AW.iload_n (pc := 6) dX5_setWindow_6 rfl rfl ?_
  refine AW.callV (pc := 7) (S' := []) dX5_setWindow_7 (c_M_isLine (d := d - 1) ht (by omega) hw) ok_X5_isLine tw_886 ts_34 tw_884 (fix_pos (by decide)) (lay_at ht (by decide)) (show aw_cl[5]? = some _ from rfl) rfl rfl (by omega) rfl (Nat.le_of_ble_eq_true rfl) (by omega) (by omega) ?_ (fun E h' k' hq => by obtain ⟨rfl, r3, m2, hv, -⟩ := hq; cases hv)
  intro v h' k' hq
  obtain ⟨rfl, r3, m2, hv, rfl, hw⟩ := hq
  cases hv
  show AW _ _ _ _ _ _ _ 10 [.ref 47, .int p1, .int p2, .int p3, .null] [.int r3] (lay t ex o m2) k _ _
  refine AW.if_ne (pc := 10) (tgt := 19) dX5_setWindow_10 (by decide) (fun c4 => ?_) (fun c4 => ?_)
  · have hw := hw.1 c4
    refine AW.aload_n (pc := 19) dX5_setWindow_19 rfl rfl ?_
    refine LW.get (pc := 20) (f := 2) (ci := 5) (T := TX5) ht (by decide) rfl dX5_setWindow_20 tw_800 rfl (by decide) rfl ?_
    refine AW.iload_n (pc := 23) dX5_setWindow_23 rfl rfl ?_
    obtain ⟨hin, hw⟩ := hw
    refine LW.iald (pc := 24) (j := p1.toNatClampNeg) ht (by decide) rfl dX5_setWindow_24 hin rfl ?_
    refine AW.bipush (v := -2) (pc := 25) dX5_setWindow_25 (by decide) ?_
    refine AW.icmp_ne (pc := 27) (tgt := 50) dX5_setWindow_27 (by decide) (fun c5 => ?_) (fun c5 => ?_)
    · have hw := hw.1 c5
      refine AW.aload_n (pc := 50) dX5_setWindow_50 rfl rfl ?_
      refine AW.iconst (v := 2) (pc := 51) dX5_setWindow_51 (by decide) ?_
      refine AW.callV (pc := 52) (S' := []) dX5_setWindow_52 (c_M_no (d := d - 1) ht (by omega) hw) ok_X5_no tw_863 ts_32 tw_861 (fix_pos (by decide)) (lay_at ht (by decide)) (show aw_cl[5]? = some _ from rfl) rfl rfl (by omega) rfl (Nat.le_of_ble_eq_true rfl) (by omega) (by omega) ?_ (fun E h' k' hq => by obtain ⟨rfl, r7, m6, hv, -⟩ := hq; cases hv)
      intro v h' k' hq
      obtain ⟨rfl, r7, m6, hv, rfl, hw⟩ := hq
      cases hv
      show AW _ _ _ _ _ _ _ 55 [.ref 47, .int p1, .int p2, .int p3, .null] [.int r7] (lay t ex o m6) k _ _
      exact AW.iret (pc := 55) dX5_setWindow_55 rfl rfl (by omega) (by omega) (hQ _ _ hw)
    · have hw := hw.2 c5
      refine AW.iload_n (pc := 30) dX5_setWindow_30 rfl rfl ?_
      refine AW.iconst (v := 0) (pc := 31) dX5_setWindow_31 (by decide) ?_
      refine AW.bipush (v := 20) (pc := 32) dX5_setWindow_32 (by decide) ?_
      refine AW.callS (pc := 34) (S' := []) dX5_setWindow_34 (c_M_isIn (d := d - 1) ht (by omega) hw) ok_X5_isIn tw_859 tw_858 rfl (by omega) rfl (Nat.le_of_ble_eq_true rfl) (by omega) (by omega) ?_ (fun E h' k' hq => by obtain ⟨rfl, r9, m8, hv, -⟩ := hq; cases hv)
      intro v h' k' hq
      obtain ⟨rfl, r9, m8, hv, rfl, hw⟩ := hq
      cases hv
      show AW _ _ _ _ _ _ _ 37 [.ref 47, .int p1, .int p2, .int p3, .null] [.int r9] (lay t ex o m8) k _ _
      refine AW.if_eq (pc := 37) (tgt := 50) dX5_setWindow_37 (by decide) (fun c10 => ?_) (fun c10 => ?_)
      · have hw := hw.1 c10
        refine AW.aload_n (pc := 50) dX5_setWindow_50 rfl rfl ?_
        refine AW.iconst (v := 2) (pc := 51) dX5_setWindow_51 (by decide) ?_
        refine AW.callV (pc := 52) (S' := []) dX5_setWindow_52 (c_M_no (d := d - 1) ht (by omega) hw) ok_X5_no tw_863 ts_32 tw_861 (fix_pos (by decide)) (lay_at ht (by decide)) (show aw_cl[5]? = some _ from rfl) rfl rfl (by omega) rfl (Nat.le_of_ble_eq_true rfl) (by omega) (by omega) ?_ (fun E h' k' hq => by obtain ⟨rfl, r12, m11, hv, -⟩ := hq; cases hv)
        intro v h' k' hq
        obtain ⟨rfl, r12, m11, hv, rfl, hw⟩ := hq
        cases hv
        show AW _ _ _ _ _ _ _ 55 [.ref 47, .int p1, .int p2, .int p3, .null] [.int r12] (lay t ex o m11) k _ _
        exact AW.iret (pc := 55) dX5_setWindow_55 rfl rfl (by omega) (by omega) (hQ _ _ hw)
      · have hw := hw.2 c10
        refine AW.iload_n (pc := 40) dX5_setWindow_40 rfl rfl ?_
        refine AW.iconst (v := 0) (pc := 41) dX5_setWindow_41 (by decide) ?_
        refine AW.bipush (v := 20) (pc := 42) dX5_setWindow_42 (by decide) ?_
        refine AW.callS (pc := 44) (S' := []) dX5_setWindow_44 (c_M_isIn (d := d - 1) ht (by omega) hw) ok_X5_isIn tw_859 tw_858 rfl (by omega) rfl (Nat.le_of_ble_eq_true rfl) (by omega) (by omega) ?_ (fun E h' k' hq => by obtain ⟨rfl, r14, m13, hv, -⟩ := hq; cases hv)
        intro v h' k' hq
        obtain ⟨rfl, r14, m13, hv, rfl, hw⟩ := hq
        cases hv
        show AW _ _ _ _ _ _ _ 47 [.ref 47, .int p1, .int p2, .int p3, .null] [.int r14] (lay t ex o m13) k _ _
        refine AW.if_ne (pc := 47) (tgt := 56) dX5_setWindow_47 (by decide) (fun c15 => ?_) (fun c15 => ?_)
        · have hw := hw.1 c15
          refine AW.aload_n (pc := 56) dX5_setWindow_56 rfl rfl ?_
          refine LW.get (pc := 57) (f := 8) (ci := 5) (T := TX5) ht (by decide) rfl dX5_setWindow_57 tw_806 rfl (by decide) rfl ?_
          refine AW.iload_n (pc := 60) dX5_setWindow_60 rfl rfl ?_
          obtain ⟨hin, hw⟩ := hw
          refine LW.iald (pc := 61) (j := p1.toNatClampNeg) ht (by decide) rfl dX5_setWindow_61 hin rfl ?_
          refine AW.istore (L' := [.ref 47, .int p1, .int p2, .int p3, .int (m13 54 (p1).toNatClampNeg)]) (pc := 62) dX5_setWindow_62 (by decide) rfl rfl ?_
          refine AW.aload_n (pc := 64) dX5_setWindow_64 rfl rfl ?_
          refine LW.get (pc := 65) (f := 8) (ci := 5) (T := TX5) ht (by decide) rfl dX5_setWindow_65 tw_806 rfl (by decide) rfl ?_
          refine AW.iload_n (pc := 68) dX5_setWindow_68 rfl rfl ?_
          refine AW.iload_n (pc := 69) dX5_setWindow_69 rfl rfl ?_
          obtain ⟨hin, hw⟩ := hw
          have hw := hw _ rfl
          refine LW.iast (pc := 70) (j := p1.toNatClampNeg) ht (by decide) (fun _ => rfl) dX5_setWindow_70 hin rfl ?_
          generalize up2 m13 54 (p1.toNatClampNeg) p2 = m16 at hw ⊢
          refine AW.aload_n (pc := 71) dX5_setWindow_71 rfl rfl ?_
          refine LW.get (pc := 72) (f := 9) (ci := 5) (T := TX5) ht (by decide) rfl dX5_setWindow_72 tw_807 rfl (by decide) rfl ?_
          refine AW.iload_n (pc := 75) dX5_setWindow_75 rfl rfl ?_
          refine AW.iload_n (pc := 76) dX5_setWindow_76 rfl rfl ?_
          obtain ⟨hin, hw⟩ := hw
          have hw := hw _ rfl
          refine LW.iast (pc := 77) (j := p1.toNatClampNeg) ht (by decide) (fun _ => rfl) dX5_setWindow_77 hin rfl ?_
          generalize up2 m16 55 (p1.toNatClampNeg) p3 = m17 at hw ⊢
          refine AW.iload (pc := 78) dX5_setWindow_78 rfl ?_
          exact AW.iret (pc := 80) dX5_setWindow_80 rfl rfl (by omega) (by omega) (hQ _ _ hw)
        · have hw := hw.2 c15
          refine AW.aload_n (pc := 50) dX5_setWindow_50 rfl rfl ?_
          refine AW.iconst (v := 2) (pc := 51) dX5_setWindow_51 (by decide) ?_
          refine AW.callV (pc := 52) (S' := []) dX5_setWindow_52 (c_M_no (d := d - 1) ht (by omega) hw) ok_X5_no tw_863 ts_32 tw_861 (fix_pos (by decide)) (lay_at ht (by decide)) (show aw_cl[5]? = some _ from rfl) rfl rfl (by omega) rfl (Nat.le_of_ble_eq_true rfl) (by omega) (by omega) ?_ (fun E h' k' hq => by obtain ⟨rfl, r19, m18, hv, -⟩ := hq; cases hv)
          intro v h' k' hq
          obtain ⟨rfl, r19, m18, hv, rfl, hw⟩ := hq
          cases hv
          show AW _ _ _ _ _ _ _ 55 [.ref 47, .int p1, .int p2, .int p3, .null] [.int r19] (lay t ex o m18) k _ _
          exact AW.iret (pc := 55) dX5_setWindow_55 rfl rfl (by omega) (by omega) (hQ _ _ hw)
  · have hw := hw.2 c4
    refine AW.aload_n (pc := 13) dX5_setWindow_13 rfl rfl ?_
    refine AW.iconst (v := 1) (pc := 14) dX5_setWindow_14 (by decide) ?_
    refine AW.callV (pc := 15) (S' := []) dX5_setWindow_15 (c_M_no (d := d - 1) ht (by omega) hw) ok_X5_no tw_863 ts_32 tw_861 (fix_pos (by decide)) (lay_at ht (by decide)) (show aw_cl[5]? = some _ from rfl) rfl rfl (by omega) rfl (Nat.le_of_ble_eq_true rfl) (by omega) (by omega) ?_ (fun E h' k' hq => by obtain ⟨rfl, r21, m20, hv, -⟩ := hq; cases hv)
    intro v h' k' hq
    obtain ⟨rfl, r21, m20, hv, rfl, hw⟩ := hq
    cases hv
    show AW _ _ _ _ _ _ _ 18 [.ref 47, .int p1, .int p2, .int p3, .null] [.int r21] (lay t ex o m20) k _ _
    exact AW.iret (pc := 18) dX5_setWindow_18 rfl rfl (by omega) (by omega) (hQ _ _ hw)
set_option maxRecDepth 100000 in
set_option maxHeartbeats 4000000 in
theorem c_M_setWindow {d k t : Nat} {ex : Hp} {o : Nat → Int64} {K : Int32 → Mem → Prop} {m : Mem} {p1 : Int32} {p2 : Int32} {p3 : Int32} (ht : tok t) (hd : 4 ≤ d) (hw : w_M_setWindow p1 p2 p3 m K) : AM mX5_setWindow d [.ref 47, .int p1, .int p2, .int p3] (lay t ex o m) k 0 0 (fun oc h' k' => k = k' ∧ ∃ (r : Int32) (m' : Mem), oc = .inl (some (.int r)) ∧ h' = lay t ex o m' ∧ K r m') :=
  AM.intro (μ := mX5_setWindow) (n := 1) (by decide) rfl rfl rfl (b_M_setWindow ht hd (by omega) (by omega) (fun _ _ hK => ⟨rfl, _, _, rfl, rfl, hK⟩) p1 p2 p3 hw)
def w_M_settleNow_9 : Nat → Int32 → Int32 → Mem → (Int32 → Int32 → Mem → Prop) → (Int32 → Mem → Prop) → Prop
  | 0, _, _, _, _, _ => False
  | n + 1, x1, x2, m, E115, K => (((24 : Int32) ≤ x2 → E115 x1 x2 m) ∧ (¬ ((24 : Int32) ≤ x2) → vp_in ((78 : Int32) + x2) 342 ∧ w_M_driver x2 m (fun r5 m4 => w_M_isGate r5 m4 (fun r7 m6 => ((r7 = 0 → w_M_settleNow_9 n x1 (x2 + 1) m6 E115 K) ∧ (¬ (r7 = 0) → (((m 60 ((78 : Int32) + x2).toNatClampNeg) = (2 : Int32) → w_M_settleNow_9 n x1 (x2 + 1) m6 E115 K) ∧ (¬ ((m 60 ((78 : Int32) + x2).toNatClampNeg) = (2 : Int32)) → w_M_valueOf x2 m6 (fun r11 m10 => ((¬ (r11 = (2 : Int32)) → w_M_valueOf x2 m10 (fun r14 m13 => (∀ J16 : Mem → Prop, (∀  (m15 : Mem), (w_M_valueOf x2 m15 (fun r21 m20 => (((m 60 ((78 : Int32) + x2).toNatClampNeg) = r21 → w_M_settleNow_9 n x1 (x2 + 1) m20 E115 K) ∧ (¬ ((m 60 ((78 : Int32) + x2).toNatClampNeg) = r21) → vp_in ((54 : Int32) + x2) 342 ∧ (((m20 60 ((54 : Int32) + x2).toNatClampNeg) ≤ (2 : Int32) → w_M_settleNow_9 n x1 (x2 + 1) m20 E115 K) ∧ (¬ ((m20 60 ((54 : Int32) + x2).toNatClampNeg) ≤ (2 : Int32)) → w_M_noteHazard (2 : Int32) x2 m20 (fun m24 => w_M_settleNow_9 n x1 (x2 + 1) m24 E115 K))))))) → J16 m15) → ((¬ ((m 60 ((78 : Int32) + x2).toNatClampNeg) = r14) → J16  m13) ∧ ((m 60 ((78 : Int32) + x2).toNatClampNeg) = r14 → vp_in ((54 : Int32) + x2) 342 ∧ (((m13 60 ((54 : Int32) + x2).toNatClampNeg) ≤ 0 → J16  m13) ∧ (¬ ((m13 60 ((54 : Int32) + x2).toNatClampNeg) ≤ 0) → w_M_noteHazard (1 : Int32) x2 m13 (fun m19 => J16  m19)))))))) ∧ (r11 = (2 : Int32) → w_M_settleNow_9 n x1 (x2 + 1) m10 E115 K)))))))))))
def w_M_settleNow (m : Mem) (K : Int32 → Mem → Prop) : Prop :=
  w_M_passTo (2147483647 : Int32) m (fun r2 m1 => w_M_settleNow_9 25 r2 (0 : Int32) m1 (fun y25 y26 m27 => w_M_beginCounting  m27 (fun m28 => K y25 m28)) K)
set_option maxRecDepth 100000 in
set_option maxHeartbeats 4000000 in
theorem l_M_settleNow_9 {Z : Gz} {d k0 mc ms cs ss k t : Nat} {Q : Po} {ex : Hp} {o : Nat → Int64} {K : Int32 → Mem → Prop}  (ht : tok t) (hd : 7 ≤ d) (hcs : cs ≤ mc) (hss : ss ≤ ms) (hQ : ∀ (r : Int32) (m : Mem), K r m → Q (.inl (some (.int r))) (lay t ex o m) k) {E115 : Int32 → Int32 → Mem → Prop} (hE115 : ∀ (x1 : Int32) (x2 : Int32) (m : Mem), E115 x1 x2 m → AW Z mX5_settleNow d k0 mc ms Q 115 [.ref 47, .int x1, .int x2, .null] [] (lay t ex o m) k cs ss) : ∀ (n : Nat) (x1 : Int32) (x2 : Int32) (m : Mem),  w_M_settleNow_9 n x1 x2 m E115 K → AW Z mX5_settleNow d k0 mc ms Q 9 [.ref 47, .int x1, .int x2, .null] [] (lay t ex o m) k cs ss := by
  intro n
  induction n with
  | zero =>
    intros; rename_i hw; exact absurd hw (by simp [w_M_settleNow_9])
  | succ n ih =>
    intro x1 x2 m hw
    unfold w_M_settleNow_9 at hw
    refine AW.iload_n (pc := 9) dX5_settleNow_9 rfl rfl ?_
    refine AW.bipush (v := 24) (pc := 10) dX5_settleNow_10 (by decide) ?_
    refine AW.icmp_ge (pc := 12) (tgt := 115) dX5_settleNow_12 (by decide) (fun c3 => ?_) (fun c3 => ?_)
    · have hw := hw.1 c3
      exact hE115 x1 x2 m hw
    · have hw := hw.2 c3
      refine AW.aload_n (pc := 15) dX5_settleNow_15 rfl rfl ?_
      refine LW.get (pc := 16) (f := 10) (ci := 5) (T := TX5) ht (by decide) rfl dX5_settleNow_16 tw_808 rfl (by decide) rfl ?_
      refine AW.bipush (v := 78) (pc := 19) dX5_settleNow_19 (by decide) ?_
      refine AW.iload_n (pc := 21) dX5_settleNow_21 rfl rfl ?_
      refine AW.iadd (pc := 22) dX5_settleNow_22 ?_
      obtain ⟨hin, hw⟩ := hw
      refine LW.ialdt (pc := 23) (j := ((78 : Int32) + x2).toNatClampNeg) ht dX5_settleNow_23 hin rfl ?_
      refine AW.istore_n (L' := [.ref 47, .int x1, .int x2, .int (m 60 ((78 : Int32) + x2).toNatClampNeg)]) (pc := 24) dX5_settleNow_24 rfl (by decide) rfl rfl ?_
      refine AW.aload_n (pc := 25) dX5_settleNow_25 rfl rfl ?_
      refine AW.aload_n (pc := 26) dX5_settleNow_26 rfl rfl ?_
      refine AW.iload_n (pc := 27) dX5_settleNow_27 rfl rfl ?_
      refine AW.callV (pc := 28) (S' := [.ref 47]) dX5_settleNow_28 (c_M_driver (d := d - 1) ht (by omega) hw) ok_X5_driver tw_950 ts_45 tw_948 (fix_pos (by decide)) (lay_at ht (by decide)) (show aw_cl[5]? = some _ from rfl) rfl rfl (by omega) rfl (Nat.le_of_ble_eq_true rfl) (by omega) (by omega) ?_ (fun E h' k' hq => by obtain ⟨rfl, r5, m4, hv, -⟩ := hq; cases hv)
      intro v h' k' hq
      obtain ⟨rfl, r5, m4, hv, rfl, hw⟩ := hq
      cases hv
      show AW _ _ _ _ _ _ _ 31 [.ref 47, .int x1, .int x2, .int (m 60 ((78 : Int32) + x2).toNatClampNeg)] [.int r5, .ref 47] (lay t ex o m4) k _ _
      refine AW.callV (pc := 31) (S' := []) dX5_settleNow_31 (c_M_isGate (d := d - 1) ht (by omega) hw) ok_X5_isGate tw_922 ts_40 tw_920 (fix_pos (by decide)) (lay_at ht (by decide)) (show aw_cl[5]? = some _ from rfl) rfl rfl (by omega) rfl (Nat.le_of_ble_eq_true rfl) (by omega) (by omega) ?_ (fun E h' k' hq => by obtain ⟨rfl, r7, m6, hv, -⟩ := hq; cases hv)
      intro v h' k' hq
      obtain ⟨rfl, r7, m6, hv, rfl, hw⟩ := hq
      cases hv
      show AW _ _ _ _ _ _ _ 34 [.ref 47, .int x1, .int x2, .int (m 60 ((78 : Int32) + x2).toNatClampNeg)] [.int r7] (lay t ex o m6) k _ _
      refine AW.if_eq (pc := 34) (tgt := 109) dX5_settleNow_34 (by decide) (fun c8 => ?_) (fun c8 => ?_)
      · have hw := hw.1 c8
        refine AW.iinc (v := (x2 + 1)) (L' := [.ref 47, .int x1, .int (x2 + 1), .int (m 60 ((78 : Int32) + x2).toNatClampNeg)]) (pc := 109) dX5_settleNow_109 rfl rfl (by decide) rfl rfl ?_
        refine AW.goto (pc := 112) (tgt := 9) dX5_settleNow_112 (by decide) ?_
        refine AW.locals (L' := [.ref 47, .int x1, .int (x2 + 1), .null]) (aw_fewer_same (aw_fewer_same (aw_fewer_same (aw_fewer_null aw_fewer_nil)))) ?_
        exact ih x1 (x2 + 1) m6 hw
      · have hw := hw.2 c8
        refine AW.iload_n (pc := 37) dX5_settleNow_37 rfl rfl ?_
        refine AW.iconst (v := 2) (pc := 38) dX5_settleNow_38 (by decide) ?_
        refine AW.icmp_eq (pc := 39) (tgt := 109) dX5_settleNow_39 (by decide) (fun c9 => ?_) (fun c9 => ?_)
        · have hw := hw.1 c9
          refine AW.iinc (v := (x2 + 1)) (L' := [.ref 47, .int x1, .int (x2 + 1), .int (m 60 ((78 : Int32) + x2).toNatClampNeg)]) (pc := 109) dX5_settleNow_109 rfl rfl (by decide) rfl rfl ?_
          refine AW.goto (pc := 112) (tgt := 9) dX5_settleNow_112 (by decide) ?_
          refine AW.locals (L' := [.ref 47, .int x1, .int (x2 + 1), .null]) (aw_fewer_same (aw_fewer_same (aw_fewer_same (aw_fewer_null aw_fewer_nil)))) ?_
          exact ih x1 (x2 + 1) m6 hw
        · have hw := hw.2 c9
          refine AW.aload_n (pc := 42) dX5_settleNow_42 rfl rfl ?_
          refine AW.iload_n (pc := 43) dX5_settleNow_43 rfl rfl ?_
          refine AW.callV (pc := 44) (S' := []) dX5_settleNow_44 (c_M_valueOf (d := d - 1) ht (by omega) hw) ok_X5_valueOf tw_990 ts_50 tw_988 (fix_pos (by decide)) (lay_at ht (by decide)) (show aw_cl[5]? = some _ from rfl) rfl rfl (by omega) rfl (Nat.le_of_ble_eq_true rfl) (by omega) (by omega) ?_ (fun E h' k' hq => by obtain ⟨rfl, r11, m10, hv, -⟩ := hq; cases hv)
          intro v h' k' hq
          obtain ⟨rfl, r11, m10, hv, rfl, hw⟩ := hq
          cases hv
          show AW _ _ _ _ _ _ _ 47 [.ref 47, .int x1, .int x2, .int (m 60 ((78 : Int32) + x2).toNatClampNeg)] [.int r11] (lay t ex o m10) k _ _
          refine AW.iconst (v := 2) (pc := 47) dX5_settleNow_47 (by decide) ?_
          refine AW.icmp_ne (pc := 48) (tgt := 54) dX5_settleNow_48 (by decide) (fun c12 => ?_) (fun c12 => ?_)
          · have hw := hw.1 c12
            refine AW.iload_n (pc := 54) dX5_settleNow_54 rfl rfl ?_
            refine AW.aload_n (pc := 55) dX5_settleNow_55 rfl rfl ?_
            refine AW.iload_n (pc := 56) dX5_settleNow_56 rfl rfl ?_
            refine AW.callV (pc := 57) (S' := [.int (m 60 ((78 : Int32) + x2).toNatClampNeg)]) dX5_settleNow_57 (c_M_valueOf (d := d - 1) ht (by omega) hw) ok_X5_valueOf tw_990 ts_50 tw_988 (fix_pos (by decide)) (lay_at ht (by decide)) (show aw_cl[5]? = some _ from rfl) rfl rfl (by omega) rfl (Nat.le_of_ble_eq_true rfl) (by omega) (by omega) ?_ (fun E h' k' hq => by obtain ⟨rfl, r14, m13, hv, -⟩ := hq; cases hv)
            intro v h' k' hq
            obtain ⟨rfl, r14, m13, hv, rfl, hw⟩ := hq
            cases hv
            show AW _ _ _ _ _ _ _ 60 [.ref 47, .int x1, .int x2, .int (m 60 ((78 : Int32) + x2).toNatClampNeg)] [.int r14, .int (m 60 ((78 : Int32) + x2).toNatClampNeg)] (lay t ex o m13) k _ _
            have hw := hw (fun m15 => AW Z mX5_settleNow d k0 mc ms Q 81 [.ref 47, .int x1, .int x2, .int (m 60 ((78 : Int32) + x2).toNatClampNeg)] [] (lay t ex o m15) k (cs) (ss)) (by
                intro m15 hw
                refine AW.iload_n (pc := 81) dX5_settleNow_81 rfl rfl ?_
                refine AW.aload_n (pc := 82) dX5_settleNow_82 rfl rfl ?_
                refine AW.iload_n (pc := 83) dX5_settleNow_83 rfl rfl ?_
                refine AW.callV (pc := 84) (S' := [.int (m 60 ((78 : Int32) + x2).toNatClampNeg)]) dX5_settleNow_84 (c_M_valueOf (d := d - 1) ht (by omega) hw) ok_X5_valueOf tw_990 ts_50 tw_988 (fix_pos (by decide)) (lay_at ht (by decide)) (show aw_cl[5]? = some _ from rfl) rfl rfl (by omega) rfl (Nat.le_of_ble_eq_true rfl) (by omega) (by omega) ?_ (fun E h' k' hq => by obtain ⟨rfl, r21, m20, hv, -⟩ := hq; cases hv)
                intro v h' k' hq
                obtain ⟨rfl, r21, m20, hv, rfl, hw⟩ := hq
                cases hv
                show AW _ _ _ _ _ _ _ 87 [.ref 47, .int x1, .int x2, .int (m 60 ((78 : Int32) + x2).toNatClampNeg)] [.int r21, .int (m 60 ((78 : Int32) + x2).toNatClampNeg)] (lay t ex o m20) k _ _
                refine AW.icmp_eq (pc := 87) (tgt := 109) dX5_settleNow_87 (by decide) (fun c22 => ?_) (fun c22 => ?_)
                · have hw := hw.1 c22
                  refine AW.iinc (v := (x2 + 1)) (L' := [.ref 47, .int x1, .int (x2 + 1), .int (m 60 ((78 : Int32) + x2).toNatClampNeg)]) (pc := 109) dX5_settleNow_109 rfl rfl (by decide) rfl rfl ?_
                  refine AW.goto (pc := 112) (tgt := 9) dX5_settleNow_112 (by decide) ?_
                  refine AW.locals (L' := [.ref 47, .int x1, .int (x2 + 1), .null]) (aw_fewer_same (aw_fewer_same (aw_fewer_same (aw_fewer_null aw_fewer_nil)))) ?_
                  exact ih x1 (x2 + 1) m20 hw
                · have hw := hw.2 c22
                  refine AW.aload_n (pc := 90) dX5_settleNow_90 rfl rfl ?_
                  refine LW.get (pc := 91) (f := 10) (ci := 5) (T := TX5) ht (by decide) rfl dX5_settleNow_91 tw_808 rfl (by decide) rfl ?_
                  refine AW.bipush (v := 54) (pc := 94) dX5_settleNow_94 (by decide) ?_
                  refine AW.iload_n (pc := 96) dX5_settleNow_96 rfl rfl ?_
                  refine AW.iadd (pc := 97) dX5_settleNow_97 ?_
                  obtain ⟨hin, hw⟩ := hw
                  refine LW.ialdt (pc := 98) (j := ((54 : Int32) + x2).toNatClampNeg) ht dX5_settleNow_98 hin rfl ?_
                  refine AW.iconst (v := 2) (pc := 99) dX5_settleNow_99 (by decide) ?_
                  refine AW.icmp_le (pc := 100) (tgt := 109) dX5_settleNow_100 (by decide) (fun c23 => ?_) (fun c23 => ?_)
                  · have hw := hw.1 c23
                    refine AW.iinc (v := (x2 + 1)) (L' := [.ref 47, .int x1, .int (x2 + 1), .int (m 60 ((78 : Int32) + x2).toNatClampNeg)]) (pc := 109) dX5_settleNow_109 rfl rfl (by decide) rfl rfl ?_
                    refine AW.goto (pc := 112) (tgt := 9) dX5_settleNow_112 (by decide) ?_
                    refine AW.locals (L' := [.ref 47, .int x1, .int (x2 + 1), .null]) (aw_fewer_same (aw_fewer_same (aw_fewer_same (aw_fewer_null aw_fewer_nil)))) ?_
                    exact ih x1 (x2 + 1) m20 hw
                  · have hw := hw.2 c23
                    refine AW.aload_n (pc := 103) dX5_settleNow_103 rfl rfl ?_
                    refine AW.iconst (v := 2) (pc := 104) dX5_settleNow_104 (by decide) ?_
                    refine AW.iload_n (pc := 105) dX5_settleNow_105 rfl rfl ?_
                    refine AW.callV (pc := 106) (S' := []) dX5_settleNow_106 (c_M_noteHazard (d := d - 1) ht (by omega) hw) ok_X5_noteHazard tw_1016 ts_55 tw_1014 (fix_pos (by decide)) (lay_at ht (by decide)) (show aw_cl[5]? = some _ from rfl) rfl rfl (by omega) rfl (Nat.le_of_ble_eq_true rfl) (by omega) (by omega) ?_ (fun E h' k' hq => by obtain ⟨rfl, m24, hv, -⟩ := hq; cases hv)
                    intro v h' k' hq
                    obtain ⟨rfl, m24, hv, rfl, hw⟩ := hq
                    cases hv
                    show AW _ _ _ _ _ _ _ 109 [.ref 47, .int x1, .int x2, .int (m 60 ((78 : Int32) + x2).toNatClampNeg)] [] (lay t ex o m24) k _ _
                    refine AW.iinc (v := (x2 + 1)) (L' := [.ref 47, .int x1, .int (x2 + 1), .int (m 60 ((78 : Int32) + x2).toNatClampNeg)]) (pc := 109) dX5_settleNow_109 rfl rfl (by decide) rfl rfl ?_
                    refine AW.goto (pc := 112) (tgt := 9) dX5_settleNow_112 (by decide) ?_
                    refine AW.locals (L' := [.ref 47, .int x1, .int (x2 + 1), .null]) (aw_fewer_same (aw_fewer_same (aw_fewer_same (aw_fewer_null aw_fewer_nil)))) ?_
                    exact ih x1 (x2 + 1) m24 hw)
            refine AW.icmp_ne (pc := 60) (tgt := 81) dX5_settleNow_60 (by decide) (fun c17 => ?_) (fun c17 => ?_)
            · have hw := hw.1 c17
              exact hw
            · have hw := hw.2 c17
              refine AW.aload_n (pc := 63) dX5_settleNow_63 rfl rfl ?_
              refine LW.get (pc := 64) (f := 10) (ci := 5) (T := TX5) ht (by decide) rfl dX5_settleNow_64 tw_808 rfl (by decide) rfl ?_
              refine AW.bipush (v := 54) (pc := 67) dX5_settleNow_67 (by decide) ?_
              refine AW.iload_n (pc := 69) dX5_settleNow_69 rfl rfl ?_
              refine AW.iadd (pc := 70) dX5_settleNow_70 ?_
              obtain ⟨hin, hw⟩ := hw
              refine LW.ialdt (pc := 71) (j := ((54 : Int32) + x2).toNatClampNeg) ht dX5_settleNow_71 hin rfl ?_
              refine AW.if_le (pc := 72) (tgt := 81) dX5_settleNow_72 (by decide) (fun c18 => ?_) (fun c18 => ?_)
              · have hw := hw.1 c18
                exact hw
              · have hw := hw.2 c18
                refine AW.aload_n (pc := 75) dX5_settleNow_75 rfl rfl ?_
                refine AW.iconst (v := 1) (pc := 76) dX5_settleNow_76 (by decide) ?_
                refine AW.iload_n (pc := 77) dX5_settleNow_77 rfl rfl ?_
                refine AW.callV (pc := 78) (S' := []) dX5_settleNow_78 (c_M_noteHazard (d := d - 1) ht (by omega) hw) ok_X5_noteHazard tw_1016 ts_55 tw_1014 (fix_pos (by decide)) (lay_at ht (by decide)) (show aw_cl[5]? = some _ from rfl) rfl rfl (by omega) rfl (Nat.le_of_ble_eq_true rfl) (by omega) (by omega) ?_ (fun E h' k' hq => by obtain ⟨rfl, m19, hv, -⟩ := hq; cases hv)
                intro v h' k' hq
                obtain ⟨rfl, m19, hv, rfl, hw⟩ := hq
                cases hv
                show AW _ _ _ _ _ _ _ 81 [.ref 47, .int x1, .int x2, .int (m 60 ((78 : Int32) + x2).toNatClampNeg)] [] (lay t ex o m19) k _ _
                exact hw
          · have hw := hw.2 c12
            refine AW.goto (pc := 51) (tgt := 109) dX5_settleNow_51 (by decide) ?_
            refine AW.iinc (v := (x2 + 1)) (L' := [.ref 47, .int x1, .int (x2 + 1), .int (m 60 ((78 : Int32) + x2).toNatClampNeg)]) (pc := 109) dX5_settleNow_109 rfl rfl (by decide) rfl rfl ?_
            refine AW.goto (pc := 112) (tgt := 9) dX5_settleNow_112 (by decide) ?_
            refine AW.locals (L' := [.ref 47, .int x1, .int (x2 + 1), .null]) (aw_fewer_same (aw_fewer_same (aw_fewer_same (aw_fewer_null aw_fewer_nil)))) ?_
            exact ih x1 (x2 + 1) m10 hw
set_option maxRecDepth 100000 in
set_option maxHeartbeats 4000000 in
theorem b_M_settleNow {Z : Gz} {d k0 mc ms cs ss k t : Nat} {Q : Po} {ex : Hp} {o : Nat → Int64} {K : Int32 → Mem → Prop}  (ht : tok t) (hd : 7 ≤ d) (hcs : cs + 0 ≤ mc) (hss : ss + 0 ≤ ms) (hQ : ∀ (r : Int32) (m : Mem), K r m → Q (.inl (some (.int r))) (lay t ex o m) k) {m : Mem}  (hw : w_M_settleNow  m K) : AW Z mX5_settleNow d k0 mc ms Q 0 [.ref 47, .null, .null, .null] [] (lay t ex o m) k cs ss := by
  unfold w_M_settleNow at hw
  refine AW.aload_n (pc := 0) dX5_settleNow_0 rfl rfl ?_
  refine AW.ldc (pc := 1) dX5_settleNow_1 tw_1062 ?_
  refine AW.callV (pc := 3) (S' := []) dX5_settleNow_3 (c_M_passTo (d := d - 1) ht (by omega) hw) ok_X5_passTo tw_1048 ts_61 tw_1046 (fix_pos (by decide)) (lay_at ht (by decide)) (show aw_cl[5]? = some _ from rfl) rfl rfl (by omega) rfl (Nat.le_of_ble_eq_true rfl) (by omega) (by omega) ?_ (fun E h' k' hq => by obtain ⟨rfl, r2, m1, hv, -⟩ := hq; cases hv)
  intro v h' k' hq
  obtain ⟨rfl, r2, m1, hv, rfl, hw⟩ := hq
  cases hv
  show AW _ _ _ _ _ _ _ 6 [.ref 47, .null, .null, .null] [.int r2] (lay t ex o m1) k _ _
  refine AW.istore_n (L' := [.ref 47, .int r2, .null, .null]) (pc := 6) dX5_settleNow_6 rfl (by decide) rfl rfl ?_
  refine AW.iconst (v := 0) (pc := 7) dX5_settleNow_7 (by decide) ?_
  refine AW.istore_n (L' := [.ref 47, .int r2, .int (0 : Int32), .null]) (pc := 8) dX5_settleNow_8 rfl (by decide) rfl rfl ?_
  refine l_M_settleNow_9 ht hd (by omega) (by omega) hQ ?_ 25 r2 (0 : Int32) m1 hw
  intro y25 y26 m27 hw
  refine AW.aload_n (pc := 115) dX5_settleNow_115 rfl rfl ?_
  refine AW.callV (pc := 116) (S' := []) dX5_settleNow_116 (c_M_beginCounting (d := d - 1) ht (by omega) hw) ok_X5_beginCounting tw_1040 ts_60 tw_1038 (fix_pos (by decide)) (lay_at ht (by decide)) (show aw_cl[5]? = some _ from rfl) rfl rfl (by omega) rfl (Nat.le_of_ble_eq_true rfl) (by omega) (by omega) ?_ (fun E h' k' hq => by obtain ⟨rfl, m28, hv, -⟩ := hq; cases hv)
  intro v h' k' hq
  obtain ⟨rfl, m28, hv, rfl, hw⟩ := hq
  cases hv
  show AW _ _ _ _ _ _ _ 119 [.ref 47, .int y25, .int y26, .null] [] (lay t ex o m28) k _ _
  refine AW.iload_n (pc := 119) dX5_settleNow_119 rfl rfl ?_
  exact AW.iret (pc := 120) dX5_settleNow_120 rfl rfl (by omega) (by omega) (hQ _ _ hw)
set_option maxRecDepth 100000 in
set_option maxHeartbeats 4000000 in
theorem c_M_settleNow {d k t : Nat} {ex : Hp} {o : Nat → Int64} {K : Int32 → Mem → Prop} {m : Mem}  (ht : tok t) (hd : 7 ≤ d) (hw : w_M_settleNow  m K) : AM mX5_settleNow d [.ref 47] (lay t ex o m) k 0 0 (fun oc h' k' => k = k' ∧ ∃ (r : Int32) (m' : Mem), oc = .inl (some (.int r)) ∧ h' = lay t ex o m' ∧ K r m') :=
  AM.intro (μ := mX5_settleNow) (n := 3) (by decide) rfl rfl rfl (b_M_settleNow ht hd (by omega) (by omega) (fun _ _ hK => ⟨rfl, _, _, rfl, rfl, hK⟩)  hw)
def w_M_settle (m : Mem) (K : Int32 → Mem → Prop) : Prop :=
  ∀ m1 : Mem, m1 = up2 m 47 0 (0 : Int32) → (((m1 47 11) = 0 → w_M_no (1 : Int32) m1 (fun r4 m3 => K r4 m3)) ∧ (¬ ((m1 47 11) = 0) → w_M_settleNow  m1 (fun r6 m5 => K r6 m5)))
set_option maxRecDepth 100000 in
set_option maxHeartbeats 4000000 in
theorem b_M_settle {Z : Gz} {d k0 mc ms cs ss k t : Nat} {Q : Po} {ex : Hp} {o : Nat → Int64} {K : Int32 → Mem → Prop}  (ht : tok t) (hd : 8 ≤ d) (hcs : cs + 0 ≤ mc) (hss : ss + 0 ≤ ms) (hQ : ∀ (r : Int32) (m : Mem), K r m → Q (.inl (some (.int r))) (lay t ex o m) k) {m : Mem}  (hw : w_M_settle  m K) : AW Z mX5_settle d k0 mc ms Q 0 [.ref 47] [] (lay t ex o m) k cs ss := by
  unfold w_M_settle at hw
  refine AW.aload_n (pc := 0) dX5_settle_0 rfl rfl ?_
  refine AW.iconst (v := 0) (pc := 1) dX5_settle_1 (by decide) ?_
  have hw := hw _ rfl
  refine LW.put (pc := 2) (f := 0) (ci := 5) (T := TX5) ht (by decide) rfl sp_47_0 dX5_settle_2 tw_798 rfl (by decide) (Nat.le_of_ble_eq_true rfl) rfl ⟨rfl, rfl⟩ ?_
  generalize up2 m 47 0 (0 : Int32) = m1 at hw ⊢
  refine AW.aload_n (pc := 5) dX5_settle_5 rfl rfl ?_
  refine LW.get (pc := 6) (f := 11) (ci := 5) (T := TX5) ht (by decide) rfl dX5_settle_6 tw_809 rfl (by decide) rfl ?_
  refine AW.if_eq (pc := 9) (tgt := 19) dX5_settle_9 (by decide) (fun c2 => ?_) (fun c2 => ?_)
  · have hw := hw.1 c2
    refine AW.aload_n (pc := 19) dX5_settle_19 rfl rfl ?_
    refine AW.iconst (v := 1) (pc := 20) dX5_settle_20 (by decide) ?_
    refine AW.callV (pc := 21) (S' := []) dX5_settle_21 (c_M_no (d := d - 1) ht (by omega) hw) ok_X5_no tw_863 ts_32 tw_861 (fix_pos (by decide)) (lay_at ht (by decide)) (show aw_cl[5]? = some _ from rfl) rfl rfl (by omega) rfl (Nat.le_of_ble_eq_true rfl) (by omega) (by omega) ?_ (fun E h' k' hq => by obtain ⟨rfl, r4, m3, hv, -⟩ := hq; cases hv)
    intro v h' k' hq
    obtain ⟨rfl, r4, m3, hv, rfl, hw⟩ := hq
    cases hv
    show AW _ _ _ _ _ _ _ 24 [.ref 47] [.int r4] (lay t ex o m3) k _ _
    exact AW.iret (pc := 24) dX5_settle_24 rfl rfl (by omega) (by omega) (hQ _ _ hw)
  · have hw := hw.2 c2
    refine AW.aload_n (pc := 12) dX5_settle_12 rfl rfl ?_
    refine AW.callV (pc := 13) (S' := []) dX5_settle_13 (c_M_settleNow (d := d - 1) ht (by omega) hw) ok_X5_settleNow tw_1060 ts_63 tw_1058 (fix_pos (by decide)) (lay_at ht (by decide)) (show aw_cl[5]? = some _ from rfl) rfl rfl (by omega) rfl (Nat.le_of_ble_eq_true rfl) (by omega) (by omega) ?_ (fun E h' k' hq => by obtain ⟨rfl, r6, m5, hv, -⟩ := hq; cases hv)
    intro v h' k' hq
    obtain ⟨rfl, r6, m5, hv, rfl, hw⟩ := hq
    cases hv
    show AW _ _ _ _ _ _ _ 16 [.ref 47] [.int r6] (lay t ex o m5) k _ _
    refine AW.goto (pc := 16) (tgt := 24) dX5_settle_16 (by decide) ?_
    exact AW.iret (pc := 24) dX5_settle_24 rfl rfl (by omega) (by omega) (hQ _ _ hw)
set_option maxRecDepth 100000 in
set_option maxHeartbeats 4000000 in
theorem c_M_settle {d k t : Nat} {ex : Hp} {o : Nat → Int64} {K : Int32 → Mem → Prop} {m : Mem}  (ht : tok t) (hd : 8 ≤ d) (hw : w_M_settle  m K) : AM mX5_settle d [.ref 47] (lay t ex o m) k 0 0 (fun oc h' k' => k = k' ∧ ∃ (r : Int32) (m' : Mem), oc = .inl (some (.int r)) ∧ h' = lay t ex o m' ∧ K r m') :=
  AM.intro (μ := mX5_settle) (n := 0) (by decide) rfl rfl rfl (b_M_settle ht hd (by omega) (by omega) (fun _ _ hK => ⟨rfl, _, _, rfl, rfl, hK⟩)  hw)
def w_M_thrown (m : Mem) (K : Int32 → Mem → Prop) : Prop :=
  K (m 47 0) m
set_option maxRecDepth 100000 in
set_option maxHeartbeats 4000000 in
theorem b_M_thrown {Z : Gz} {d k0 mc ms cs ss k t : Nat} {Q : Po} {ex : Hp} {o : Nat → Int64} {K : Int32 → Mem → Prop}  (ht : tok t) (hd : 2 ≤ d) (hcs : cs + 0 ≤ mc) (hss : ss + 0 ≤ ms) (hQ : ∀ (r : Int32) (m : Mem), K r m → Q (.inl (some (.int r))) (lay t ex o m) k) {m : Mem}  (hw : w_M_thrown  m K) : AW Z mX5_thrown d k0 mc ms Q 0 [.ref 47] [] (lay t ex o m) k cs ss := by
  unfold w_M_thrown at hw
  refine AW.aload_n (pc := 0) dX5_thrown_0 rfl rfl ?_
  refine LW.get (pc := 1) (f := 0) (ci := 5) (T := TX5) ht (by decide) rfl dX5_thrown_1 tw_798 rfl (by decide) rfl ?_
  exact AW.iret (pc := 4) dX5_thrown_4 rfl rfl (by omega) (by omega) (hQ _ _ hw)
set_option maxRecDepth 100000 in
set_option maxHeartbeats 4000000 in
theorem c_M_thrown {d k t : Nat} {ex : Hp} {o : Nat → Int64} {K : Int32 → Mem → Prop} {m : Mem}  (ht : tok t) (hd : 2 ≤ d) (hw : w_M_thrown  m K) : AM mX5_thrown d [.ref 47] (lay t ex o m) k 0 0 (fun oc h' k' => k = k' ∧ ∃ (r : Int32) (m' : Mem), oc = .inl (some (.int r)) ∧ h' = lay t ex o m' ∧ K r m') :=
  AM.intro (μ := mX5_thrown) (n := 0) (by decide) rfl rfl rfl (b_M_thrown ht hd (by omega) (by omega) (fun _ _ hK => ⟨rfl, _, _, rfl, rfl, hK⟩)  hw)
def w_M_told (p1 : Int32) (m : Mem) (K : Int32 → Mem → Prop) : Prop :=
  ∀ m1 : Mem, m1 = up2 m 47 0 (0 : Int32) → w_M_isIn p1 (0 : Int32) (5 : Int32) m1 (fun r3 m2 => ((r3 = 0 → w_M_no (1 : Int32) m2 (fun r6 m5 => K r6 m5)) ∧ (¬ (r3 = 0) → w_M_toldNow p1 m2 (fun r8 m7 => K r8 m7))))
set_option maxRecDepth 100000 in
set_option maxHeartbeats 4000000 in
theorem b_M_told {Z : Gz} {d k0 mc ms cs ss k t : Nat} {Q : Po} {ex : Hp} {o : Nat → Int64} {K : Int32 → Mem → Prop}  (ht : tok t) (hd : 4 ≤ d) (hcs : cs + 0 ≤ mc) (hss : ss + 0 ≤ ms) (hQ : ∀ (r : Int32) (m : Mem), K r m → Q (.inl (some (.int r))) (lay t ex o m) k) {m : Mem} (p1 : Int32) (hw : w_M_told p1 m K) : AW Z mX5_told d k0 mc ms Q 0 [.ref 47, .int p1] [] (lay t ex o m) k cs ss := by
  unfold w_M_told at hw
  refine AW.aload_n (pc := 0) dX5_told_0 rfl rfl ?_
  refine AW.iconst (v := 0) (pc := 1) dX5_told_1 (by decide) ?_
  have hw := hw _ rfl
  refine LW.put (pc := 2) (f := 0) (ci := 5) (T := TX5) ht (by decide) rfl sp_47_0 dX5_told_2 tw_798 rfl (by decide) (Nat.le_of_ble_eq_true rfl) rfl ⟨rfl, rfl⟩ ?_
  generalize up2 m 47 0 (0 : Int32) = m1 at hw ⊢
  refine AW.iload_n (pc := 5) dX5_told_5 rfl rfl ?_
  refine AW.iconst (v := 0) (pc := 6) dX5_told_6 (by decide) ?_
  refine AW.iconst (v := 5) (pc := 7) dX5_told_7 (by decide) ?_
  refine AW.callS (pc := 8) (S' := []) dX5_told_8 (c_M_isIn (d := d - 1) ht (by omega) hw) ok_X5_isIn tw_859 tw_858 rfl (by omega) rfl (Nat.le_of_ble_eq_true rfl) (by omega) (by omega) ?_ (fun E h' k' hq => by obtain ⟨rfl, r3, m2, hv, -⟩ := hq; cases hv)
  intro v h' k' hq
  obtain ⟨rfl, r3, m2, hv, rfl, hw⟩ := hq
  cases hv
  show AW _ _ _ _ _ _ _ 11 [.ref 47, .int p1] [.int r3] (lay t ex o m2) k _ _
  refine AW.if_eq (pc := 11) (tgt := 22) dX5_told_11 (by decide) (fun c4 => ?_) (fun c4 => ?_)
  · have hw := hw.1 c4
    refine AW.aload_n (pc := 22) dX5_told_22 rfl rfl ?_
    refine AW.iconst (v := 1) (pc := 23) dX5_told_23 (by decide) ?_
    refine AW.callV (pc := 24) (S' := []) dX5_told_24 (c_M_no (d := d - 1) ht (by omega) hw) ok_X5_no tw_863 ts_32 tw_861 (fix_pos (by decide)) (lay_at ht (by decide)) (show aw_cl[5]? = some _ from rfl) rfl rfl (by omega) rfl (Nat.le_of_ble_eq_true rfl) (by omega) (by omega) ?_ (fun E h' k' hq => by obtain ⟨rfl, r6, m5, hv, -⟩ := hq; cases hv)
    intro v h' k' hq
    obtain ⟨rfl, r6, m5, hv, rfl, hw⟩ := hq
    cases hv
    show AW _ _ _ _ _ _ _ 27 [.ref 47, .int p1] [.int r6] (lay t ex o m5) k _ _
    exact AW.iret (pc := 27) dX5_told_27 rfl rfl (by omega) (by omega) (hQ _ _ hw)
  · have hw := hw.2 c4
    refine AW.aload_n (pc := 14) dX5_told_14 rfl rfl ?_
    refine AW.iload_n (pc := 15) dX5_told_15 rfl rfl ?_
    refine AW.callV (pc := 16) (S' := []) dX5_told_16 (c_M_toldNow (d := d - 1) ht (by omega) hw) ok_X5_toldNow tw_1073 ts_64 tw_1071 (fix_pos (by decide)) (lay_at ht (by decide)) (show aw_cl[5]? = some _ from rfl) rfl rfl (by omega) rfl (Nat.le_of_ble_eq_true rfl) (by omega) (by omega) ?_ (fun E h' k' hq => by obtain ⟨rfl, r8, m7, hv, -⟩ := hq; cases hv)
    intro v h' k' hq
    obtain ⟨rfl, r8, m7, hv, rfl, hw⟩ := hq
    cases hv
    show AW _ _ _ _ _ _ _ 19 [.ref 47, .int p1] [.int r8] (lay t ex o m7) k _ _
    refine AW.goto (pc := 19) (tgt := 27) dX5_told_19 (by decide) ?_
    exact AW.iret (pc := 27) dX5_told_27 rfl rfl (by omega) (by omega) (hQ _ _ hw)
set_option maxRecDepth 100000 in
set_option maxHeartbeats 4000000 in
theorem c_M_told {d k t : Nat} {ex : Hp} {o : Nat → Int64} {K : Int32 → Mem → Prop} {m : Mem} {p1 : Int32} (ht : tok t) (hd : 4 ≤ d) (hw : w_M_told p1 m K) : AM mX5_told d [.ref 47, .int p1] (lay t ex o m) k 0 0 (fun oc h' k' => k = k' ∧ ∃ (r : Int32) (m' : Mem), oc = .inl (some (.int r)) ∧ h' = lay t ex o m' ∧ K r m') :=
  AM.intro (μ := mX5_told) (n := 0) (by decide) rfl rfl rfl (b_M_told ht hd (by omega) (by omega) (fun _ _ hK => ⟨rfl, _, _, rfl, rfl, hK⟩) p1 hw)
def w_M_users (p1 : Int32) (m : Mem) (K : Int32 → Mem → Prop) : Prop :=
  ∀ m1 : Mem, m1 = up2 m 47 0 (0 : Int32) → w_M_isWire p1 m1 (fun r3 m2 => ((r3 = 0 → w_M_no (1 : Int32) m2 (fun r6 m5 => K r6 m5)) ∧ (¬ (r3 = 0) → w_M_usersNow p1 m2 (fun r8 m7 => K r8 m7))))
set_option maxRecDepth 100000 in
set_option maxHeartbeats 4000000 in
theorem b_M_users {Z : Gz} {d k0 mc ms cs ss k t : Nat} {Q : Po} {ex : Hp} {o : Nat → Int64} {K : Int32 → Mem → Prop}  (ht : tok t) (hd : 4 ≤ d) (hcs : cs + 0 ≤ mc) (hss : ss + 0 ≤ ms) (hQ : ∀ (r : Int32) (m : Mem), K r m → Q (.inl (some (.int r))) (lay t ex o m) k) {m : Mem} (p1 : Int32) (hw : w_M_users p1 m K) : AW Z mX5_users d k0 mc ms Q 0 [.ref 47, .int p1] [] (lay t ex o m) k cs ss := by
  unfold w_M_users at hw
  refine AW.aload_n (pc := 0) dX5_users_0 rfl rfl ?_
  refine AW.iconst (v := 0) (pc := 1) dX5_users_1 (by decide) ?_
  have hw := hw _ rfl
  refine LW.put (pc := 2) (f := 0) (ci := 5) (T := TX5) ht (by decide) rfl sp_47_0 dX5_users_2 tw_798 rfl (by decide) (Nat.le_of_ble_eq_true rfl) rfl ⟨rfl, rfl⟩ ?_
  generalize up2 m 47 0 (0 : Int32) = m1 at hw ⊢
  refine AW.iload_n (pc := 5) dX5_users_5 rfl rfl ?_
  refine AW.callS (pc := 6) (S' := []) dX5_users_6 (c_M_isWire (d := d - 1) ht (by omega) hw) ok_X5_isWire tw_856 tw_855 rfl (by omega) rfl (Nat.le_of_ble_eq_true rfl) (by omega) (by omega) ?_ (fun E h' k' hq => by obtain ⟨rfl, r3, m2, hv, -⟩ := hq; cases hv)
  intro v h' k' hq
  obtain ⟨rfl, r3, m2, hv, rfl, hw⟩ := hq
  cases hv
  show AW _ _ _ _ _ _ _ 9 [.ref 47, .int p1] [.int r3] (lay t ex o m2) k _ _
  refine AW.if_eq (pc := 9) (tgt := 20) dX5_users_9 (by decide) (fun c4 => ?_) (fun c4 => ?_)
  · have hw := hw.1 c4
    refine AW.aload_n (pc := 20) dX5_users_20 rfl rfl ?_
    refine AW.iconst (v := 1) (pc := 21) dX5_users_21 (by decide) ?_
    refine AW.callV (pc := 22) (S' := []) dX5_users_22 (c_M_no (d := d - 1) ht (by omega) hw) ok_X5_no tw_863 ts_32 tw_861 (fix_pos (by decide)) (lay_at ht (by decide)) (show aw_cl[5]? = some _ from rfl) rfl rfl (by omega) rfl (Nat.le_of_ble_eq_true rfl) (by omega) (by omega) ?_ (fun E h' k' hq => by obtain ⟨rfl, r6, m5, hv, -⟩ := hq; cases hv)
    intro v h' k' hq
    obtain ⟨rfl, r6, m5, hv, rfl, hw⟩ := hq
    cases hv
    show AW _ _ _ _ _ _ _ 25 [.ref 47, .int p1] [.int r6] (lay t ex o m5) k _ _
    exact AW.iret (pc := 25) dX5_users_25 rfl rfl (by omega) (by omega) (hQ _ _ hw)
  · have hw := hw.2 c4
    refine AW.aload_n (pc := 12) dX5_users_12 rfl rfl ?_
    refine AW.iload_n (pc := 13) dX5_users_13 rfl rfl ?_
    refine AW.callV (pc := 14) (S' := []) dX5_users_14 (c_M_usersNow (d := d - 1) ht (by omega) hw) ok_X5_usersNow tw_914 ts_38 tw_912 (fix_pos (by decide)) (lay_at ht (by decide)) (show aw_cl[5]? = some _ from rfl) rfl rfl (by omega) rfl (Nat.le_of_ble_eq_true rfl) (by omega) (by omega) ?_ (fun E h' k' hq => by obtain ⟨rfl, r8, m7, hv, -⟩ := hq; cases hv)
    intro v h' k' hq
    obtain ⟨rfl, r8, m7, hv, rfl, hw⟩ := hq
    cases hv
    show AW _ _ _ _ _ _ _ 17 [.ref 47, .int p1] [.int r8] (lay t ex o m7) k _ _
    refine AW.goto (pc := 17) (tgt := 25) dX5_users_17 (by decide) ?_
    exact AW.iret (pc := 25) dX5_users_25 rfl rfl (by omega) (by omega) (hQ _ _ hw)
set_option maxRecDepth 100000 in
set_option maxHeartbeats 4000000 in
theorem c_M_users {d k t : Nat} {ex : Hp} {o : Nat → Int64} {K : Int32 → Mem → Prop} {m : Mem} {p1 : Int32} (ht : tok t) (hd : 4 ≤ d) (hw : w_M_users p1 m K) : AM mX5_users d [.ref 47, .int p1] (lay t ex o m) k 0 0 (fun oc h' k' => k = k' ∧ ∃ (r : Int32) (m' : Mem), oc = .inl (some (.int r)) ∧ h' = lay t ex o m' ∧ K r m') :=
  AM.intro (μ := mX5_users) (n := 0) (by decide) rfl rfl rfl (b_M_users ht hd (by omega) (by omega) (fun _ _ hK => ⟨rfl, _, _, rfl, rfl, hK⟩) p1 hw)
