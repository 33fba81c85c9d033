/-! printed by wip/tools/gen.py: L_arrival, L_gate, L_hazardsWith, L_input, L_longestWith, L_ofFlaw, L_ofHazard, L_ofWire, L_pass, L_pending, L_register, L_set, L_setDelay, L_setWindow, L_settle, L_settlesIn, L_start, L_told, L_users, L_wouldBe -/
abbrev mL_arrival : Mt := (yL_arrival, cL_arrival, 4, (some .int), [(0, 9, 12, 13)])
set_option maxRecDepth 20000 in
theorem ok_L_arrival : aw_mokH mL_arrival 3 := ⟨rfl, tw_681, tw_0, ⟨by decide, by decide⟩, by decide +kernel, by decide⟩
abbrev mL_gate : Mt := (yL_gate, cL_gate, 9, (some .int), [(0, 18, 21, 21), (0, 18, 25, 13), (0, 18, 29, 15)])
set_option maxRecDepth 20000 in
theorem ok_L_gate : aw_mokH mL_gate 8 := ⟨rfl, tw_633, tw_0, ⟨by decide, by decide⟩, by decide +kernel, by decide⟩
abbrev mL_hazardsWith : Mt := (yL_hazardsWith, cL_hazardsWith, 5, (some .int), [(0, 10, 13, 15), (0, 10, 17, 13), (0, 10, 21, 21)])
set_option maxRecDepth 20000 in
theorem ok_L_hazardsWith : aw_mokH mL_hazardsWith 4 := ⟨rfl, tw_772, tw_0, ⟨by decide, by decide⟩, by decide +kernel, by decide⟩
abbrev mL_input : Mt := (yL_input, cL_input, 4, (some .int), [(0, 9, 12, 13), (0, 9, 15, 15)])
set_option maxRecDepth 20000 in
theorem ok_L_input : aw_mokH mL_input 3 := ⟨rfl, tw_575, tw_0, ⟨by decide, by decide⟩, by decide +kernel, by decide⟩
abbrev mL_longestWith : Mt := (yL_longestWith, cL_longestWith, 5, (some .int), [(0, 10, 13, 13), (0, 10, 17, 21)])
set_option maxRecDepth 20000 in
theorem ok_L_longestWith : aw_mokH mL_longestWith 4 := ⟨rfl, tw_783, tw_0, ⟨by decide, by decide⟩, by decide +kernel, by decide⟩
abbrev mL_ofFlaw : Mt := (yL_ofFlaw, cL_ofFlaw, 5, (some .int), [(0, 10, 13, 13), (0, 10, 17, 21)])
set_option maxRecDepth 20000 in
theorem ok_L_ofFlaw : aw_mokH mL_ofFlaw 4 := ⟨rfl, tw_677, tw_0, ⟨by decide, by decide⟩, by decide +kernel, by decide⟩
abbrev mL_ofHazard : Mt := (yL_ofHazard, cL_ofHazard, 5, (some .int), [(0, 10, 13, 13), (0, 10, 17, 21)])
set_option maxRecDepth 20000 in
theorem ok_L_ofHazard : aw_mokH mL_ofHazard 4 := ⟨rfl, tw_761, tw_0, ⟨by decide, by decide⟩, by decide +kernel, by decide⟩
abbrev mL_ofWire : Mt := (yL_ofWire, cL_ofWire, 5, (some .int), [(0, 10, 13, 13), (0, 10, 17, 21)])
set_option maxRecDepth 20000 in
theorem ok_L_ofWire : aw_mokH mL_ofWire 4 := ⟨rfl, tw_753, tw_0, ⟨by decide, by decide⟩, by decide +kernel, by decide⟩
abbrev mL_pass : Mt := (yL_pass, cL_pass, 4, (some .int), [(0, 9, 12, 15), (0, 9, 15, 21)])
set_option maxRecDepth 20000 in
theorem ok_L_pass : aw_mokH mL_pass 3 := ⟨rfl, tw_723, tw_0, ⟨by decide, by decide⟩, by decide +kernel, by decide⟩
abbrev mL_pending : Mt := (yL_pending, cL_pending, 4, (some .int), [(0, 9, 12, 13)])
set_option maxRecDepth 20000 in
theorem ok_L_pending : aw_mokH mL_pending 3 := ⟨rfl, tw_757, tw_0, ⟨by decide, by decide⟩, by decide +kernel, by decide⟩
abbrev mL_register : Mt := (yL_register, cL_register, 8, (some .int), [(0, 16, 19, 13), (0, 16, 23, 21), (0, 16, 27, 15)])
set_option maxRecDepth 20000 in
theorem ok_L_register : aw_mokH mL_register 7 := ⟨rfl, tw_649, tw_0, ⟨by decide, by decide⟩, by decide +kernel, by decide⟩
abbrev mL_set : Mt := (yL_set, cL_set, 5, (some .int), [(0, 10, 13, 15), (0, 10, 17, 13), (0, 10, 21, 21)])
set_option maxRecDepth 20000 in
theorem ok_L_set : aw_mokH mL_set 4 := ⟨rfl, tw_701, tw_0, ⟨by decide, by decide⟩, by decide +kernel, by decide⟩
abbrev mL_setDelay : Mt := (yL_setDelay, cL_setDelay, 5, (some .int), [(0, 10, 13, 13), (0, 10, 17, 21)])
set_option maxRecDepth 20000 in
theorem ok_L_setDelay : aw_mokH mL_setDelay 4 := ⟨rfl, tw_665, tw_0, ⟨by decide, by decide⟩, by decide +kernel, by decide⟩
abbrev mL_setWindow : Mt := (yL_setWindow, cL_setWindow, 6, (some .int), [(0, 12, 15, 13), (0, 12, 19, 21)])
set_option maxRecDepth 20000 in
theorem ok_L_setWindow : aw_mokH mL_setWindow 5 := ⟨rfl, tw_656, tw_0, ⟨by decide, by decide⟩, by decide +kernel, by decide⟩
abbrev mL_settle : Mt := (yL_settle, cL_settle, 3, (some .int), [(0, 8, 11, 15)])
set_option maxRecDepth 20000 in
theorem ok_L_settle : aw_mokH mL_settle 2 := ⟨rfl, tw_731, tw_0, ⟨by decide, by decide⟩, by decide +kernel, by decide⟩
abbrev mL_settlesIn : Mt := (yL_settlesIn, cL_settlesIn, 3, (some .int), [(0, 8, 11, 15)])
set_option maxRecDepth 20000 in
theorem ok_L_settlesIn : aw_mokH mL_settlesIn 2 := ⟨rfl, tw_779, tw_0, ⟨by decide, by decide⟩, by decide +kernel, by decide⟩
abbrev mL_start : Mt := (yL_start, cL_start, 3, (some .int), [(0, 8, 11, 15)])
set_option maxRecDepth 20000 in
theorem ok_L_start : aw_mokH mL_start 2 := ⟨rfl, tw_689, tw_0, ⟨by decide, by decide⟩, by decide +kernel, by decide⟩
abbrev mL_told : Mt := (yL_told, cL_told, 4, (some .int), [(0, 9, 12, 21)])
set_option maxRecDepth 20000 in
theorem ok_L_told : aw_mokH mL_told 3 := ⟨rfl, tw_749, tw_0, ⟨by decide, by decide⟩, by decide +kernel, by decide⟩
abbrev mL_users : Mt := (yL_users, cL_users, 4, (some .int), [(0, 9, 12, 13)])
set_option maxRecDepth 20000 in
theorem ok_L_users : aw_mokH mL_users 3 := ⟨rfl, tw_685, tw_0, ⟨by decide, by decide⟩, by decide +kernel, by decide⟩
abbrev mL_wouldBe : Mt := (yL_wouldBe, cL_wouldBe, 6, (some .int), [(0, 12, 15, 15), (0, 12, 19, 13), (0, 12, 23, 21)])
set_option maxRecDepth 20000 in
theorem ok_L_wouldBe : aw_mokH mL_wouldBe 5 := ⟨rfl, tw_765, tw_0, ⟨by decide, by decide⟩, by decide +kernel, by decide⟩
def w_L_arrival (p1 : Int32) (o : Nat → Int64) (m : Mem) (K : Int32 → (Nat → Int64) → Mem → Prop) : Prop :=
  w_N_arrival p1 m (fun r2 m1 => K (0 : Int32) (vp_updL o 0 r2.toInt64) m1) (fun E m3 => (E = "java/lang/IndexOutOfBoundsException" → K (1 : Int32) o m3) ∧ (¬ E = "java/lang/IndexOutOfBoundsException" → False))
set_option maxRecDepth 100000 in
set_option maxHeartbeats 4000000 in
theorem b_L_arrival {Z : Gz} {d k0 mc ms cs ss k t : Nat} {Q : Po} {ex : Hp} {o : Nat → Int64} {K : Int32 → (Nat → Int64) → Mem → Prop}  (ht : tok t) (hd : 5 ≤ d) (hcs : cs + 1 ≤ mc) (hss : ss + 6 ≤ ms) (hQ : ∀ (r : Int32) (o : Nat → Int64) (m : Mem), K r o m → Q (.inl (some (.int r))) (lay t ex o m) k) {m : Mem} (p1 : Int32) (hw : w_L_arrival p1 o m K) : AW Z mL_arrival d k0 mc ms Q 0 [.ref 1, .int p1, .ref 61, .null] [] (lay t ex o m) k cs ss := by
  unfold w_L_arrival at hw
  refine AW.aload_n (pc := 0) dL_arrival_0 rfl rfl ?_
  refine AW.iconst (v := 0) (pc := 1) dL_arrival_1 (by decide) ?_
  refine AW.aload_n (pc := 2) dL_arrival_2 rfl rfl ?_
  refine AW.iload_n (pc := 3) dL_arrival_3 rfl rfl ?_
  refine AW.callV (pc := 4) (S' := [.int (0 : Int32), .ref 61]) dL_arrival_4 (c_N_arrival (d := d - 1) ht (by omega) hw) ok_X4_arrival tw_445 tw_446 tw_682 (fix_pos (by decide)) (lay_at ht (by decide)) (show aw_cl[4]? = some _ from rfl) rfl rfl (by omega) rfl (Nat.le_of_ble_eq_true rfl) (by omega) (by omega) ?_ ?_
  · intro v h' k' hq
    obtain ⟨rfl, m1, rfl, (⟨r2, hv, hw⟩ | ⟨E, hv, hw⟩)⟩ := hq
    · cases hv
      show AW _ _ _ _ _ _ _ 7 [.ref 1, .int p1, .ref 61, .null] [.int r2, .int (0 : Int32), .ref 61] (lay t ex o m1) k _ _
      refine AW.i2l (pc := 7) dL_arrival_7 ?_
      refine LW.lasto (pc := 8) ht dL_arrival_8 ?_
      refine AW.goto (pc := 9) (tgt := 15) dL_arrival_9 (by decide) ?_
      refine AW.iconst (v := 0) (pc := 15) dL_arrival_15 (by decide) ?_
      exact AW.iret (pc := 16) dL_arrival_16 rfl rfl (by omega) (by omega) (hQ _ _ _ hw)
    · cases hv
  · intro E h' k' hq
    obtain ⟨rfl, m3, rfl, (⟨r2, hv, hw⟩ | ⟨E2, hv, hw⟩)⟩ := hq
    · cases hv
    · cases hv
      by_cases e0 : E = "java/lang/IndexOutOfBoundsException"
      · subst e0
        have hw := hw.1 rfl
        refine AX.catch_n (x := (0, 9, 12, 13)) (pre := []) (suf := []) (L' := [.ref 1, .int p1, .ref 61, .null]) rfl (by decide) (fun _ h => nomatch h) (by decide) (by decide) (by decide) tw_576 tw_424 dL_arrival_12 rfl (by decide) rfl rfl ?_
        refine AW.iconst (v := 1) (pc := 13) dL_arrival_13 (by decide) ?_
        exact AW.iret (pc := 14) dL_arrival_14 rfl rfl (by omega) (by omega) (hQ _ _ _ hw)
      exact (hw.2 e0).elim
set_option maxRecDepth 100000 in
set_option maxHeartbeats 4000000 in
theorem c_L_arrival {d k t : Nat} {ex : Hp} {o : Nat → Int64} {K : Int32 → (Nat → Int64) → Mem → Prop} {m : Mem} {p1 : Int32} (ht : tok t) (hd : 5 ≤ d) (hw : w_L_arrival p1 o m K) : AM mL_arrival d [.ref 1, .int p1, .ref 61] (lay t ex o m) k 1 6 (fun oc h' k' => k = k' ∧ ∃ (r : Int32) (o' : Nat → Int64) (m' : Mem), oc = .inl (some (.int r)) ∧ h' = lay t ex o' m' ∧ K r o' m') :=
  AM.introH (μ := mL_arrival) (n := 1) (by decide) rfl rfl rfl (b_L_arrival ht hd (by omega) (by omega) (fun _ _ _ hK => ⟨rfl, _, _, _, rfl, rfl, hK⟩) p1 hw)
def w_L_gate (p1 : Int32) (p2 : Int32) (p3 : Int32) (p4 : Int32) (p5 : Int32) (p6 : Int32) (o : Nat → Int64) (m : Mem) (K : Int32 → (Nat → Int64) → Mem → Prop) : Prop :=
  w_N_gate p1 p2 p3 p4 p5 p6 m (fun r2 m1 => K (0 : Int32) (vp_updL o 0 r2.toInt64) m1) (fun E m3 => (E = "java/lang/IllegalArgumentException" → K (1 : Int32) o m3) ∧ (E = "java/lang/IndexOutOfBoundsException" → K (2 : Int32) o m3) ∧ (E = "java/lang/IllegalStateException" → K (3 : Int32) o m3) ∧ (¬ E = "java/lang/IllegalArgumentException" → ¬ E = "java/lang/IndexOutOfBoundsException" → ¬ E = "java/lang/IllegalStateException" → False))
set_option maxRecDepth 100000 in
set_option maxHeartbeats 4000000 in
theorem b_L_gate {Z : Gz} {d k0 mc ms cs ss k t : Nat} {Q : Po} {ex : Hp} {o : Nat → Int64} {K : Int32 → (Nat → Int64) → Mem → Prop}  (ht : tok t) (hd : 8 ≤ d) (hcs : cs + 6 ≤ mc) (hss : ss + 36 ≤ ms) (hQ : ∀ (r : Int32) (o : Nat → Int64) (m : Mem), K r o m → Q (.inl (some (.int r))) (lay t ex o m) k) {m : Mem} (p1 : Int32) (p2 : Int32) (p3 : Int32) (p4 : Int32) (p5 : Int32) (p6 : Int32) (hw : w_L_gate p1 p2 p3 p4 p5 p6 o m K) : AW Z mL_gate d k0 mc ms Q 0 [.ref 1, .int p1, .int p2, .int p3, .int p4, .int p5, .int p6, .ref 61, .null] [] (lay t ex o m) k cs ss := by
  unfold w_L_gate at hw
  refine AW.aload (pc := 0) dL_gate_0 rfl ?_
  refine AW.iconst (v := 0) (pc := 2) dL_gate_2 (by decide) ?_
  refine AW.aload_n (pc := 3) dL_gate_3 rfl rfl ?_
  refine AW.iload_n (pc := 4) dL_gate_4 rfl rfl ?_
  refine AW.iload_n (pc := 5) dL_gate_5 rfl rfl ?_
  refine AW.iload_n (pc := 6) dL_gate_6 rfl rfl ?_
  refine AW.iload (pc := 7) dL_gate_7 rfl ?_
  refine AW.iload (pc := 9) dL_gate_9 rfl ?_
  refine AW.iload (pc := 11) dL_gate_11 rfl ?_
  refine AW.callV (pc := 13) (S' := [.int (0 : Int32), .ref 61]) dL_gate_13 (c_N_gate (d := d - 1) ht (by omega) hw) ok_X4_gate tw_636 tw_637 tw_635 (fix_pos (by decide)) (lay_at ht (by decide)) (show aw_cl[4]? = some _ from rfl) rfl rfl (by omega) rfl (Nat.le_of_ble_eq_true rfl) (by omega) (by omega) ?_ ?_
  · intro v h' k' hq
    obtain ⟨rfl, m1, rfl, (⟨r2, hv, hw⟩ | ⟨E, hv, hw⟩)⟩ := hq
    · cases hv
      show AW _ _ _ _ _ _ _ 16 [.ref 1, .int p1, .int p2, .int p3, .int p4, .int p5, .int p6, .ref 61, .null] [.int r2, .int (0 : Int32), .ref 61] (lay t ex o m1) k _ _
      refine AW.i2l (pc := 16) dL_gate_16 ?_
      refine LW.lasto (pc := 17) ht dL_gate_17 ?_
      refine AW.goto (pc := 18) (tgt := 33) dL_gate_18 (by decide) ?_
      refine AW.iconst (v := 0) (pc := 33) dL_gate_33 (by decide) ?_
      exact AW.iret (pc := 34) dL_gate_34 rfl rfl (by omega) (by omega) (hQ _ _ _ hw)
    · cases hv
  · intro E h' k' hq
    obtain ⟨rfl, m3, rfl, (⟨r2, hv, hw⟩ | ⟨E2, hv, hw⟩)⟩ := hq
    · cases hv
    · cases hv
      by_cases e0 : E = "java/lang/IllegalArgumentException"
      · subst e0
        have hw := hw.1 rfl
        refine AX.catch_w (x := (0, 18, 21, 21)) (pre := []) (suf := [(0, 18, 25, 13), (0, 18, 29, 15)]) (L' := [.ref 1, .int p1, .int p2, .int p3, .int p4, .int p5, .int p6, .ref 61, .null]) rfl (by decide) (fun _ h => nomatch h) (by decide) (by decide) (by decide) tw_634 tw_348 dL_gate_21 (by decide) rfl rfl ?_
        refine AW.iconst (v := 1) (pc := 23) dL_gate_23 (by decide) ?_
        exact AW.iret (pc := 24) dL_gate_24 rfl rfl (by omega) (by omega) (hQ _ _ _ hw)
      by_cases e1 : E = "java/lang/IndexOutOfBoundsException"
      · subst e1
        have hw := hw.2.1 rfl
        refine AX.catch_w (x := (0, 18, 25, 13)) (pre := [(0, 18, 21, 21)]) (suf := [(0, 18, 29, 15)]) (L' := [.ref 1, .int p1, .int p2, .int p3, .int p4, .int p5, .int p6, .ref 61, .null]) rfl (by decide) (fun z hz => by rw [List.mem_singleton] at hz; subst hz; exact ⟨by decide, "java/lang/IllegalArgumentException", by decide, by decide, tw_634⟩) (by decide) (by decide) (by decide) tw_576 tw_424 dL_gate_25 (by decide) rfl rfl ?_
        refine AW.iconst (v := 2) (pc := 27) dL_gate_27 (by decide) ?_
        exact AW.iret (pc := 28) dL_gate_28 rfl rfl (by omega) (by omega) (hQ _ _ _ hw)
      by_cases e2 : E = "java/lang/IllegalStateException"
      · subst e2
        have hw := hw.2.2.1 rfl
        refine AX.catch_w (x := (0, 18, 29, 15)) (pre := [(0, 18, 21, 21), (0, 18, 25, 13)]) (suf := []) (L' := [.ref 1, .int p1, .int p2, .int p3, .int p4, .int p5, .int p6, .ref 61, .null]) rfl (by decide) (fun z hz => by rcases List.mem_cons.mp hz with rfl | hz; exact ⟨by decide, "java/lang/IllegalArgumentException", by decide, by decide, tw_634⟩; rw [List.mem_singleton] at hz; subst hz; exact ⟨by decide, "java/lang/IndexOutOfBoundsException", by decide, by decide, tw_576⟩) (by decide) (by decide) (by decide) tw_577 tw_498 dL_gate_29 (by decide) rfl rfl ?_
        refine AW.iconst (v := 3) (pc := 31) dL_gate_31 (by decide) ?_
        exact AW.iret (pc := 32) dL_gate_32 rfl rfl (by omega) (by omega) (hQ _ _ _ hw)
      exact (hw.2.2.2 e0 e1 e2).elim
set_option maxRecDepth 100000 in
set_option maxHeartbeats 4000000 in
theorem c_L_gate {d k t : Nat} {ex : Hp} {o : Nat → Int64} {K : Int32 → (Nat → Int64) → Mem → Prop} {m : Mem} {p1 : Int32} {p2 : Int32} {p3 : Int32} {p4 : Int32} {p5 : Int32} {p6 : Int32} (ht : tok t) (hd : 8 ≤ d) (hw : w_L_gate p1 p2 p3 p4 p5 p6 o m K) : AM mL_gate d [.ref 1, .int p1, .int p2, .int p3, .int p4, .int p5, .int p6, .ref 61] (lay t ex o m) k 6 36 (fun oc h' k' => k = k' ∧ ∃ (r : Int32) (o' : Nat → Int64) (m' : Mem), oc = .inl (some (.int r)) ∧ h' = lay t ex o' m' ∧ K r o' m') :=
  AM.introH (μ := mL_gate) (n := 1) (by decide) rfl rfl rfl (b_L_gate ht hd (by omega) (by omega) (fun _ _ _ hK => ⟨rfl, _, _, _, rfl, rfl, hK⟩) p1 p2 p3 p4 p5 p6 hw)
def w_L_hazardsWith (p1 : Int32) (p2 : Int32) (o : Nat → Int64) (m : Mem) (K : Int32 → (Nat → Int64) → Mem → Prop) : Prop :=
  w_N_hazardsWith p1 p2 m (fun r2 m1 => K (0 : Int32) (vp_updL o 0 r2.toInt64) m1) (fun E m3 => (E = "java/lang/IllegalStateException" → K (1 : Int32) o m3) ∧ (E = "java/lang/IndexOutOfBoundsException" → K (2 : Int32) o m3) ∧ (E = "java/lang/IllegalArgumentException" → K (3 : Int32) o m3) ∧ (¬ E = "java/lang/IllegalStateException" → ¬ E = "java/lang/IndexOutOfBoundsException" → ¬ E = "java/lang/IllegalArgumentException" → False))
set_option maxRecDepth 100000 in
set_option maxHeartbeats 4000000 in
theorem b_L_hazardsWith {Z : Gz} {d k0 mc ms cs ss k t : Nat} {Q : Po} {ex : Hp} {o : Nat → Int64} {K : Int32 → (Nat → Int64) → Mem → Prop}  (ht : tok t) (hd : 9 ≤ d) (hcs : cs + 3 ≤ mc) (hss : ss + 18 ≤ ms) (hQ : ∀ (r : Int32) (o : Nat → Int64) (m : Mem), K r o m → Q (.inl (some (.int r))) (lay t ex o m) k) {m : Mem} (p1 : Int32) (p2 : Int32) (hw : w_L_hazardsWith p1 p2 o m K) : AW Z mL_hazardsWith d k0 mc ms Q 0 [.ref 1, .int p1, .int p2, .ref 61, .null] [] (lay t ex o m) k cs ss := by
  unfold w_L_hazardsWith at hw
  refine AW.aload_n (pc := 0) dL_hazardsWith_0 rfl rfl ?_
  refine AW.iconst (v := 0) (pc := 1) dL_hazardsWith_1 (by decide) ?_
  refine AW.aload_n (pc := 2) dL_hazardsWith_2 rfl rfl ?_
  refine AW.iload_n (pc := 3) dL_hazardsWith_3 rfl rfl ?_
  refine AW.iload_n (pc := 4) dL_hazardsWith_4 rfl rfl ?_
  refine AW.callV (pc := 5) (S' := [.int (0 : Int32), .ref 61]) dL_hazardsWith_5 (c_N_hazardsWith (d := d - 1) ht (by omega) hw) ok_X4_hazardsWith tw_774 tw_775 tw_773 (fix_pos (by decide)) (lay_at ht (by decide)) (show aw_cl[4]? = some _ from rfl) rfl rfl (by omega) rfl (Nat.le_of_ble_eq_true rfl) (by omega) (by omega) ?_ ?_
  · intro v h' k' hq
    obtain ⟨rfl, m1, rfl, (⟨r2, hv, hw⟩ | ⟨E, hv, hw⟩)⟩ := hq
    · cases hv
      show AW _ _ _ _ _ _ _ 8 [.ref 1, .int p1, .int p2, .ref 61, .null] [.int r2, .int (0 : Int32), .ref 61] (lay t ex o m1) k _ _
      refine AW.i2l (pc := 8) dL_hazardsWith_8 ?_
      refine LW.lasto (pc := 9) ht dL_hazardsWith_9 ?_
      refine AW.goto (pc := 10) (tgt := 25) dL_hazardsWith_10 (by decide) ?_
      refine AW.iconst (v := 0) (pc := 25) dL_hazardsWith_25 (by decide) ?_
      exact AW.iret (pc := 26) dL_hazardsWith_26 rfl rfl (by omega) (by omega) (hQ _ _ _ hw)
    · cases hv
  · intro E h' k' hq
    obtain ⟨rfl, m3, rfl, (⟨r2, hv, hw⟩ | ⟨E2, hv, hw⟩)⟩ := hq
    · cases hv
    · cases hv
      by_cases e0 : E = "java/lang/IllegalStateException"
      · subst e0
        have hw := hw.1 rfl
        refine AX.catch_w (x := (0, 10, 13, 15)) (pre := []) (suf := [(0, 10, 17, 13), (0, 10, 21, 21)]) (L' := [.ref 1, .int p1, .int p2, .ref 61, .null]) rfl (by decide) (fun _ h => nomatch h) (by decide) (by decide) (by decide) tw_577 tw_498 dL_hazardsWith_13 (by decide) rfl rfl ?_
        refine AW.iconst (v := 1) (pc := 15) dL_hazardsWith_15 (by decide) ?_
        exact AW.iret (pc := 16) dL_hazardsWith_16 rfl rfl (by omega) (by omega) (hQ _ _ _ hw)
      by_cases e1 : E = "java/lang/IndexOutOfBoundsException"
      · subst e1
        have hw := hw.2.1 rfl
        refine AX.catch_w (x := (0, 10, 17, 13)) (pre := [(0, 10, 13, 15)]) (suf := [(0, 10, 21, 21)]) (L' := [.ref 1, .int p1, .int p2, .ref 61, .null]) rfl (by decide) (fun z hz => by rw [List.mem_singleton] at hz; subst hz; exact ⟨by decide, "java/lang/IllegalStateException", by decide, by decide, tw_577⟩) (by decide) (by decide) (by decide) tw_576 tw_424 dL_hazardsWith_17 (by decide) rfl rfl ?_
        refine AW.iconst (v := 2) (pc := 19) dL_hazardsWith_19 (by decide) ?_
        exact AW.iret (pc := 20) dL_hazardsWith_20 rfl rfl (by omega) (by omega) (hQ _ _ _ hw)
      by_cases e2 : E = "java/lang/IllegalArgumentException"
      · subst e2
        have hw := hw.2.2.1 rfl
        refine AX.catch_w (x := (0, 10, 21, 21)) (pre := [(0, 10, 13, 15), (0, 10, 17, 13)]) (suf := []) (L' := [.ref 1, .int p1, .int p2, .ref 61, .null]) rfl (by decide) (fun z hz => by rcases List.mem_cons.mp hz with rfl | hz; exact ⟨by decide, "java/lang/IllegalStateException", by decide, by decide, tw_577⟩; rw [List.mem_singleton] at hz; subst hz; exact ⟨by decide, "java/lang/IndexOutOfBoundsException", by decide, by decide, tw_576⟩) (by decide) (by decide) (by decide) tw_634 tw_348 dL_hazardsWith_21 (by decide) rfl rfl ?_
        refine AW.iconst (v := 3) (pc := 23) dL_hazardsWith_23 (by decide) ?_
        exact AW.iret (pc := 24) dL_hazardsWith_24 rfl rfl (by omega) (by omega) (hQ _ _ _ hw)
      exact (hw.2.2.2 e0 e1 e2).elim
set_option maxRecDepth 100000 in
set_option maxHeartbeats 4000000 in
theorem c_L_hazardsWith {d k t : Nat} {ex : Hp} {o : Nat → Int64} {K : Int32 → (Nat → Int64) → Mem → Prop} {m : Mem} {p1 : Int32} {p2 : Int32} (ht : tok t) (hd : 9 ≤ d) (hw : w_L_hazardsWith p1 p2 o m K) : AM mL_hazardsWith d [.ref 1, .int p1, .int p2, .ref 61] (lay t ex o m) k 3 18 (fun oc h' k' => k = k' ∧ ∃ (r : Int32) (o' : Nat → Int64) (m' : Mem), oc = .inl (some (.int r)) ∧ h' = lay t ex o' m' ∧ K r o' m') :=
  AM.introH (μ := mL_hazardsWith) (n := 1) (by decide) rfl rfl rfl (b_L_hazardsWith ht hd (by omega) (by omega) (fun _ _ _ hK => ⟨rfl, _, _, _, rfl, rfl, hK⟩) p1 p2 hw)
def w_L_input (p1 : Int32) (o : Nat → Int64) (m : Mem) (K : Int32 → (Nat → Int64) → Mem → Prop) : Prop :=
  w_N_input p1 m (fun r2 m1 => K (0 : Int32) (vp_updL o 0 r2.toInt64) m1) (fun E m3 => (E = "java/lang/IndexOutOfBoundsException" → K (1 : Int32) o m3) ∧ (E = "java/lang/IllegalStateException" → K (2 : Int32) o m3) ∧ (¬ E = "java/lang/IndexOutOfBoundsException" → ¬ E = "java/lang/IllegalStateException" → False))
set_option maxRecDepth 100000 in
set_option maxHeartbeats 4000000 in
theorem b_L_input {Z : Gz} {d k0 mc ms cs ss k t : Nat} {Q : Po} {ex : Hp} {o : Nat → Int64} {K : Int32 → (Nat → Int64) → Mem → Prop}  (ht : tok t) (hd : 8 ≤ d) (hcs : cs + 2 ≤ mc) (hss : ss + 12 ≤ ms) (hQ : ∀ (r : Int32) (o : Nat → Int64) (m : Mem), K r o m → Q (.inl (some (.int r))) (lay t ex o m) k) {m : Mem} (p1 : Int32) (hw : w_L_input p1 o m K) : AW Z mL_input d k0 mc ms Q 0 [.ref 1, .int p1, .ref 61, .null] [] (lay t ex o m) k cs ss := by
  unfold w_L_input at hw
  refine AW.aload_n (pc := 0) dL_input_0 rfl rfl ?_
  refine AW.iconst (v := 0) (pc := 1) dL_input_1 (by decide) ?_
  refine AW.aload_n (pc := 2) dL_input_2 rfl rfl ?_
  refine AW.iload_n (pc := 3) dL_input_3 rfl rfl ?_
  refine AW.callV (pc := 4) (S' := [.int (0 : Int32), .ref 61]) dL_input_4 (c_N_input (d := d - 1) ht (by omega) hw) ok_X4_input tw_579 tw_580 tw_578 (fix_pos (by decide)) (lay_at ht (by decide)) (show aw_cl[4]? = some _ from rfl) rfl rfl (by omega) rfl (Nat.le_of_ble_eq_true rfl) (by omega) (by omega) ?_ ?_
  · intro v h' k' hq
    obtain ⟨rfl, m1, rfl, (⟨r2, hv, hw⟩ | ⟨E, hv, hw⟩)⟩ := hq
    · cases hv
      show AW _ _ _ _ _ _ _ 7 [.ref 1, .int p1, .ref 61, .null] [.int r2, .int (0 : Int32), .ref 61] (lay t ex o m1) k _ _
      refine AW.i2l (pc := 7) dL_input_7 ?_
      refine LW.lasto (pc := 8) ht dL_input_8 ?_
      refine AW.goto (pc := 9) (tgt := 18) dL_input_9 (by decide) ?_
      refine AW.iconst (v := 0) (pc := 18) dL_input_18 (by decide) ?_
      exact AW.iret (pc := 19) dL_input_19 rfl rfl (by omega) (by omega) (hQ _ _ _ hw)
    · cases hv
  · intro E h' k' hq
    obtain ⟨rfl, m3, rfl, (⟨r2, hv, hw⟩ | ⟨E2, hv, hw⟩)⟩ := hq
    · cases hv
    · cases hv
      by_cases e0 : E = "java/lang/IndexOutOfBoundsException"
      · subst e0
        have hw := hw.1 rfl
        refine AX.catch_n (x := (0, 9, 12, 13)) (pre := []) (suf := [(0, 9, 15, 15)]) (L' := [.ref 1, .int p1, .ref 61, .null]) rfl (by decide) (fun _ h => nomatch h) (by decide) (by decide) (by decide) tw_576 tw_424 dL_input_12 rfl (by decide) rfl rfl ?_
        refine AW.iconst (v := 1) (pc := 13) dL_input_13 (by decide) ?_
        exact AW.iret (pc := 14) dL_input_14 rfl rfl (by omega) (by omega) (hQ _ _ _ hw)
      by_cases e1 : E = "java/lang/IllegalStateException"
      · subst e1
        have hw := hw.2.1 rfl
        refine AX.catch_n (x := (0, 9, 15, 15)) (pre := [(0, 9, 12, 13)]) (suf := []) (L' := [.ref 1, .int p1, .ref 61, .null]) rfl (by decide) (fun z hz => by rw [List.mem_singleton] at hz; subst hz; exact ⟨by decide, "java/lang/IndexOutOfBoundsException", by decide, by decide, tw_576⟩) (by decide) (by decide) (by decide) tw_577 tw_498 dL_input_15 rfl (by decide) rfl rfl ?_
        refine AW.iconst (v := 2) (pc := 16) dL_input_16 (by decide) ?_
        exact AW.iret (pc := 17) dL_input_17 rfl rfl (by omega) (by omega) (hQ _ _ _ hw)
      exact (hw.2.2 e0 e1).elim
set_option maxRecDepth 100000 in
set_option maxHeartbeats 4000000 in
theorem c_L_input {d k t : Nat} {ex : Hp} {o : Nat → Int64} {K : Int32 → (Nat → Int64) → Mem → Prop} {m : Mem} {p1 : Int32} (ht : tok t) (hd : 8 ≤ d) (hw : w_L_input p1 o m K) : AM mL_input d [.ref 1, .int p1, .ref 61] (lay t ex o m) k 2 12 (fun oc h' k' => k = k' ∧ ∃ (r : Int32) (o' : Nat → Int64) (m' : Mem), oc = .inl (some (.int r)) ∧ h' = lay t ex o' m' ∧ K r o' m') :=
  AM.introH (μ := mL_input) (n := 1) (by decide) rfl rfl rfl (b_L_input ht hd (by omega) (by omega) (fun _ _ _ hK => ⟨rfl, _, _, _, rfl, rfl, hK⟩) p1 hw)
def w_L_longestWith (p1 : Int32) (p2 : Int32) (o : Nat → Int64) (m : Mem) (K : Int32 → (Nat → Int64) → Mem → Prop) : Prop :=
  w_N_longestWith p1 p2 m (fun r2 m1 => K (0 : Int32) (vp_updL o 0 r2.toInt64) m1) (fun E m3 => (E = "java/lang/IndexOutOfBoundsException" → K (1 : Int32) o m3) ∧ (E = "java/lang/IllegalArgumentException" → K (2 : Int32) o m3) ∧ (¬ E = "java/lang/IndexOutOfBoundsException" → ¬ E = "java/lang/IllegalArgumentException" → False))
set_option maxRecDepth 100000 in
set_option maxHeartbeats 4000000 in
theorem b_L_longestWith {Z : Gz} {d k0 mc ms cs ss k t : Nat} {Q : Po} {ex : Hp} {o : Nat → Int64} {K : Int32 → (Nat → Int64) → Mem → Prop}  (ht : tok t) (hd : 7 ≤ d) (hcs : cs + 3 ≤ mc) (hss : ss + 18 ≤ ms) (hQ : ∀ (r : Int32) (o : Nat → Int64) (m : Mem), K r o m → Q (.inl (some (.int r))) (lay t ex o m) k) {m : Mem} (p1 : Int32) (p2 : Int32) (hw : w_L_longestWith p1 p2 o m K) : AW Z mL_longestWith d k0 mc ms Q 0 [.ref 1, .int p1, .int p2, .ref 61, .null] [] (lay t ex o m) k cs ss := by
  unfold w_L_longestWith at hw
  refine AW.aload_n (pc := 0) dL_longestWith_0 rfl rfl ?_
  refine AW.iconst (v := 0) (pc := 1) dL_longestWith_1 (by decide) ?_
  refine AW.aload_n (pc := 2) dL_longestWith_2 rfl rfl ?_
  refine AW.iload_n (pc := 3) dL_longestWith_3 rfl rfl ?_
  refine AW.iload_n (pc := 4) dL_longestWith_4 rfl rfl ?_
  refine AW.callV (pc := 5) (S' := [.int (0 : Int32), .ref 61]) dL_longestWith_5 (c_N_longestWith (d := d - 1) ht (by omega) hw) ok_X4_longestWith tw_785 tw_786 tw_784 (fix_pos (by decide)) (lay_at ht (by decide)) (show aw_cl[4]? = some _ from rfl) rfl rfl (by omega) rfl (Nat.le_of_ble_eq_true rfl) (by omega) (by omega) ?_ ?_
  · intro v h' k' hq
    obtain ⟨rfl, m1, rfl, (⟨r2, hv, hw⟩ | ⟨E, hv, hw⟩)⟩ := hq
    · cases hv
      show AW _ _ _ _ _ _ _ 8 [.ref 1, .int p1, .int p2, .ref 61, .null] [.int r2, .int (0 : Int32), .ref 61] (lay t ex o m1) k _ _
      refine AW.i2l (pc := 8) dL_longestWith_8 ?_
      refine LW.lasto (pc := 9) ht dL_longestWith_9 ?_
      refine AW.goto (pc := 10) (tgt := 21) dL_longestWith_10 (by decide) ?_
      refine AW.iconst (v := 0) (pc := 21) dL_longestWith_21 (by decide) ?_
      exact AW.iret (pc := 22) dL_longestWith_22 rfl rfl (by omega) (by omega) (hQ _ _ _ hw)
    · cases hv
  · intro E h' k' hq
    obtain ⟨rfl, m3, rfl, (⟨r2, hv, hw⟩ | ⟨E2, hv, hw⟩)⟩ := hq
    · cases hv
    · cases hv
      by_cases e0 : E = "java/lang/IndexOutOfBoundsException"
      · subst e0
        have hw := hw.1 rfl
        refine AX.catch_w (x := (0, 10, 13, 13)) (pre := []) (suf := [(0, 10, 17, 21)]) (L' := [.ref 1, .int p1, .int p2, .ref 61, .null]) rfl (by decide) (fun _ h => nomatch h) (by decide) (by decide) (by decide) tw_576 tw_424 dL_longestWith_13 (by decide) rfl rfl ?_
        refine AW.iconst (v := 1) (pc := 15) dL_longestWith_15 (by decide) ?_
        exact AW.iret (pc := 16) dL_longestWith_16 rfl rfl (by omega) (by omega) (hQ _ _ _ hw)
      by_cases e1 : E = "java/lang/IllegalArgumentException"
      · subst e1
        have hw := hw.2.1 rfl
        refine AX.catch_w (x := (0, 10, 17, 21)) (pre := [(0, 10, 13, 13)]) (suf := []) (L' := [.ref 1, .int p1, .int p2, .ref 61, .null]) rfl (by decide) (fun z hz => by rw [List.mem_singleton] at hz; subst hz; exact ⟨by decide, "java/lang/IndexOutOfBoundsException", by decide, by decide, tw_576⟩) (by decide) (by decide) (by decide) tw_634 tw_348 dL_longestWith_17 (by decide) rfl rfl ?_
        refine AW.iconst (v := 2) (pc := 19) dL_longestWith_19 (by decide) ?_
        exact AW.iret (pc := 20) dL_longestWith_20 rfl rfl (by omega) (by omega) (hQ _ _ _ hw)
      exact (hw.2.2 e0 e1).elim
set_option maxRecDepth 100000 in
set_option maxHeartbeats 4000000 in
theorem c_L_longestWith {d k t : Nat} {ex : Hp} {o : Nat → Int64} {K : Int32 → (Nat → Int64) → Mem → Prop} {m : Mem} {p1 : Int32} {p2 : Int32} (ht : tok t) (hd : 7 ≤ d) (hw : w_L_longestWith p1 p2 o m K) : AM mL_longestWith d [.ref 1, .int p1, .int p2, .ref 61] (lay t ex o m) k 3 18 (fun oc h' k' => k = k' ∧ ∃ (r : Int32) (o' : Nat → Int64) (m' : Mem), oc = .inl (some (.int r)) ∧ h' = lay t ex o' m' ∧ K r o' m') :=
  AM.introH (μ := mL_longestWith) (n := 1) (by decide) rfl rfl rfl (b_L_longestWith ht hd (by omega) (by omega) (fun _ _ _ hK => ⟨rfl, _, _, _, rfl, rfl, hK⟩) p1 p2 hw)
def w_L_ofFlaw (p1 : Int32) (p2 : Int32) (o : Nat → Int64) (m : Mem) (K : Int32 → (Nat → Int64) → Mem → Prop) : Prop :=
  w_N_ofFlaw p1 p2 m (fun r2 m1 => K (0 : Int32) (vp_updL o 0 r2.toInt64) m1) (fun E m3 => (E = "java/lang/IndexOutOfBoundsException" → K (1 : Int32) o m3) ∧ (E = "java/lang/IllegalArgumentException" → K (2 : Int32) o m3) ∧ (¬ E = "java/lang/IndexOutOfBoundsException" → ¬ E = "java/lang/IllegalArgumentException" → False))
set_option maxRecDepth 100000 in
set_option maxHeartbeats 4000000 in
theorem b_L_ofFlaw {Z : Gz} {d k0 mc ms cs ss k t : Nat} {Q : Po} {ex : Hp} {o : Nat → Int64} {K : Int32 → (Nat → Int64) → Mem → Prop}  (ht : tok t) (hd : 3 ≤ d) (hcs : cs + 1 ≤ mc) (hss : ss + 6 ≤ ms) (hQ : ∀ (r : Int32) (o : Nat → Int64) (m : Mem), K r o m → Q (.inl (some (.int r))) (lay t ex o m) k) {m : Mem} (p1 : Int32) (p2 : Int32) (hw : w_L_ofFlaw p1 p2 o m K) : AW Z mL_ofFlaw d k0 mc ms Q 0 [.ref 1, .int p1, .int p2, .ref 61, .null] [] (lay t ex o m) k cs ss := by
  unfold w_L_ofFlaw at hw
  refine AW.aload_n (pc := 0) dL_ofFlaw_0 rfl rfl ?_
  refine AW.iconst (v := 0) (pc := 1) dL_ofFlaw_1 (by decide) ?_
  refine AW.aload_n (pc := 2) dL_ofFlaw_2 rfl rfl ?_
  refine AW.iload_n (pc := 3) dL_ofFlaw_3 rfl rfl ?_
  refine AW.iload_n (pc := 4) dL_ofFlaw_4 rfl rfl ?_
  refine AW.callV (pc := 5) (S' := [.int (0 : Int32), .ref 61]) dL_ofFlaw_5 (c_N_ofFlaw (d := d - 1) ht (by omega) hw) ok_X4_ofFlaw tw_419 tw_420 tw_678 (fix_pos (by decide)) (lay_at ht (by decide)) (show aw_cl[4]? = some _ from rfl) rfl rfl (by omega) rfl (Nat.le_of_ble_eq_true rfl) (by omega) (by omega) ?_ ?_
  · intro v h' k' hq
    obtain ⟨rfl, m1, rfl, (⟨r2, hv, hw⟩ | ⟨E, hv, hw⟩)⟩ := hq
    · cases hv
      show AW _ _ _ _ _ _ _ 8 [.ref 1, .int p1, .int p2, .ref 61, .null] [.int r2, .int (0 : Int32), .ref 61] (lay t ex o m1) k _ _
      refine AW.i2l (pc := 8) dL_ofFlaw_8 ?_
      refine LW.lasto (pc := 9) ht dL_ofFlaw_9 ?_
      refine AW.goto (pc := 10) (tgt := 21) dL_ofFlaw_10 (by decide) ?_
      refine AW.iconst (v := 0) (pc := 21) dL_ofFlaw_21 (by decide) ?_
      exact AW.iret (pc := 22) dL_ofFlaw_22 rfl rfl (by omega) (by omega) (hQ _ _ _ hw)
    · cases hv
  · intro E h' k' hq
    obtain ⟨rfl, m3, rfl, (⟨r2, hv, hw⟩ | ⟨E2, hv, hw⟩)⟩ := hq
    · cases hv
    · cases hv
      by_cases e0 : E = "java/lang/IndexOutOfBoundsException"
      · subst e0
        have hw := hw.1 rfl
        refine AX.catch_w (x := (0, 10, 13, 13)) (pre := []) (suf := [(0, 10, 17, 21)]) (L' := [.ref 1, .int p1, .int p2, .ref 61, .null]) rfl (by decide) (fun _ h => nomatch h) (by decide) (by decide) (by decide) tw_576 tw_424 dL_ofFlaw_13 (by decide) rfl rfl ?_
        refine AW.iconst (v := 1) (pc := 15) dL_ofFlaw_15 (by decide) ?_
        exact AW.iret (pc := 16) dL_ofFlaw_16 rfl rfl (by omega) (by omega) (hQ _ _ _ hw)
      by_cases e1 : E = "java/lang/IllegalArgumentException"
      · subst e1
        have hw := hw.2.1 rfl
        refine AX.catch_w (x := (0, 10, 17, 21)) (pre := [(0, 10, 13, 13)]) (suf := []) (L' := [.ref 1, .int p1, .int p2, .ref 61, .null]) rfl (by decide) (fun z hz => by rw [List.mem_singleton] at hz; subst hz; exact ⟨by decide, "java/lang/IndexOutOfBoundsException", by decide, by decide, tw_576⟩) (by decide) (by decide) (by decide) tw_634 tw_348 dL_ofFlaw_17 (by decide) rfl rfl ?_
        refine AW.iconst (v := 2) (pc := 19) dL_ofFlaw_19 (by decide) ?_
        exact AW.iret (pc := 20) dL_ofFlaw_20 rfl rfl (by omega) (by omega) (hQ _ _ _ hw)
      exact (hw.2.2 e0 e1).elim
set_option maxRecDepth 100000 in
set_option maxHeartbeats 4000000 in
theorem c_L_ofFlaw {d k t : Nat} {ex : Hp} {o : Nat → Int64} {K : Int32 → (Nat → Int64) → Mem → Prop} {m : Mem} {p1 : Int32} {p2 : Int32} (ht : tok t) (hd : 3 ≤ d) (hw : w_L_ofFlaw p1 p2 o m K) : AM mL_ofFlaw d [.ref 1, .int p1, .int p2, .ref 61] (lay t ex o m) k 1 6 (fun oc h' k' => k = k' ∧ ∃ (r : Int32) (o' : Nat → Int64) (m' : Mem), oc = .inl (some (.int r)) ∧ h' = lay t ex o' m' ∧ K r o' m') :=
  AM.introH (μ := mL_ofFlaw) (n := 1) (by decide) rfl rfl rfl (b_L_ofFlaw ht hd (by omega) (by omega) (fun _ _ _ hK => ⟨rfl, _, _, _, rfl, rfl, hK⟩) p1 p2 hw)
def w_L_ofHazard (p1 : Int32) (p2 : Int32) (o : Nat → Int64) (m : Mem) (K : Int32 → (Nat → Int64) → Mem → Prop) : Prop :=
  w_N_ofHazard p1 p2 m (fun r2 m1 => K (0 : Int32) (vp_updL o 0 r2.toInt64) m1) (fun E m3 => (E = "java/lang/IndexOutOfBoundsException" → K (1 : Int32) o m3) ∧ (E = "java/lang/IllegalArgumentException" → K (2 : Int32) o m3) ∧ (¬ E = "java/lang/IndexOutOfBoundsException" → ¬ E = "java/lang/IllegalArgumentException" → False))
set_option maxRecDepth 100000 in
set_option maxHeartbeats 4000000 in
theorem b_L_ofHazard {Z : Gz} {d k0 mc ms cs ss k t : Nat} {Q : Po} {ex : Hp} {o : Nat → Int64} {K : Int32 → (Nat → Int64) → Mem → Prop}  (ht : tok t) (hd : 3 ≤ d) (hcs : cs + 1 ≤ mc) (hss : ss + 6 ≤ ms) (hQ : ∀ (r : Int32) (o : Nat → Int64) (m : Mem), K r o m → Q (.inl (some (.int r))) (lay t ex o m) k) {m : Mem} (p1 : Int32) (p2 : Int32) (hw : w_L_ofHazard p1 p2 o m K) : AW Z mL_ofHazard d k0 mc ms Q 0 [.ref 1, .int p1, .int p2, .ref 61, .null] [] (lay t ex o m) k cs ss := by
  unfold w_L_ofHazard at hw
  refine AW.aload_n (pc := 0) dL_ofHazard_0 rfl rfl ?_
  refine AW.iconst (v := 0) (pc := 1) dL_ofHazard_1 (by decide) ?_
  refine AW.aload_n (pc := 2) dL_ofHazard_2 rfl rfl ?_
  refine AW.iload_n (pc := 3) dL_ofHazard_3 rfl rfl ?_
  refine AW.iload_n (pc := 4) dL_ofHazard_4 rfl rfl ?_
  refine AW.callV (pc := 5) (S' := [.int (0 : Int32), .ref 61]) dL_ofHazard_5 (c_N_ofHazard (d := d - 1) ht (by omega) hw) ok_X4_ofHazard tw_483 tw_484 tw_762 (fix_pos (by decide)) (lay_at ht (by decide)) (show aw_cl[4]? = some _ from rfl) rfl rfl (by omega) rfl (Nat.le_of_ble_eq_true rfl) (by omega) (by omega) ?_ ?_
  · intro v h' k' hq
    obtain ⟨rfl, m1, rfl, (⟨r2, hv, hw⟩ | ⟨E, hv, hw⟩)⟩ := hq
    · cases hv
      show AW _ _ _ _ _ _ _ 8 [.ref 1, .int p1, .int p2, .ref 61, .null] [.int r2, .int (0 : Int32), .ref 61] (lay t ex o m1) k _ _
      refine AW.i2l (pc := 8) dL_ofHazard_8 ?_
      refine LW.lasto (pc := 9) ht dL_ofHazard_9 ?_
      refine AW.goto (pc := 10) (tgt := 21) dL_ofHazard_10 (by decide) ?_
      refine AW.iconst (v := 0) (pc := 21) dL_ofHazard_21 (by decide) ?_
      exact AW.iret (pc := 22) dL_ofHazard_22 rfl rfl (by omega) (by omega) (hQ _ _ _ hw)
    · cases hv
  · intro E h' k' hq
    obtain ⟨rfl, m3, rfl, (⟨r2, hv, hw⟩ | ⟨E2, hv, hw⟩)⟩ := hq
    · cases hv
    · cases hv
      by_cases e0 : E = "java/lang/IndexOutOfBoundsException"
      · subst e0
        have hw := hw.1 rfl
        refine AX.catch_w (x := (0, 10, 13, 13)) (pre := []) (suf := [(0, 10, 17, 21)]) (L' := [.ref 1, .int p1, .int p2, .ref 61, .null]) rfl (by decide) (fun _ h => nomatch h) (by decide) (by decide) (by decide) tw_576 tw_424 dL_ofHazard_13 (by decide) rfl rfl ?_
        refine AW.iconst (v := 1) (pc := 15) dL_ofHazard_15 (by decide) ?_
        exact AW.iret (pc := 16) dL_ofHazard_16 rfl rfl (by omega) (by omega) (hQ _ _ _ hw)
      by_cases e1 : E = "java/lang/IllegalArgumentException"
      · subst e1
        have hw := hw.2.1 rfl
        refine AX.catch_w (x := (0, 10, 17, 21)) (pre := [(0, 10, 13, 13)]) (suf := []) (L' := [.ref 1, .int p1, .int p2, .ref 61, .null]) rfl (by decide) (fun z hz => by rw [List.mem_singleton] at hz; subst hz; exact ⟨by decide, "java/lang/IndexOutOfBoundsException", by decide, by decide, tw_576⟩) (by decide) (by decide) (by decide) tw_634 tw_348 dL_ofHazard_17 (by decide) rfl rfl ?_
        refine AW.iconst (v := 2) (pc := 19) dL_ofHazard_19 (by decide) ?_
        exact AW.iret (pc := 20) dL_ofHazard_20 rfl rfl (by omega) (by omega) (hQ _ _ _ hw)
      exact (hw.2.2 e0 e1).elim
set_option maxRecDepth 100000 in
set_option maxHeartbeats 4000000 in
theorem c_L_ofHazard {d k t : Nat} {ex : Hp} {o : Nat → Int64} {K : Int32 → (Nat → Int64) → Mem → Prop} {m : Mem} {p1 : Int32} {p2 : Int32} (ht : tok t) (hd : 3 ≤ d) (hw : w_L_ofHazard p1 p2 o m K) : AM mL_ofHazard d [.ref 1, .int p1, .int p2, .ref 61] (lay t ex o m) k 1 6 (fun oc h' k' => k = k' ∧ ∃ (r : Int32) (o' : Nat → Int64) (m' : Mem), oc = .inl (some (.int r)) ∧ h' = lay t ex o' m' ∧ K r o' m') :=
  AM.introH (μ := mL_ofHazard) (n := 1) (by decide) rfl rfl rfl (b_L_ofHazard ht hd (by omega) (by omega) (fun _ _ _ hK => ⟨rfl, _, _, _, rfl, rfl, hK⟩) p1 p2 hw)
def w_L_ofWire (p1 : Int32) (p2 : Int32) (o : Nat → Int64) (m : Mem) (K : Int32 → (Nat → Int64) → Mem → Prop) : Prop :=
  w_N_ofWire p1 p2 m (fun r2 m1 => K (0 : Int32) (vp_updL o 0 r2.toInt64) m1) (fun E m3 => (E = "java/lang/IndexOutOfBoundsException" → K (1 : Int32) o m3) ∧ (E = "java/lang/IllegalArgumentException" → K (2 : Int32) o m3) ∧ (¬ E = "java/lang/IndexOutOfBoundsException" → ¬ E = "java/lang/IllegalArgumentException" → False))
set_option maxRecDepth 100000 in
set_option maxHeartbeats 4000000 in
theorem b_L_ofWire {Z : Gz} {d k0 mc ms cs ss k t : Nat} {Q : Po} {ex : Hp} {o : Nat → Int64} {K : Int32 → (Nat → Int64) → Mem → Prop}  (ht : tok t) (hd : 5 ≤ d) (hcs : cs + 2 ≤ mc) (hss : ss + 12 ≤ ms) (hQ : ∀ (r : Int32) (o : Nat → Int64) (m : Mem), K r o m → Q (.inl (some (.int r))) (lay t ex o m) k) {m : Mem} (p1 : Int32) (p2 : Int32) (hw : w_L_ofWire p1 p2 o m K) : AW Z mL_ofWire d k0 mc ms Q 0 [.ref 1, .int p1, .int p2, .ref 61, .null] [] (lay t ex o m) k cs ss := by
  unfold w_L_ofWire at hw
  refine AW.aload_n (pc := 0) dL_ofWire_0 rfl rfl ?_
  refine AW.iconst (v := 0) (pc := 1) dL_ofWire_1 (by decide) ?_
  refine AW.aload_n (pc := 2) dL_ofWire_2 rfl rfl ?_
  refine AW.iload_n (pc := 3) dL_ofWire_3 rfl rfl ?_
  refine AW.iload_n (pc := 4) dL_ofWire_4 rfl rfl ?_
  refine AW.callV (pc := 5) (S' := [.int (0 : Int32), .ref 61]) dL_ofWire_5 (c_N_ofWire (d := d - 1) ht (by omega) hw) ok_X4_ofWire tw_464 tw_465 tw_754 (fix_pos (by decide)) (lay_at ht (by decide)) (show aw_cl[4]? = some _ from rfl) rfl rfl (by omega) rfl (Nat.le_of_ble_eq_true rfl) (by omega) (by omega) ?_ ?_
  · intro v h' k' hq
    obtain ⟨rfl, m1, rfl, (⟨r2, hv, hw⟩ | ⟨E, hv, hw⟩)⟩ := hq
    · cases hv
      show AW _ _ _ _ _ _ _ 8 [.ref 1, .int p1, .int p2, .ref 61, .null] [.int r2, .int (0 : Int32), .ref 61] (lay t ex o m1) k _ _
      refine AW.i2l (pc := 8) dL_ofWire_8 ?_
      refine LW.lasto (pc := 9) ht dL_ofWire_9 ?_
      refine AW.goto (pc := 10) (tgt := 21) dL_ofWire_10 (by decide) ?_
      refine AW.iconst (v := 0) (pc := 21) dL_ofWire_21 (by decide) ?_
      exact AW.iret (pc := 22) dL_ofWire_22 rfl rfl (by omega) (by omega) (hQ _ _ _ hw)
    · cases hv
  · intro E h' k' hq
    obtain ⟨rfl, m3, rfl, (⟨r2, hv, hw⟩ | ⟨E2, hv, hw⟩)⟩ := hq
    · cases hv
    · cases hv
      by_cases e0 : E = "java/lang/IndexOutOfBoundsException"
      · subst e0
        have hw := hw.1 rfl
        refine AX.catch_w (x := (0, 10, 13, 13)) (pre := []) (suf := [(0, 10, 17, 21)]) (L' := [.ref 1, .int p1, .int p2, .ref 61, .null]) rfl (by decide) (fun _ h => nomatch h) (by decide) (by decide) (by decide) tw_576 tw_424 dL_ofWire_13 (by decide) rfl rfl ?_
        refine AW.iconst (v := 1) (pc := 15) dL_ofWire_15 (by decide) ?_
        exact AW.iret (pc := 16) dL_ofWire_16 rfl rfl (by omega) (by omega) (hQ _ _ _ hw)
      by_cases e1 : E = "java/lang/IllegalArgumentException"
      · subst e1
        have hw := hw.2.1 rfl
        refine AX.catch_w (x := (0, 10, 17, 21)) (pre := [(0, 10, 13, 13)]) (suf := []) (L' := [.ref 1, .int p1, .int p2, .ref 61, .null]) rfl (by decide) (fun z hz => by rw [List.mem_singleton] at hz; subst hz; exact ⟨by decide, "java/lang/IndexOutOfBoundsException", by decide, by decide, tw_576⟩) (by decide) (by decide) (by decide) tw_634 tw_348 dL_ofWire_17 (by decide) rfl rfl ?_
        refine AW.iconst (v := 2) (pc := 19) dL_ofWire_19 (by decide) ?_
        exact AW.iret (pc := 20) dL_ofWire_20 rfl rfl (by omega) (by omega) (hQ _ _ _ hw)
      exact (hw.2.2 e0 e1).elim
set_option maxRecDepth 100000 in
set_option maxHeartbeats 4000000 in
theorem c_L_ofWire {d k t : Nat} {ex : Hp} {o : Nat → Int64} {K : Int32 → (Nat → Int64) → Mem → Prop} {m : Mem} {p1 : Int32} {p2 : Int32} (ht : tok t) (hd : 5 ≤ d) (hw : w_L_ofWire p1 p2 o m K) : AM mL_ofWire d [.ref 1, .int p1, .int p2, .ref 61] (lay t ex o m) k 2 12 (fun oc h' k' => k = k' ∧ ∃ (r : Int32) (o' : Nat → Int64) (m' : Mem), oc = .inl (some (.int r)) ∧ h' = lay t ex o' m' ∧ K r o' m') :=
  AM.introH (μ := mL_ofWire) (n := 1) (by decide) rfl rfl rfl (b_L_ofWire ht hd (by omega) (by omega) (fun _ _ _ hK => ⟨rfl, _, _, _, rfl, rfl, hK⟩) p1 p2 hw)
def w_L_pass (p1 : Int32) (o : Nat → Int64) (m : Mem) (K : Int32 → (Nat → Int64) → Mem → Prop) : Prop :=
  w_N_pass p1 m (fun r2 m1 => K (0 : Int32) (vp_updL o 0 r2.toInt64) m1) (fun E m3 => (E = "java/lang/IllegalStateException" → K (1 : Int32) o m3) ∧ (E = "java/lang/IllegalArgumentException" → K (2 : Int32) o m3) ∧ (¬ E = "java/lang/IllegalStateException" → ¬ E = "java/lang/IllegalArgumentException" → False))
set_option maxRecDepth 100000 in
set_option maxHeartbeats 4000000 in
theorem b_L_pass {Z : Gz} {d k0 mc ms cs ss k t : Nat} {Q : Po} {ex : Hp} {o : Nat → Int64} {K : Int32 → (Nat → Int64) → Mem → Prop}  (ht : tok t) (hd : 8 ≤ d) (hcs : cs + 2 ≤ mc) (hss : ss + 12 ≤ ms) (hQ : ∀ (r : Int32) (o : Nat → Int64) (m : Mem), K r o m → Q (.inl (some (.int r))) (lay t ex o m) k) {m : Mem} (p1 : Int32) (hw : w_L_pass p1 o m K) : AW Z mL_pass d k0 mc ms Q 0 [.ref 1, .int p1, .ref 61, .null] [] (lay t ex o m) k cs ss := by
  unfold w_L_pass at hw
  refine AW.aload_n (pc := 0) dL_pass_0 rfl rfl ?_
  refine AW.iconst (v := 0) (pc := 1) dL_pass_1 (by decide) ?_
  refine AW.aload_n (pc := 2) dL_pass_2 rfl rfl ?_
  refine AW.iload_n (pc := 3) dL_pass_3 rfl rfl ?_
  refine AW.callV (pc := 4) (S' := [.int (0 : Int32), .ref 61]) dL_pass_4 (c_N_pass (d := d - 1) ht (by omega) hw) ok_X4_pass tw_725 tw_726 tw_724 (fix_pos (by decide)) (lay_at ht (by decide)) (show aw_cl[4]? = some _ from rfl) rfl rfl (by omega) rfl (Nat.le_of_ble_eq_true rfl) (by omega) (by omega) ?_ ?_
  · intro v h' k' hq
    obtain ⟨rfl, m1, rfl, (⟨r2, hv, hw⟩ | ⟨E, hv, hw⟩)⟩ := hq
    · cases hv
      show AW _ _ _ _ _ _ _ 7 [.ref 1, .int p1, .ref 61, .null] [.int r2, .int (0 : Int32), .ref 61] (lay t ex o m1) k _ _
      refine AW.i2l (pc := 7) dL_pass_7 ?_
      refine LW.lasto (pc := 8) ht dL_pass_8 ?_
      refine AW.goto (pc := 9) (tgt := 18) dL_pass_9 (by decide) ?_
      refine AW.iconst (v := 0) (pc := 18) dL_pass_18 (by decide) ?_
      exact AW.iret (pc := 19) dL_pass_19 rfl rfl (by omega) (by omega) (hQ _ _ _ hw)
    · cases hv
  · intro E h' k' hq
    obtain ⟨rfl, m3, rfl, (⟨r2, hv, hw⟩ | ⟨E2, hv, hw⟩)⟩ := hq
    · cases hv
    · cases hv
      by_cases e0 : E = "java/lang/IllegalStateException"
      · subst e0
        have hw := hw.1 rfl
        refine AX.catch_n (x := (0, 9, 12, 15)) (pre := []) (suf := [(0, 9, 15, 21)]) (L' := [.ref 1, .int p1, .ref 61, .null]) rfl (by decide) (fun _ h => nomatch h) (by decide) (by decide) (by decide) tw_577 tw_498 dL_pass_12 rfl (by decide) rfl rfl ?_
        refine AW.iconst (v := 1) (pc := 13) dL_pass_13 (by decide) ?_
        exact AW.iret (pc := 14) dL_pass_14 rfl rfl (by omega) (by omega) (hQ _ _ _ hw)
      by_cases e1 : E = "java/lang/IllegalArgumentException"
      · subst e1
        have hw := hw.2.1 rfl
        refine AX.catch_n (x := (0, 9, 15, 21)) (pre := [(0, 9, 12, 15)]) (suf := []) (L' := [.ref 1, .int p1, .ref 61, .null]) rfl (by decide) (fun z hz => by rw [List.mem_singleton] at hz; subst hz; exact ⟨by decide, "java/lang/IllegalStateException", by decide, by decide, tw_577⟩) (by decide) (by decide) (by decide) tw_634 tw_348 dL_pass_15 rfl (by decide) rfl rfl ?_
        refine AW.iconst (v := 2) (pc := 16) dL_pass_16 (by decide) ?_
        exact AW.iret (pc := 17) dL_pass_17 rfl rfl (by omega) (by omega) (hQ _ _ _ hw)
      exact (hw.2.2 e0 e1).elim
set_option maxRecDepth 100000 in
set_option maxHeartbeats 4000000 in
theorem c_L_pass {d k t : Nat} {ex : Hp} {o : Nat → Int64} {K : Int32 → (Nat → Int64) → Mem → Prop} {m : Mem} {p1 : Int32} (ht : tok t) (hd : 8 ≤ d) (hw : w_L_pass p1 o m K) : AM mL_pass d [.ref 1, .int p1, .ref 61] (lay t ex o m) k 2 12 (fun oc h' k' => k = k' ∧ ∃ (r : Int32) (o' : Nat → Int64) (m' : Mem), oc = .inl (some (.int r)) ∧ h' = lay t ex o' m' ∧ K r o' m') :=
  AM.introH (μ := mL_pass) (n := 1) (by decide) rfl rfl rfl (b_L_pass ht hd (by omega) (by omega) (fun _ _ _ hK => ⟨rfl, _, _, _, rfl, rfl, hK⟩) p1 hw)
def w_L_pending (p1 : Int32) (o : Nat → Int64) (m : Mem) (K : Int32 → (Nat → Int64) → Mem → Prop) : Prop :=
  w_N_pending p1 m (fun r2 m1 => K (0 : Int32) (vp_updL o 0 r2.toInt64) m1) (fun E m3 => (E = "java/lang/IndexOutOfBoundsException" → K (1 : Int32) o m3) ∧ (¬ E = "java/lang/IndexOutOfBoundsException" → False))
set_option maxRecDepth 100000 in
set_option maxHeartbeats 4000000 in
theorem b_L_pending {Z : Gz} {d k0 mc ms cs ss k t : Nat} {Q : Po} {ex : Hp} {o : Nat → Int64} {K : Int32 → (Nat → Int64) → Mem → Prop}  (ht : tok t) (hd : 4 ≤ d) (hcs : cs + 1 ≤ mc) (hss : ss + 6 ≤ ms) (hQ : ∀ (r : Int32) (o : Nat → Int64) (m : Mem), K r o m → Q (.inl (some (.int r))) (lay t ex o m) k) {m : Mem} (p1 : Int32) (hw : w_L_pending p1 o m K) : AW Z mL_pending d k0 mc ms Q 0 [.ref 1, .int p1, .ref 61, .null] [] (lay t ex o m) k cs ss := by
  unfold w_L_pending at hw
  refine AW.aload_n (pc := 0) dL_pending_0 rfl rfl ?_
  refine AW.iconst (v := 0) (pc := 1) dL_pending_1 (by decide) ?_
  refine AW.aload_n (pc := 2) dL_pending_2 rfl rfl ?_
  refine AW.iload_n (pc := 3) dL_pending_3 rfl rfl ?_
  refine AW.callV (pc := 4) (S' := [.int (0 : Int32), .ref 61]) dL_pending_4 (c_N_pending (d := d - 1) ht (by omega) hw) ok_X4_pending tw_473 tw_474 tw_758 (fix_pos (by decide)) (lay_at ht (by decide)) (show aw_cl[4]? = some _ from rfl) rfl rfl (by omega) rfl (Nat.le_of_ble_eq_true rfl) (by omega) (by omega) ?_ ?_
  · intro v h' k' hq
    obtain ⟨rfl, m1, rfl, (⟨r2, hv, hw⟩ | ⟨E, hv, hw⟩)⟩ := hq
    · cases hv
      show AW _ _ _ _ _ _ _ 7 [.ref 1, .int p1, .ref 61, .null] [.int r2, .int (0 : Int32), .ref 61] (lay t ex o m1) k _ _
      refine AW.i2l (pc := 7) dL_pending_7 ?_
      refine LW.lasto (pc := 8) ht dL_pending_8 ?_
      refine AW.goto (pc := 9) (tgt := 15) dL_pending_9 (by decide) ?_
      refine AW.iconst (v := 0) (pc := 15) dL_pending_15 (by decide) ?_
      exact AW.iret (pc := 16) dL_pending_16 rfl rfl (by omega) (by omega) (hQ _ _ _ hw)
    · cases hv
  · intro E h' k' hq
    obtain ⟨rfl, m3, rfl, (⟨r2, hv, hw⟩ | ⟨E2, hv, hw⟩)⟩ := hq
    · cases hv
    · cases hv
      by_cases e0 : E = "java/lang/IndexOutOfBoundsException"
      · subst e0
        have hw := hw.1 rfl
        refine AX.catch_n (x := (0, 9, 12, 13)) (pre := []) (suf := []) (L' := [.ref 1, .int p1, .ref 61, .null]) rfl (by decide) (fun _ h => nomatch h) (by decide) (by decide) (by decide) tw_576 tw_424 dL_pending_12 rfl (by decide) rfl rfl ?_
        refine AW.iconst (v := 1) (pc := 13) dL_pending_13 (by decide) ?_
        exact AW.iret (pc := 14) dL_pending_14 rfl rfl (by omega) (by omega) (hQ _ _ _ hw)
      exact (hw.2 e0).elim
set_option maxRecDepth 100000 in
set_option maxHeartbeats 4000000 in
theorem c_L_pending {d k t : Nat} {ex : Hp} {o : Nat → Int64} {K : Int32 → (Nat → Int64) → Mem → Prop} {m : Mem} {p1 : Int32} (ht : tok t) (hd : 4 ≤ d) (hw : w_L_pending p1 o m K) : AM mL_pending d [.ref 1, .int p1, .ref 61] (lay t ex o m) k 1 6 (fun oc h' k' => k = k' ∧ ∃ (r : Int32) (o' : Nat → Int64) (m' : Mem), oc = .inl (some (.int r)) ∧ h' = lay t ex o' m' ∧ K r o' m') :=
  AM.introH (μ := mL_pending) (n := 1) (by decide) rfl rfl rfl (b_L_pending ht hd (by omega) (by omega) (fun _ _ _ hK => ⟨rfl, _, _, _, rfl, rfl, hK⟩) p1 hw)
def w_L_register (p1 : Int32) (p2 : Int32) (p3 : Int32) (p4 : Int32) (p5 : Int32) (o : Nat → Int64) (m : Mem) (K : Int32 → (Nat → Int64) → Mem → Prop) : Prop :=
  w_N_register p1 p2 p3 p4 p5 m (fun r2 m1 => K (0 : Int32) (vp_updL o 0 r2.toInt64) m1) (fun E m3 => (E = "java/lang/IndexOutOfBoundsException" → K (1 : Int32) o m3) ∧ (E = "java/lang/IllegalArgumentException" → K (2 : Int32) o m3) ∧ (E = "java/lang/IllegalStateException" → K (3 : Int32) o m3) ∧ (¬ E = "java/lang/IndexOutOfBoundsException" → ¬ E = "java/lang/IllegalArgumentException" → ¬ E = "java/lang/IllegalStateException" → False))
set_option maxRecDepth 100000 in
set_option maxHeartbeats 4000000 in
theorem b_L_register {Z : Gz} {d k0 mc ms cs ss k t : Nat} {Q : Po} {ex : Hp} {o : Nat → Int64} {K : Int32 → (Nat → Int64) → Mem → Prop}  (ht : tok t) (hd : 8 ≤ d) (hcs : cs + 6 ≤ mc) (hss : ss + 36 ≤ ms) (hQ : ∀ (r : Int32) (o : Nat → Int64) (m : Mem), K r o m → Q (.inl (some (.int r))) (lay t ex o m) k) {m : Mem} (p1 : Int32) (p2 : Int32) (p3 : Int32) (p4 : Int32) (p5 : Int32) (hw : w_L_register p1 p2 p3 p4 p5 o m K) : AW Z mL_register d k0 mc ms Q 0 [.ref 1, .int p1, .int p2, .int p3, .int p4, .int p5, .ref 61, .null] [] (lay t ex o m) k cs ss := by
  unfold w_L_register at hw
  refine AW.aload (pc := 0) dL_register_0 rfl ?_
  refine AW.iconst (v := 0) (pc := 2) dL_register_2 (by decide) ?_
  refine AW.aload_n (pc := 3) dL_register_3 rfl rfl ?_
  refine AW.iload_n (pc := 4) dL_register_4 rfl rfl ?_
  refine AW.iload_n (pc := 5) dL_register_5 rfl rfl ?_
  refine AW.iload_n (pc := 6) dL_register_6 rfl rfl ?_
  refine AW.iload (pc := 7) dL_register_7 rfl ?_
  refine AW.iload (pc := 9) dL_register_9 rfl ?_
  refine AW.callV (pc := 11) (S' := [.int (0 : Int32), .ref 61]) dL_register_11 (c_N_register (d := d - 1) ht (by omega) hw) ok_X4_register tw_651 tw_652 tw_650 (fix_pos (by decide)) (lay_at ht (by decide)) (show aw_cl[4]? = some _ from rfl) rfl rfl (by omega) rfl (Nat.le_of_ble_eq_true rfl) (by omega) (by omega) ?_ ?_
  · intro v h' k' hq
    obtain ⟨rfl, m1, rfl, (⟨r2, hv, hw⟩ | ⟨E, hv, hw⟩)⟩ := hq
    · cases hv
      show AW _ _ _ _ _ _ _ 14 [.ref 1, .int p1, .int p2, .int p3, .int p4, .int p5, .ref 61, .null] [.int r2, .int (0 : Int32), .ref 61] (lay t ex o m1) k _ _
      refine AW.i2l (pc := 14) dL_register_14 ?_
      refine LW.lasto (pc := 15) ht dL_register_15 ?_
      refine AW.goto (pc := 16) (tgt := 31) dL_register_16 (by decide) ?_
      refine AW.iconst (v := 0) (pc := 31) dL_register_31 (by decide) ?_
      exact AW.iret (pc := 32) dL_register_32 rfl rfl (by omega) (by omega) (hQ _ _ _ hw)
    · cases hv
  · intro E h' k' hq
    obtain ⟨rfl, m3, rfl, (⟨r2, hv, hw⟩ | ⟨E2, hv, hw⟩)⟩ := hq
    · cases hv
    · cases hv
      by_cases e0 : E = "java/lang/IndexOutOfBoundsException"
      · subst e0
        have hw := hw.1 rfl
        refine AX.catch_w (x := (0, 16, 19, 13)) (pre := []) (suf := [(0, 16, 23, 21), (0, 16, 27, 15)]) (L' := [.ref 1, .int p1, .int p2, .int p3, .int p4, .int p5, .ref 61, .null]) rfl (by decide) (fun _ h => nomatch h) (by decide) (by decide) (by decide) tw_576 tw_424 dL_register_19 (by decide) rfl rfl ?_
        refine AW.iconst (v := 1) (pc := 21) dL_register_21 (by decide) ?_
        exact AW.iret (pc := 22) dL_register_22 rfl rfl (by omega) (by omega) (hQ _ _ _ hw)
      by_cases e1 : E = "java/lang/IllegalArgumentException"
      · subst e1
        have hw := hw.2.1 rfl
        refine AX.catch_w (x := (0, 16, 23, 21)) (pre := [(0, 16, 19, 13)]) (suf := [(0, 16, 27, 15)]) (L' := [.ref 1, .int p1, .int p2, .int p3, .int p4, .int p5, .ref 61, .null]) rfl (by decide) (fun z hz => by rw [List.mem_singleton] at hz; subst hz; exact ⟨by decide, "java/lang/IndexOutOfBoundsException", by decide, by decide, tw_576⟩) (by decide) (by decide) (by decide) tw_634 tw_348 dL_register_23 (by decide) rfl rfl ?_
        refine AW.iconst (v := 2) (pc := 25) dL_register_25 (by decide) ?_
        exact AW.iret (pc := 26) dL_register_26 rfl rfl (by omega) (by omega) (hQ _ _ _ hw)
      by_cases e2 : E = "java/lang/IllegalStateException"
      · subst e2
        have hw := hw.2.2.1 rfl
        refine AX.catch_w (x := (0, 16, 27, 15)) (pre := [(0, 16, 19, 13), (0, 16, 23, 21)]) (suf := []) (L' := [.ref 1, .int p1, .int p2, .int p3, .int p4, .int p5, .ref 61, .null]) rfl (by decide) (fun z hz => by rcases List.mem_cons.mp hz with rfl | hz; exact ⟨by decide, "java/lang/IndexOutOfBoundsException", by decide, by decide, tw_576⟩; rw [List.mem_singleton] at hz; subst hz; exact ⟨by decide, "java/lang/IllegalArgumentException", by decide, by decide, tw_634⟩) (by decide) (by decide) (by decide) tw_577 tw_498 dL_register_27 (by decide) rfl rfl ?_
        refine AW.iconst (v := 3) (pc := 29) dL_register_29 (by decide) ?_
        exact AW.iret (pc := 30) dL_register_30 rfl rfl (by omega) (by omega) (hQ _ _ _ hw)
      exact (hw.2.2.2 e0 e1 e2).elim
set_option maxRecDepth 100000 in
set_option maxHeartbeats 4000000 in
theorem c_L_register {d k t : Nat} {ex : Hp} {o : Nat → Int64} {K : Int32 → (Nat → Int64) → Mem → Prop} {m : Mem} {p1 : Int32} {p2 : Int32} {p3 : Int32} {p4 : Int32} {p5 : Int32} (ht : tok t) (hd : 8 ≤ d) (hw : w_L_register p1 p2 p3 p4 p5 o m K) : AM mL_register d [.ref 1, .int p1, .int p2, .int p3, .int p4, .int p5, .ref 61] (lay t ex o m) k 6 36 (fun oc h' k' => k = k' ∧ ∃ (r : Int32) (o' : Nat → Int64) (m' : Mem), oc = .inl (some (.int r)) ∧ h' = lay t ex o' m' ∧ K r o' m') :=
  AM.introH (μ := mL_register) (n := 1) (by decide) rfl rfl rfl (b_L_register ht hd (by omega) (by omega) (fun _ _ _ hK => ⟨rfl, _, _, _, rfl, rfl, hK⟩) p1 p2 p3 p4 p5 hw)
def w_L_set (p1 : Int32) (p2 : Int32) (o : Nat → Int64) (m : Mem) (K : Int32 → (Nat → Int64) → Mem → Prop) : Prop :=
  w_N_set p1 p2 m (fun r2 m1 => K (0 : Int32) (vp_updL o 0 r2.toInt64) m1) (fun E m3 => (E = "java/lang/IllegalStateException" → K (1 : Int32) o m3) ∧ (E = "java/lang/IndexOutOfBoundsException" → K (2 : Int32) o m3) ∧ (E = "java/lang/IllegalArgumentException" → K (3 : Int32) o m3) ∧ (¬ E = "java/lang/IllegalStateException" → ¬ E = "java/lang/IndexOutOfBoundsException" → ¬ E = "java/lang/IllegalArgumentException" → False))
set_option maxRecDepth 100000 in
set_option maxHeartbeats 4000000 in
theorem b_L_set {Z : Gz} {d k0 mc ms cs ss k t : Nat} {Q : Po} {ex : Hp} {o : Nat → Int64} {K : Int32 → (Nat → Int64) → Mem → Prop}  (ht : tok t) (hd : 8 ≤ d) (hcs : cs + 3 ≤ mc) (hss : ss + 18 ≤ ms) (hQ : ∀ (r : Int32) (o : Nat → Int64) (m : Mem), K r o m → Q (.inl (some (.int r))) (lay t ex o m) k) {m : Mem} (p1 : Int32) (p2 : Int32) (hw : w_L_set p1 p2 o m K) : AW Z mL_set d k0 mc ms Q 0 [.ref 1, .int p1, .int p2, .ref 61, .null] [] (lay t ex o m) k cs ss := by
  unfold w_L_set at hw
  refine AW.aload_n (pc := 0) dL_set_0 rfl rfl ?_
  refine AW.iconst (v := 0) (pc := 1) dL_set_1 (by decide) ?_
  refine AW.aload_n (pc := 2) dL_set_2 rfl rfl ?_
  refine AW.iload_n (pc := 3) dL_set_3 rfl rfl ?_
  refine AW.iload_n (pc := 4) dL_set_4 rfl rfl ?_
  refine AW.callV (pc := 5) (S' := [.int (0 : Int32), .ref 61]) dL_set_5 (c_N_set (d := d - 1) ht (by omega) hw) ok_X4_set tw_703 tw_704 tw_702 (fix_pos (by decide)) (lay_at ht (by decide)) (show aw_cl[4]? = some _ from rfl) rfl rfl (by omega) rfl (Nat.le_of_ble_eq_true rfl) (by omega) (by omega) ?_ ?_
  · intro v h' k' hq
    obtain ⟨rfl, m1, rfl, (⟨r2, hv, hw⟩ | ⟨E, hv, hw⟩)⟩ := hq
    · cases hv
      show AW _ _ _ _ _ _ _ 8 [.ref 1, .int p1, .int p2, .ref 61, .null] [.int r2, .int (0 : Int32), .ref 61] (lay t ex o m1) k _ _
      refine AW.i2l (pc := 8) dL_set_8 ?_
      refine LW.lasto (pc := 9) ht dL_set_9 ?_
      refine AW.goto (pc := 10) (tgt := 25) dL_set_10 (by decide) ?_
      refine AW.iconst (v := 0) (pc := 25) dL_set_25 (by decide) ?_
      exact AW.iret (pc := 26) dL_set_26 rfl rfl (by omega) (by omega) (hQ _ _ _ hw)
    · cases hv
  · intro E h' k' hq
    obtain ⟨rfl, m3, rfl, (⟨r2, hv, hw⟩ | ⟨E2, hv, hw⟩)⟩ := hq
    · cases hv
    · cases hv
      by_cases e0 : E = "java/lang/IllegalStateException"
      · subst e0
        have hw := hw.1 rfl
        refine AX.catch_w (x := (0, 10, 13, 15)) (pre := []) (suf := [(0, 10, 17, 13), (0, 10, 21, 21)]) (L' := [.ref 1, .int p1, .int p2, .ref 61, .null]) rfl (by decide) (fun _ h => nomatch h) (by decide) (by decide) (by decide) tw_577 tw_498 dL_set_13 (by decide) rfl rfl ?_
        refine AW.iconst (v := 1) (pc := 15) dL_set_15 (by decide) ?_
        exact AW.iret (pc := 16) dL_set_16 rfl rfl (by omega) (by omega) (hQ _ _ _ hw)
      by_cases e1 : E = "java/lang/IndexOutOfBoundsException"
      · subst e1
        have hw := hw.2.1 rfl
        refine AX.catch_w (x := (0, 10, 17, 13)) (pre := [(0, 10, 13, 15)]) (suf := [(0, 10, 21, 21)]) (L' := [.ref 1, .int p1, .int p2, .ref 61, .null]) rfl (by decide) (fun z hz => by rw [List.mem_singleton] at hz; subst hz; exact ⟨by decide, "java/lang/IllegalStateException", by decide, by decide, tw_577⟩) (by decide) (by decide) (by decide) tw_576 tw_424 dL_set_17 (by decide) rfl rfl ?_
        refine AW.iconst (v := 2) (pc := 19) dL_set_19 (by decide) ?_
        exact AW.iret (pc := 20) dL_set_20 rfl rfl (by omega) (by omega) (hQ _ _ _ hw)
      by_cases e2 : E = "java/lang/IllegalArgumentException"
      · subst e2
        have hw := hw.2.2.1 rfl
        refine AX.catch_w (x := (0, 10, 21, 21)) (pre := [(0, 10, 13, 15), (0, 10, 17, 13)]) (suf := []) (L' := [.ref 1, .int p1, .int p2, .ref 61, .null]) rfl (by decide) (fun z hz => by rcases List.mem_cons.mp hz with rfl | hz; exact ⟨by decide, "java/lang/IllegalStateException", by decide, by decide, tw_577⟩; rw [List.mem_singleton] at hz; subst hz; exact ⟨by decide, "java/lang/IndexOutOfBoundsException", by decide, by decide, tw_576⟩) (by decide) (by decide) (by decide) tw_634 tw_348 dL_set_21 (by decide) rfl rfl ?_
        refine AW.iconst (v := 3) (pc := 23) dL_set_23 (by decide) ?_
        exact AW.iret (pc := 24) dL_set_24 rfl rfl (by omega) (by omega) (hQ _ _ _ hw)
      exact (hw.2.2.2 e0 e1 e2).elim
set_option maxRecDepth 100000 in
set_option maxHeartbeats 4000000 in
theorem c_L_set {d k t : Nat} {ex : Hp} {o : Nat → Int64} {K : Int32 → (Nat → Int64) → Mem → Prop} {m : Mem} {p1 : Int32} {p2 : Int32} (ht : tok t) (hd : 8 ≤ d) (hw : w_L_set p1 p2 o m K) : AM mL_set d [.ref 1, .int p1, .int p2, .ref 61] (lay t ex o m) k 3 18 (fun oc h' k' => k = k' ∧ ∃ (r : Int32) (o' : Nat → Int64) (m' : Mem), oc = .inl (some (.int r)) ∧ h' = lay t ex o' m' ∧ K r o' m') :=
  AM.introH (μ := mL_set) (n := 1) (by decide) rfl rfl rfl (b_L_set ht hd (by omega) (by omega) (fun _ _ _ hK => ⟨rfl, _, _, _, rfl, rfl, hK⟩) p1 p2 hw)
def w_L_setDelay (p1 : Int32) (p2 : Int32) (o : Nat → Int64) (m : Mem) (K : Int32 → (Nat → Int64) → Mem → Prop) : Prop :=
  w_N_setDelay p1 p2 m (fun r2 m1 => K (0 : Int32) (vp_updL o 0 r2.toInt64) m1) (fun E m3 => (E = "java/lang/IndexOutOfBoundsException" → K (1 : Int32) o m3) ∧ (E = "java/lang/IllegalArgumentException" → K (2 : Int32) o m3) ∧ (¬ E = "java/lang/IndexOutOfBoundsException" → ¬ E = "java/lang/IllegalArgumentException" → False))
set_option maxRecDepth 100000 in
set_option maxHeartbeats 4000000 in
theorem b_L_setDelay {Z : Gz} {d k0 mc ms cs ss k t : Nat} {Q : Po} {ex : Hp} {o : Nat → Int64} {K : Int32 → (Nat → Int64) → Mem → Prop}  (ht : tok t) (hd : 7 ≤ d) (hcs : cs + 3 ≤ mc) (hss : ss + 18 ≤ ms) (hQ : ∀ (r : Int32) (o : Nat → Int64) (m : Mem), K r o m → Q (.inl (some (.int r))) (lay t ex o m) k) {m : Mem} (p1 : Int32) (p2 : Int32) (hw : w_L_setDelay p1 p2 o m K) : AW Z mL_setDelay d k0 mc ms Q 0 [.ref 1, .int p1, .int p2, .ref 61, .null] [] (lay t ex o m) k cs ss := by
  unfold w_L_setDelay at hw
  refine AW.aload_n (pc := 0) dL_setDelay_0 rfl rfl ?_
  refine AW.iconst (v := 0) (pc := 1) dL_setDelay_1 (by decide) ?_
  refine AW.aload_n (pc := 2) dL_setDelay_2 rfl rfl ?_
  refine AW.iload_n (pc := 3) dL_setDelay_3 rfl rfl ?_
  refine AW.iload_n (pc := 4) dL_setDelay_4 rfl rfl ?_
  refine AW.callV (pc := 5) (S' := [.int (0 : Int32), .ref 61]) dL_setDelay_5 (c_N_setDelay (d := d - 1) ht (by omega) hw) ok_X4_setDelay tw_667 tw_668 tw_666 (fix_pos (by decide)) (lay_at ht (by decide)) (show aw_cl[4]? = some _ from rfl) rfl rfl (by omega) rfl (Nat.le_of_ble_eq_true rfl) (by omega) (by omega) ?_ ?_
  · intro v h' k' hq
    obtain ⟨rfl, m1, rfl, (⟨r2, hv, hw⟩ | ⟨E, hv, hw⟩)⟩ := hq
    · cases hv
      show AW _ _ _ _ _ _ _ 8 [.ref 1, .int p1, .int p2, .ref 61, .null] [.int r2, .int (0 : Int32), .ref 61] (lay t ex o m1) k _ _
      refine AW.i2l (pc := 8) dL_setDelay_8 ?_
      refine LW.lasto (pc := 9) ht dL_setDelay_9 ?_
      refine AW.goto (pc := 10) (tgt := 21) dL_setDelay_10 (by decide) ?_
      refine AW.iconst (v := 0) (pc := 21) dL_setDelay_21 (by decide) ?_
      exact AW.iret (pc := 22) dL_setDelay_22 rfl rfl (by omega) (by omega) (hQ _ _ _ hw)
    · cases hv
  · intro E h' k' hq
    obtain ⟨rfl, m3, rfl, (⟨r2, hv, hw⟩ | ⟨E2, hv, hw⟩)⟩ := hq
    · cases hv
    · cases hv
      by_cases e0 : E = "java/lang/IndexOutOfBoundsException"
      · subst e0
        have hw := hw.1 rfl
        refine AX.catch_w (x := (0, 10, 13, 13)) (pre := []) (suf := [(0, 10, 17, 21)]) (L' := [.ref 1, .int p1, .int p2, .ref 61, .null]) rfl (by decide) (fun _ h => nomatch h) (by decide) (by decide) (by decide) tw_576 tw_424 dL_setDelay_13 (by decide) rfl rfl ?_
        refine AW.iconst (v := 1) (pc := 15) dL_setDelay_15 (by decide) ?_
        exact AW.iret (pc := 16) dL_setDelay_16 rfl rfl (by omega) (by omega) (hQ _ _ _ hw)
      by_cases e1 : E = "java/lang/IllegalArgumentException"
      · subst e1
        have hw := hw.2.1 rfl
        refine AX.catch_w (x := (0, 10, 17, 21)) (pre := [(0, 10, 13, 13)]) (suf := []) (L' := [.ref 1, .int p1, .int p2, .ref 61, .null]) rfl (by decide) (fun z hz => by rw [List.mem_singleton] at hz; subst hz; exact ⟨by decide, "java/lang/IndexOutOfBoundsException", by decide, by decide, tw_576⟩) (by decide) (by decide) (by decide) tw_634 tw_348 dL_setDelay_17 (by decide) rfl rfl ?_
        refine AW.iconst (v := 2) (pc := 19) dL_setDelay_19 (by decide) ?_
        exact AW.iret (pc := 20) dL_setDelay_20 rfl rfl (by omega) (by omega) (hQ _ _ _ hw)
      exact (hw.2.2 e0 e1).elim
set_option maxRecDepth 100000 in
set_option maxHeartbeats 4000000 in
theorem c_L_setDelay {d k t : Nat} {ex : Hp} {o : Nat → Int64} {K : Int32 → (Nat → Int64) → Mem → Prop} {m : Mem} {p1 : Int32} {p2 : Int32} (ht : tok t) (hd : 7 ≤ d) (hw : w_L_setDelay p1 p2 o m K) : AM mL_setDelay d [.ref 1, .int p1, .int p2, .ref 61] (lay t ex o m) k 3 18 (fun oc h' k' => k = k' ∧ ∃ (r : Int32) (o' : Nat → Int64) (m' : Mem), oc = .inl (some (.int r)) ∧ h' = lay t ex o' m' ∧ K r o' m') :=
  AM.introH (μ := mL_setDelay) (n := 1) (by decide) rfl rfl rfl (b_L_setDelay ht hd (by omega) (by omega) (fun _ _ _ hK => ⟨rfl, _, _, _, rfl, rfl, hK⟩) p1 p2 hw)
def w_L_setWindow (p1 : Int32) (p2 : Int32) (p3 : Int32) (o : Nat → Int64) (m : Mem) (K : Int32 → (Nat → Int64) → Mem → Prop) : Prop :=
  w_N_setWindow p1 p2 p3 m (fun r2 m1 => K (0 : Int32) (vp_updL o 0 r2.toInt64) m1) (fun E m3 => (E = "java/lang/IndexOutOfBoundsException" → K (1 : Int32) o m3) ∧ (E = "java/lang/IllegalArgumentException" → K (2 : Int32) o m3) ∧ (¬ E = "java/lang/IndexOutOfBoundsException" → ¬ E = "java/lang/IllegalArgumentException" → False))
set_option maxRecDepth 100000 in
set_option maxHeartbeats 4000000 in
theorem b_L_setWindow {Z : Gz} {d k0 mc ms cs ss k t : Nat} {Q : Po} {ex : Hp} {o : Nat → Int64} {K : Int32 → (Nat → Int64) → Mem → Prop}  (ht : tok t) (hd : 4 ≤ d) (hcs : cs + 2 ≤ mc) (hss : ss + 12 ≤ ms) (hQ : ∀ (r : Int32) (o : Nat → Int64) (m : Mem), K r o m → Q (.inl (some (.int r))) (lay t ex o m) k) {m : Mem} (p1 : Int32) (p2 : Int32) (p3 : Int32) (hw : w_L_setWindow p1 p2 p3 o m K) : AW Z mL_setWindow d k0 mc ms Q 0 [.ref 1, .int p1, .int p2, .int p3, .ref 61, .null] [] (lay t ex o m) k cs ss := by
  unfold w_L_setWindow at hw
  refine AW.aload (pc := 0) dL_setWindow_0 rfl ?_
  refine AW.iconst (v := 0) (pc := 2) dL_setWindow_2 (by decide) ?_
  refine AW.aload_n (pc := 3) dL_setWindow_3 rfl rfl ?_
  refine AW.iload_n (pc := 4) dL_setWindow_4 rfl rfl ?_
  refine AW.iload_n (pc := 5) dL_setWindow_5 rfl rfl ?_
  refine AW.iload_n (pc := 6) dL_setWindow_6 rfl rfl ?_
  refine AW.callV (pc := 7) (S' := [.int (0 : Int32), .ref 61]) dL_setWindow_7 (c_N_setWindow (d := d - 1) ht (by omega) hw) ok_X4_setWindow tw_658 tw_659 tw_657 (fix_pos (by decide)) (lay_at ht (by decide)) (show aw_cl[4]? = some _ from rfl) rfl rfl (by omega) rfl (Nat.le_of_ble_eq_true rfl) (by omega) (by omega) ?_ ?_
  · intro v h' k' hq
    obtain ⟨rfl, m1, rfl, (⟨r2, hv, hw⟩ | ⟨E, hv, hw⟩)⟩ := hq
    · cases hv
      show AW _ _ _ _ _ _ _ 10 [.ref 1, .int p1, .int p2, .int p3, .ref 61, .null] [.int r2, .int (0 : Int32), .ref 61] (lay t ex o m1) k _ _
      refine AW.i2l (pc := 10) dL_setWindow_10 ?_
      refine LW.lasto (pc := 11) ht dL_setWindow_11 ?_
      refine AW.goto (pc := 12) (tgt := 23) dL_setWindow_12 (by decide) ?_
      refine AW.iconst (v := 0) (pc := 23) dL_setWindow_23 (by decide) ?_
      exact AW.iret (pc := 24) dL_setWindow_24 rfl rfl (by omega) (by omega) (hQ _ _ _ hw)
    · cases hv
  · intro E h' k' hq
    obtain ⟨rfl, m3, rfl, (⟨r2, hv, hw⟩ | ⟨E2, hv, hw⟩)⟩ := hq
    · cases hv
    · cases hv
      by_cases e0 : E = "java/lang/IndexOutOfBoundsException"
      · subst e0
        have hw := hw.1 rfl
        refine AX.catch_w (x := (0, 12, 15, 13)) (pre := []) (suf := [(0, 12, 19, 21)]) (L' := [.ref 1, .int p1, .int p2, .int p3, .ref 61, .null]) rfl (by decide) (fun _ h => nomatch h) (by decide) (by decide) (by decide) tw_576 tw_424 dL_setWindow_15 (by decide) rfl rfl ?_
        refine AW.iconst (v := 1) (pc := 17) dL_setWindow_17 (by decide) ?_
        exact AW.iret (pc := 18) dL_setWindow_18 rfl rfl (by omega) (by omega) (hQ _ _ _ hw)
      by_cases e1 : E = "java/lang/IllegalArgumentException"
      · subst e1
        have hw := hw.2.1 rfl
        refine AX.catch_w (x := (0, 12, 19, 21)) (pre := [(0, 12, 15, 13)]) (suf := []) (L' := [.ref 1, .int p1, .int p2, .int p3, .ref 61, .null]) rfl (by decide) (fun z hz => by rw [List.mem_singleton] at hz; subst hz; exact ⟨by decide, "java/lang/IndexOutOfBoundsException", by decide, by decide, tw_576⟩) (by decide) (by decide) (by decide) tw_634 tw_348 dL_setWindow_19 (by decide) rfl rfl ?_
        refine AW.iconst (v := 2) (pc := 21) dL_setWindow_21 (by decide) ?_
        exact AW.iret (pc := 22) dL_setWindow_22 rfl rfl (by omega) (by omega) (hQ _ _ _ hw)
      exact (hw.2.2 e0 e1).elim
set_option maxRecDepth 100000 in
set_option maxHeartbeats 4000000 in
theorem c_L_setWindow {d k t : Nat} {ex : Hp} {o : Nat → Int64} {K : Int32 → (Nat → Int64) → Mem → Prop} {m : Mem} {p1 : Int32} {p2 : Int32} {p3 : Int32} (ht : tok t) (hd : 4 ≤ d) (hw : w_L_setWindow p1 p2 p3 o m K) : AM mL_setWindow d [.ref 1, .int p1, .int p2, .int p3, .ref 61] (lay t ex o m) k 2 12 (fun oc h' k' => k = k' ∧ ∃ (r : Int32) (o' : Nat → Int64) (m' : Mem), oc = .inl (some (.int r)) ∧ h' = lay t ex o' m' ∧ K r o' m') :=
  AM.introH (μ := mL_setWindow) (n := 1) (by decide) rfl rfl rfl (b_L_setWindow ht hd (by omega) (by omega) (fun _ _ _ hK => ⟨rfl, _, _, _, rfl, rfl, hK⟩) p1 p2 p3 hw)
def w_L_settle (o : Nat → Int64) (m : Mem) (K : Int32 → (Nat → Int64) → Mem → Prop) : Prop :=
  w_N_settle  m (fun r2 m1 => K (0 : Int32) (vp_updL o 0 r2.toInt64) m1) (fun E m3 => (E = "java/lang/IllegalStateException" → K (1 : Int32) o m3) ∧ (¬ E = "java/lang/IllegalStateException" → False))
set_option maxRecDepth 100000 in
set_option maxHeartbeats 4000000 in
theorem b_L_settle {Z : Gz} {d k0 mc ms cs ss k t : Nat} {Q : Po} {ex : Hp} {o : Nat → Int64} {K : Int32 → (Nat → Int64) → Mem → Prop}  (ht : tok t) (hd : 9 ≤ d) (hcs : cs + 1 ≤ mc) (hss : ss + 6 ≤ ms) (hQ : ∀ (r : Int32) (o : Nat → Int64) (m : Mem), K r o m → Q (.inl (some (.int r))) (lay t ex o m) k) {m : Mem}  (hw : w_L_settle  o m K) : AW Z mL_settle d k0 mc ms Q 0 [.ref 1, .ref 61, .null] [] (lay t ex o m) k cs ss := by
  unfold w_L_settle at hw
  refine AW.aload_n (pc := 0) dL_settle_0 rfl rfl ?_
  refine AW.iconst (v := 0) (pc := 1) dL_settle_1 (by decide) ?_
  refine AW.aload_n (pc := 2) dL_settle_2 rfl rfl ?_
  refine AW.callV (pc := 3) (S' := [.int (0 : Int32), .ref 61]) dL_settle_3 (c_N_settle (d := d - 1) ht (by omega) hw) ok_X4_settle tw_733 tw_734 tw_732 (fix_pos (by decide)) (lay_at ht (by decide)) (show aw_cl[4]? = some _ from rfl) rfl rfl (by omega) rfl (Nat.le_of_ble_eq_true rfl) (by omega) (by omega) ?_ ?_
  · intro v h' k' hq
    obtain ⟨rfl, m1, rfl, (⟨r2, hv, hw⟩ | ⟨E, hv, hw⟩)⟩ := hq
    · cases hv
      show AW _ _ _ _ _ _ _ 6 [.ref 1, .ref 61, .null] [.int r2, .int (0 : Int32), .ref 61] (lay t ex o m1) k _ _
      refine AW.i2l (pc := 6) dL_settle_6 ?_
      refine LW.lasto (pc := 7) ht dL_settle_7 ?_
      refine AW.goto (pc := 8) (tgt := 14) dL_settle_8 (by decide) ?_
      refine AW.iconst (v := 0) (pc := 14) dL_settle_14 (by decide) ?_
      exact AW.iret (pc := 15) dL_settle_15 rfl rfl (by omega) (by omega) (hQ _ _ _ hw)
    · cases hv
  · intro E h' k' hq
    obtain ⟨rfl, m3, rfl, (⟨r2, hv, hw⟩ | ⟨E2, hv, hw⟩)⟩ := hq
    · cases hv
    · cases hv
      by_cases e0 : E = "java/lang/IllegalStateException"
      · subst e0
        have hw := hw.1 rfl
        refine AX.catch_n (x := (0, 8, 11, 15)) (pre := []) (suf := []) (L' := [.ref 1, .ref 61, .null]) rfl (by decide) (fun _ h => nomatch h) (by decide) (by decide) (by decide) tw_577 tw_498 dL_settle_11 rfl (by decide) rfl rfl ?_
        refine AW.iconst (v := 1) (pc := 12) dL_settle_12 (by decide) ?_
        exact AW.iret (pc := 13) dL_settle_13 rfl rfl (by omega) (by omega) (hQ _ _ _ hw)
      exact (hw.2 e0).elim
set_option maxRecDepth 100000 in
set_option maxHeartbeats 4000000 in
theorem c_L_settle {d k t : Nat} {ex : Hp} {o : Nat → Int64} {K : Int32 → (Nat → Int64) → Mem → Prop} {m : Mem}  (ht : tok t) (hd : 9 ≤ d) (hw : w_L_settle  o m K) : AM mL_settle d [.ref 1, .ref 61] (lay t ex o m) k 1 6 (fun oc h' k' => k = k' ∧ ∃ (r : Int32) (o' : Nat → Int64) (m' : Mem), oc = .inl (some (.int r)) ∧ h' = lay t ex o' m' ∧ K r o' m') :=
  AM.introH (μ := mL_settle) (n := 1) (by decide) rfl rfl rfl (b_L_settle ht hd (by omega) (by omega) (fun _ _ _ hK => ⟨rfl, _, _, _, rfl, rfl, hK⟩)  hw)
def w_L_settlesIn (o : Nat → Int64) (m : Mem) (K : Int32 → (Nat → Int64) → Mem → Prop) : Prop :=
  w_N_settlesIn  m (fun r2 m1 => K (0 : Int32) (vp_updL o 0 r2.toInt64) m1) (fun E m3 => (E = "java/lang/IllegalStateException" → K (1 : Int32) o m3) ∧ (¬ E = "java/lang/IllegalStateException" → False))
set_option maxRecDepth 100000 in
set_option maxHeartbeats 4000000 in
theorem b_L_settlesIn {Z : Gz} {d k0 mc ms cs ss k t : Nat} {Q : Po} {ex : Hp} {o : Nat → Int64} {K : Int32 → (Nat → Int64) → Mem → Prop}  (ht : tok t) (hd : 8 ≤ d) (hcs : cs + 1 ≤ mc) (hss : ss + 6 ≤ ms) (hQ : ∀ (r : Int32) (o : Nat → Int64) (m : Mem), K r o m → Q (.inl (some (.int r))) (lay t ex o m) k) {m : Mem}  (hw : w_L_settlesIn  o m K) : AW Z mL_settlesIn d k0 mc ms Q 0 [.ref 1, .ref 61, .null] [] (lay t ex o m) k cs ss := by
  unfold w_L_settlesIn at hw
  refine AW.aload_n (pc := 0) dL_settlesIn_0 rfl rfl ?_
  refine AW.iconst (v := 0) (pc := 1) dL_settlesIn_1 (by decide) ?_
  refine AW.aload_n (pc := 2) dL_settlesIn_2 rfl rfl ?_
  refine AW.callV (pc := 3) (S' := [.int (0 : Int32), .ref 61]) dL_settlesIn_3 (c_N_settlesIn (d := d - 1) ht (by omega) hw) ok_X4_settlesIn tw_489 tw_490 tw_780 (fix_pos (by decide)) (lay_at ht (by decide)) (show aw_cl[4]? = some _ from rfl) rfl rfl (by omega) rfl (Nat.le_of_ble_eq_true rfl) (by omega) (by omega) ?_ ?_
  · intro v h' k' hq
    obtain ⟨rfl, m1, rfl, (⟨r2, hv, hw⟩ | ⟨E, hv, hw⟩)⟩ := hq
    · cases hv
      show AW _ _ _ _ _ _ _ 6 [.ref 1, .ref 61, .null] [.int r2, .int (0 : Int32), .ref 61] (lay t ex o m1) k _ _
      refine AW.i2l (pc := 6) dL_settlesIn_6 ?_
      refine LW.lasto (pc := 7) ht dL_settlesIn_7 ?_
      refine AW.goto (pc := 8) (tgt := 14) dL_settlesIn_8 (by decide) ?_
      refine AW.iconst (v := 0) (pc := 14) dL_settlesIn_14 (by decide) ?_
      exact AW.iret (pc := 15) dL_settlesIn_15 rfl rfl (by omega) (by omega) (hQ _ _ _ hw)
    · cases hv
  · intro E h' k' hq
    obtain ⟨rfl, m3, rfl, (⟨r2, hv, hw⟩ | ⟨E2, hv, hw⟩)⟩ := hq
    · cases hv
    · cases hv
      by_cases e0 : E = "java/lang/IllegalStateException"
      · subst e0
        have hw := hw.1 rfl
        refine AX.catch_n (x := (0, 8, 11, 15)) (pre := []) (suf := []) (L' := [.ref 1, .ref 61, .null]) rfl (by decide) (fun _ h => nomatch h) (by decide) (by decide) (by decide) tw_577 tw_498 dL_settlesIn_11 rfl (by decide) rfl rfl ?_
        refine AW.iconst (v := 1) (pc := 12) dL_settlesIn_12 (by decide) ?_
        exact AW.iret (pc := 13) dL_settlesIn_13 rfl rfl (by omega) (by omega) (hQ _ _ _ hw)
      exact (hw.2 e0).elim
set_option maxRecDepth 100000 in
set_option maxHeartbeats 4000000 in
theorem c_L_settlesIn {d k t : Nat} {ex : Hp} {o : Nat → Int64} {K : Int32 → (Nat → Int64) → Mem → Prop} {m : Mem}  (ht : tok t) (hd : 8 ≤ d) (hw : w_L_settlesIn  o m K) : AM mL_settlesIn d [.ref 1, .ref 61] (lay t ex o m) k 1 6 (fun oc h' k' => k = k' ∧ ∃ (r : Int32) (o' : Nat → Int64) (m' : Mem), oc = .inl (some (.int r)) ∧ h' = lay t ex o' m' ∧ K r o' m') :=
  AM.introH (μ := mL_settlesIn) (n := 1) (by decide) rfl rfl rfl (b_L_settlesIn ht hd (by omega) (by omega) (fun _ _ _ hK => ⟨rfl, _, _, _, rfl, rfl, hK⟩)  hw)
def w_L_start (o : Nat → Int64) (m : Mem) (K : Int32 → (Nat → Int64) → Mem → Prop) : Prop :=
  w_N_start  m (fun r2 m1 => K (0 : Int32) (vp_updL o 0 r2.toInt64) m1) (fun E m3 => (E = "java/lang/IllegalStateException" → K (1 : Int32) o m3) ∧ (¬ E = "java/lang/IllegalStateException" → False))
set_option maxRecDepth 100000 in
set_option maxHeartbeats 4000000 in
theorem b_L_start {Z : Gz} {d k0 mc ms cs ss k t : Nat} {Q : Po} {ex : Hp} {o : Nat → Int64} {K : Int32 → (Nat → Int64) → Mem → Prop}  (ht : tok t) (hd : 8 ≤ d) (hcs : cs + 1 ≤ mc) (hss : ss + 6 ≤ ms) (hQ : ∀ (r : Int32) (o : Nat → Int64) (m : Mem), K r o m → Q (.inl (some (.int r))) (lay t ex o m) k) {m : Mem}  (hw : w_L_start  o m K) : AW Z mL_start d k0 mc ms Q 0 [.ref 1, .ref 61, .null] [] (lay t ex o m) k cs ss := by
  unfold w_L_start at hw
  refine AW.aload_n (pc := 0) dL_start_0 rfl rfl ?_
  refine AW.iconst (v := 0) (pc := 1) dL_start_1 (by decide) ?_
  refine AW.aload_n (pc := 2) dL_start_2 rfl rfl ?_
  refine AW.callV (pc := 3) (S' := [.int (0 : Int32), .ref 61]) dL_start_3 (c_N_start (d := d - 1) ht (by omega) hw) ok_X4_start tw_691 tw_692 tw_690 (fix_pos (by decide)) (lay_at ht (by decide)) (show aw_cl[4]? = some _ from rfl) rfl rfl (by omega) rfl (Nat.le_of_ble_eq_true rfl) (by omega) (by omega) ?_ ?_
  · intro v h' k' hq
    obtain ⟨rfl, m1, rfl, (⟨r2, hv, hw⟩ | ⟨E, hv, hw⟩)⟩ := hq
    · cases hv
      show AW _ _ _ _ _ _ _ 6 [.ref 1, .ref 61, .null] [.int r2, .int (0 : Int32), .ref 61] (lay t ex o m1) k _ _
      refine AW.i2l (pc := 6) dL_start_6 ?_
      refine LW.lasto (pc := 7) ht dL_start_7 ?_
      refine AW.goto (pc := 8) (tgt := 14) dL_start_8 (by decide) ?_
      refine AW.iconst (v := 0) (pc := 14) dL_start_14 (by decide) ?_
      exact AW.iret (pc := 15) dL_start_15 rfl rfl (by omega) (by omega) (hQ _ _ _ hw)
    · cases hv
  · intro E h' k' hq
    obtain ⟨rfl, m3, rfl, (⟨r2, hv, hw⟩ | ⟨E2, hv, hw⟩)⟩ := hq
    · cases hv
    · cases hv
      by_cases e0 : E = "java/lang/IllegalStateException"
      · subst e0
        have hw := hw.1 rfl
        refine AX.catch_n (x := (0, 8, 11, 15)) (pre := []) (suf := []) (L' := [.ref 1, .ref 61, .null]) rfl (by decide) (fun _ h => nomatch h) (by decide) (by decide) (by decide) tw_577 tw_498 dL_start_11 rfl (by decide) rfl rfl ?_
        refine AW.iconst (v := 1) (pc := 12) dL_start_12 (by decide) ?_
        exact AW.iret (pc := 13) dL_start_13 rfl rfl (by omega) (by omega) (hQ _ _ _ hw)
      exact (hw.2 e0).elim
set_option maxRecDepth 100000 in
set_option maxHeartbeats 4000000 in
theorem c_L_start {d k t : Nat} {ex : Hp} {o : Nat → Int64} {K : Int32 → (Nat → Int64) → Mem → Prop} {m : Mem}  (ht : tok t) (hd : 8 ≤ d) (hw : w_L_start  o m K) : AM mL_start d [.ref 1, .ref 61] (lay t ex o m) k 1 6 (fun oc h' k' => k = k' ∧ ∃ (r : Int32) (o' : Nat → Int64) (m' : Mem), oc = .inl (some (.int r)) ∧ h' = lay t ex o' m' ∧ K r o' m') :=
  AM.introH (μ := mL_start) (n := 1) (by decide) rfl rfl rfl (b_L_start ht hd (by omega) (by omega) (fun _ _ _ hK => ⟨rfl, _, _, _, rfl, rfl, hK⟩)  hw)
def w_L_told (p1 : Int32) (o : Nat → Int64) (m : Mem) (K : Int32 → (Nat → Int64) → Mem → Prop) : Prop :=
  w_N_told p1 m (fun r2 m1 => K (0 : Int32) (vp_updL o 0 r2.toInt64) m1) (fun E m3 => (E = "java/lang/IllegalArgumentException" → K (1 : Int32) o m3) ∧ (¬ E = "java/lang/IllegalArgumentException" → False))
set_option maxRecDepth 100000 in
set_option maxHeartbeats 4000000 in
theorem b_L_told {Z : Gz} {d k0 mc ms cs ss k t : Nat} {Q : Po} {ex : Hp} {o : Nat → Int64} {K : Int32 → (Nat → Int64) → Mem → Prop}  (ht : tok t) (hd : 6 ≤ d) (hcs : cs + 1 ≤ mc) (hss : ss + 6 ≤ ms) (hQ : ∀ (r : Int32) (o : Nat → Int64) (m : Mem), K r o m → Q (.inl (some (.int r))) (lay t ex o m) k) {m : Mem} (p1 : Int32) (hw : w_L_told p1 o m K) : AW Z mL_told d k0 mc ms Q 0 [.ref 1, .int p1, .ref 61, .null] [] (lay t ex o m) k cs ss := by
  unfold w_L_told at hw
  refine AW.aload_n (pc := 0) dL_told_0 rfl rfl ?_
  refine AW.iconst (v := 0) (pc := 1) dL_told_1 (by decide) ?_
  refine AW.aload_n (pc := 2) dL_told_2 rfl rfl ?_
  refine AW.iload_n (pc := 3) dL_told_3 rfl rfl ?_
  refine AW.callV (pc := 4) (S' := [.int (0 : Int32), .ref 61]) dL_told_4 (c_N_told (d := d - 1) ht (by omega) hw) ok_X4_told tw_326 tw_327 tw_750 (fix_pos (by decide)) (lay_at ht (by decide)) (show aw_cl[4]? = some _ from rfl) rfl rfl (by omega) rfl (Nat.le_of_ble_eq_true rfl) (by omega) (by omega) ?_ ?_
  · intro v h' k' hq
    obtain ⟨rfl, m1, rfl, (⟨r2, hv, hw⟩ | ⟨E, hv, hw⟩)⟩ := hq
    · cases hv
      show AW _ _ _ _ _ _ _ 7 [.ref 1, .int p1, .ref 61, .null] [.int r2, .int (0 : Int32), .ref 61] (lay t ex o m1) k _ _
      refine AW.i2l (pc := 7) dL_told_7 ?_
      refine LW.lasto (pc := 8) ht dL_told_8 ?_
      refine AW.goto (pc := 9) (tgt := 15) dL_told_9 (by decide) ?_
      refine AW.iconst (v := 0) (pc := 15) dL_told_15 (by decide) ?_
      exact AW.iret (pc := 16) dL_told_16 rfl rfl (by omega) (by omega) (hQ _ _ _ hw)
    · cases hv
  · intro E h' k' hq
    obtain ⟨rfl, m3, rfl, (⟨r2, hv, hw⟩ | ⟨E2, hv, hw⟩)⟩ := hq
    · cases hv
    · cases hv
      by_cases e0 : E = "java/lang/IllegalArgumentException"
      · subst e0
        have hw := hw.1 rfl
        refine AX.catch_n (x := (0, 9, 12, 21)) (pre := []) (suf := []) (L' := [.ref 1, .int p1, .ref 61, .null]) rfl (by decide) (fun _ h => nomatch h) (by decide) (by decide) (by decide) tw_634 tw_348 dL_told_12 rfl (by decide) rfl rfl ?_
        refine AW.iconst (v := 1) (pc := 13) dL_told_13 (by decide) ?_
        exact AW.iret (pc := 14) dL_told_14 rfl rfl (by omega) (by omega) (hQ _ _ _ hw)
      exact (hw.2 e0).elim
set_option maxRecDepth 100000 in
set_option maxHeartbeats 4000000 in
theorem c_L_told {d k t : Nat} {ex : Hp} {o : Nat → Int64} {K : Int32 → (Nat → Int64) → Mem → Prop} {m : Mem} {p1 : Int32} (ht : tok t) (hd : 6 ≤ d) (hw : w_L_told p1 o m K) : AM mL_told d [.ref 1, .int p1, .ref 61] (lay t ex o m) k 1 6 (fun oc h' k' => k = k' ∧ ∃ (r : Int32) (o' : Nat → Int64) (m' : Mem), oc = .inl (some (.int r)) ∧ h' = lay t ex o' m' ∧ K r o' m') :=
  AM.introH (μ := mL_told) (n := 1) (by decide) rfl rfl rfl (b_L_told ht hd (by omega) (by omega) (fun _ _ _ hK => ⟨rfl, _, _, _, rfl, rfl, hK⟩) p1 hw)
def w_L_users (p1 : Int32) (o : Nat → Int64) (m : Mem) (K : Int32 → (Nat → Int64) → Mem → Prop) : Prop :=
  w_N_users p1 m (fun r2 m1 => K (0 : Int32) (vp_updL o 0 r2.toInt64) m1) (fun E m3 => (E = "java/lang/IndexOutOfBoundsException" → K (1 : Int32) o m3) ∧ (¬ E = "java/lang/IndexOutOfBoundsException" → False))
set_option maxRecDepth 100000 in
set_option maxHeartbeats 4000000 in
theorem b_L_users {Z : Gz} {d k0 mc ms cs ss k t : Nat} {Q : Po} {ex : Hp} {o : Nat → Int64} {K : Int32 → (Nat → Int64) → Mem → Prop}  (ht : tok t) (hd : 5 ≤ d) (hcs : cs + 1 ≤ mc) (hss : ss + 6 ≤ ms) (hQ : ∀ (r : Int32) (o : Nat → Int64) (m : Mem), K r o m → Q (.inl (some (.int r))) (lay t ex o m) k) {m : Mem} (p1 : Int32) (hw : w_L_users p1 o m K) : AW Z mL_users d k0 mc ms Q 0 [.ref 1, .int p1, .ref 61, .null] [] (lay t ex o m) k cs ss := by
  unfold w_L_users at hw
  refine AW.aload_n (pc := 0) dL_users_0 rfl rfl ?_
  refine AW.iconst (v := 0) (pc := 1) dL_users_1 (by decide) ?_
  refine AW.aload_n (pc := 2) dL_users_2 rfl rfl ?_
  refine AW.iload_n (pc := 3) dL_users_3 rfl rfl ?_
  refine AW.callV (pc := 4) (S' := [.int (0 : Int32), .ref 61]) dL_users_4 (c_N_users (d := d - 1) ht (by omega) hw) ok_X4_users tw_454 tw_455 tw_686 (fix_pos (by decide)) (lay_at ht (by decide)) (show aw_cl[4]? = some _ from rfl) rfl rfl (by omega) rfl (Nat.le_of_ble_eq_true rfl) (by omega) (by omega) ?_ ?_
  · intro v h' k' hq
    obtain ⟨rfl, m1, rfl, (⟨r2, hv, hw⟩ | ⟨E, hv, hw⟩)⟩ := hq
    · cases hv
      show AW _ _ _ _ _ _ _ 7 [.ref 1, .int p1, .ref 61, .null] [.int r2, .int (0 : Int32), .ref 61] (lay t ex o m1) k _ _
      refine AW.i2l (pc := 7) dL_users_7 ?_
      refine LW.lasto (pc := 8) ht dL_users_8 ?_
      refine AW.goto (pc := 9) (tgt := 15) dL_users_9 (by decide) ?_
      refine AW.iconst (v := 0) (pc := 15) dL_users_15 (by decide) ?_
      exact AW.iret (pc := 16) dL_users_16 rfl rfl (by omega) (by omega) (hQ _ _ _ hw)
    · cases hv
  · intro E h' k' hq
    obtain ⟨rfl, m3, rfl, (⟨r2, hv, hw⟩ | ⟨E2, hv, hw⟩)⟩ := hq
    · cases hv
    · cases hv
      by_cases e0 : E = "java/lang/IndexOutOfBoundsException"
      · subst e0
        have hw := hw.1 rfl
        refine AX.catch_n (x := (0, 9, 12, 13)) (pre := []) (suf := []) (L' := [.ref 1, .int p1, .ref 61, .null]) rfl (by decide) (fun _ h => nomatch h) (by decide) (by decide) (by decide) tw_576 tw_424 dL_users_12 rfl (by decide) rfl rfl ?_
        refine AW.iconst (v := 1) (pc := 13) dL_users_13 (by decide) ?_
        exact AW.iret (pc := 14) dL_users_14 rfl rfl (by omega) (by omega) (hQ _ _ _ hw)
      exact (hw.2 e0).elim
set_option maxRecDepth 100000 in
set_option maxHeartbeats 4000000 in
theorem c_L_users {d k t : Nat} {ex : Hp} {o : Nat → Int64} {K : Int32 → (Nat → Int64) → Mem → Prop} {m : Mem} {p1 : Int32} (ht : tok t) (hd : 5 ≤ d) (hw : w_L_users p1 o m K) : AM mL_users d [.ref 1, .int p1, .ref 61] (lay t ex o m) k 1 6 (fun oc h' k' => k = k' ∧ ∃ (r : Int32) (o' : Nat → Int64) (m' : Mem), oc = .inl (some (.int r)) ∧ h' = lay t ex o' m' ∧ K r o' m') :=
  AM.introH (μ := mL_users) (n := 1) (by decide) rfl rfl rfl (b_L_users ht hd (by omega) (by omega) (fun _ _ _ hK => ⟨rfl, _, _, _, rfl, rfl, hK⟩) p1 hw)
def w_L_wouldBe (p1 : Int32) (p2 : Int32) (p3 : Int32) (o : Nat → Int64) (m : Mem) (K : Int32 → (Nat → Int64) → Mem → Prop) : Prop :=
  w_N_wouldBe p1 p2 p3 m (fun r2 m1 => K (0 : Int32) (vp_updL o 0 r2.toInt64) m1) (fun E m3 => (E = "java/lang/IllegalStateException" → K (1 : Int32) o m3) ∧ (E = "java/lang/IndexOutOfBoundsException" → K (2 : Int32) o m3) ∧ (E = "java/lang/IllegalArgumentException" → K (3 : Int32) o m3) ∧ (¬ E = "java/lang/IllegalStateException" → ¬ E = "java/lang/IndexOutOfBoundsException" → ¬ E = "java/lang/IllegalArgumentException" → False))
set_option maxRecDepth 100000 in
set_option maxHeartbeats 4000000 in
theorem b_L_wouldBe {Z : Gz} {d k0 mc ms cs ss k t : Nat} {Q : Po} {ex : Hp} {o : Nat → Int64} {K : Int32 → (Nat → Int64) → Mem → Prop}  (ht : tok t) (hd : 9 ≤ d) (hcs : cs + 4 ≤ mc) (hss : ss + 24 ≤ ms) (hQ : ∀ (r : Int32) (o : Nat → Int64) (m : Mem), K r o m → Q (.inl (some (.int r))) (lay t ex o m) k) {m : Mem} (p1 : Int32) (p2 : Int32) (p3 : Int32) (hw : w_L_wouldBe p1 p2 p3 o m K) : AW Z mL_wouldBe d k0 mc ms Q 0 [.ref 1, .int p1, .int p2, .int p3, .ref 61, .null] [] (lay t ex o m) k cs ss := by
  unfold w_L_wouldBe at hw
  refine AW.aload (pc := 0) dL_wouldBe_0 rfl ?_
  refine AW.iconst (v := 0) (pc := 2) dL_wouldBe_2 (by decide) ?_
  refine AW.aload_n (pc := 3) dL_wouldBe_3 rfl rfl ?_
  refine AW.iload_n (pc := 4) dL_wouldBe_4 rfl rfl ?_
  refine AW.iload_n (pc := 5) dL_wouldBe_5 rfl rfl ?_
  refine AW.iload_n (pc := 6) dL_wouldBe_6 rfl rfl ?_
  refine AW.callV (pc := 7) (S' := [.int (0 : Int32), .ref 61]) dL_wouldBe_7 (c_N_wouldBe (d := d - 1) ht (by omega) hw) ok_X4_wouldBe tw_767 tw_768 tw_766 (fix_pos (by decide)) (lay_at ht (by decide)) (show aw_cl[4]? = some _ from rfl) rfl rfl (by omega) rfl (Nat.le_of_ble_eq_true rfl) (by omega) (by omega) ?_ ?_
  · intro v h' k' hq
    obtain ⟨rfl, m1, rfl, (⟨r2, hv, hw⟩ | ⟨E, hv, hw⟩)⟩ := hq
    · cases hv
      show AW _ _ _ _ _ _ _ 10 [.ref 1, .int p1, .int p2, .int p3, .ref 61, .null] [.int r2, .int (0 : Int32), .ref 61] (lay t ex o m1) k _ _
      refine AW.i2l (pc := 10) dL_wouldBe_10 ?_
      refine LW.lasto (pc := 11) ht dL_wouldBe_11 ?_
      refine AW.goto (pc := 12) (tgt := 27) dL_wouldBe_12 (by decide) ?_
      refine AW.iconst (v := 0) (pc := 27) dL_wouldBe_27 (by decide) ?_
      exact AW.iret (pc := 28) dL_wouldBe_28 rfl rfl (by omega) (by omega) (hQ _ _ _ hw)
    · cases hv
  · intro E h' k' hq
    obtain ⟨rfl, m3, rfl, (⟨r2, hv, hw⟩ | ⟨E2, hv, hw⟩)⟩ := hq
    · cases hv
    · cases hv
      by_cases e0 : E = "java/lang/IllegalStateException"
      · subst e0
        have hw := hw.1 rfl
        refine AX.catch_w (x := (0, 12, 15, 15)) (pre := []) (suf := [(0, 12, 19, 13), (0, 12, 23, 21)]) (L' := [.ref 1, .int p1, .int p2, .int p3, .ref 61, .null]) rfl (by decide) (fun _ h => nomatch h) (by decide) (by decide) (by decide) tw_577 tw_498 dL_wouldBe_15 (by decide) rfl rfl ?_
        refine AW.iconst (v := 1) (pc := 17) dL_wouldBe_17 (by decide) ?_
        exact AW.iret (pc := 18) dL_wouldBe_18 rfl rfl (by omega) (by omega) (hQ _ _ _ hw)
      by_cases e1 : E = "java/lang/IndexOutOfBoundsException"
      · subst e1
        have hw := hw.2.1 rfl
        refine AX.catch_w (x := (0, 12, 19, 13)) (pre := [(0, 12, 15, 15)]) (suf := [(0, 12, 23, 21)]) (L' := [.ref 1, .int p1, .int p2, .int p3, .ref 61, .null]) rfl (by decide) (fun z hz => by rw [List.mem_singleton] at hz; subst hz; exact ⟨by decide, "java/lang/IllegalStateException", by decide, by decide, tw_577⟩) (by decide) (by decide) (by decide) tw_576 tw_424 dL_wouldBe_19 (by decide) rfl rfl ?_
        refine AW.iconst (v := 2) (pc := 21) dL_wouldBe_21 (by decide) ?_
        exact AW.iret (pc := 22) dL_wouldBe_22 rfl rfl (by omega) (by omega) (hQ _ _ _ hw)
      by_cases e2 : E = "java/lang/IllegalArgumentException"
      · subst e2
        have hw := hw.2.2.1 rfl
        refine AX.catch_w (x := (0, 12, 23, 21)) (pre := [(0, 12, 15, 15), (0, 12, 19, 13)]) (suf := []) (L' := [.ref 1, .int p1, .int p2, .int p3, .ref 61, .null]) rfl (by decide) (fun z hz => by rcases List.mem_cons.mp hz with rfl | hz; exact ⟨by decide, "java/lang/IllegalStateException", by decide, by decide, tw_577⟩; rw [List.mem_singleton] at hz; subst hz; exact ⟨by decide, "java/lang/IndexOutOfBoundsException", by decide, by decide, tw_576⟩) (by decide) (by decide) (by decide) tw_634 tw_348 dL_wouldBe_23 (by decide) rfl rfl ?_
        refine AW.iconst (v := 3) (pc := 25) dL_wouldBe_25 (by decide) ?_
        exact AW.iret (pc := 26) dL_wouldBe_26 rfl rfl (by omega) (by omega) (hQ _ _ _ hw)
      exact (hw.2.2.2 e0 e1 e2).elim
set_option maxRecDepth 100000 in
set_option maxHeartbeats 4000000 in
theorem c_L_wouldBe {d k t : Nat} {ex : Hp} {o : Nat → Int64} {K : Int32 → (Nat → Int64) → Mem → Prop} {m : Mem} {p1 : Int32} {p2 : Int32} {p3 : Int32} (ht : tok t) (hd : 9 ≤ d) (hw : w_L_wouldBe p1 p2 p3 o m K) : AM mL_wouldBe d [.ref 1, .int p1, .int p2, .int p3, .ref 61] (lay t ex o m) k 4 24 (fun oc h' k' => k = k' ∧ ∃ (r : Int32) (o' : Nat → Int64) (m' : Mem), oc = .inl (some (.int r)) ∧ h' = lay t ex o' m' ∧ K r o' m') :=
  AM.introH (μ := mL_wouldBe) (n := 1) (by decide) rfl rfl rfl (b_L_wouldBe ht hd (by omega) (by omega) (fun _ _ _ hK => ⟨rfl, _, _, _, rfl, rfl, hK⟩) p1 p2 p3 hw)
