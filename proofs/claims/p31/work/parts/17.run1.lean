/-! printed by wip/tools/gen.py: X3_makePending, X3_valueOf, X3_both, X3_chosen, X3_either, X3_turned, X3_worked, X3_isRecent, X3_noteHazard, X3_beginCounting, X3_giveUpAll, X3_clear, X3_comesAheadOf, X3_nextLine, X3_copyFrom, X3_linesPending, X3_nextTime -/
abbrev mX3_makePending : Mt := (yX3_makePending, cX3_makePending, 3, none, [])
set_option maxRecDepth 20000 in
theorem ok_X3_makePending : aw_mok mX3_makePending 2 := ⟨rfl, tw_221, tw_7, ⟨by decide, by decide⟩, by decide +kernel, by decide⟩
abbrev mX3_valueOf : Mt := (yX3_valueOf, cX3_valueOf, 2, (some .int), [])
set_option maxRecDepth 20000 in
theorem ok_X3_valueOf : aw_mok mX3_valueOf 1 := ⟨rfl, tw_217, tw_7, ⟨by decide, by decide⟩, by decide +kernel, by decide⟩
abbrev mX3_both : Mt := (yX3_both, cX3_both, 2, (some .int), [])
set_option maxRecDepth 20000 in
theorem ok_X3_both : aw_mok mX3_both 2 := ⟨rfl, tw_246, tw_7, ⟨by decide, by decide⟩, by decide +kernel, by decide⟩
abbrev mX3_chosen : Mt := (yX3_chosen, cX3_chosen, 3, (some .int), [])
set_option maxRecDepth 20000 in
theorem ok_X3_chosen : aw_mok mX3_chosen 3 := ⟨rfl, tw_252, tw_7, ⟨by decide, by decide⟩, by decide +kernel, by decide⟩
abbrev mX3_either : Mt := (yX3_either, cX3_either, 2, (some .int), [])
set_option maxRecDepth 20000 in
theorem ok_X3_either : aw_mok mX3_either 2 := ⟨rfl, tw_249, tw_7, ⟨by decide, by decide⟩, by decide +kernel, by decide⟩
abbrev mX3_turned : Mt := (yX3_turned, cX3_turned, 1, (some .int), [])
set_option maxRecDepth 20000 in
theorem ok_X3_turned : aw_mok mX3_turned 1 := ⟨rfl, tw_243, tw_7, ⟨by decide, by decide⟩, by decide +kernel, by decide⟩
abbrev mX3_worked : Mt := (yX3_worked, cX3_worked, 4, (some .int), [])
set_option maxRecDepth 20000 in
theorem ok_X3_worked : aw_mok mX3_worked 4 := ⟨rfl, tw_240, tw_7, ⟨by decide, by decide⟩, by decide +kernel, by decide⟩
abbrev mX3_isRecent : Mt := (yX3_isRecent, cX3_isRecent, 3, (some .boolean), [])
set_option maxRecDepth 20000 in
theorem ok_X3_isRecent : aw_mok mX3_isRecent 2 := ⟨rfl, tw_229, tw_7, ⟨by decide, by decide⟩, by decide +kernel, by decide⟩
abbrev mX3_noteHazard : Mt := (yX3_noteHazard, cX3_noteHazard, 3, none, [])
set_option maxRecDepth 20000 in
theorem ok_X3_noteHazard : aw_mok mX3_noteHazard 2 := ⟨rfl, tw_233, tw_7, ⟨by decide, by decide⟩, by decide +kernel, by decide⟩
abbrev mX3_beginCounting : Mt := (yX3_beginCounting, cX3_beginCounting, 1, none, [])
set_option maxRecDepth 20000 in
theorem ok_X3_beginCounting : aw_mok mX3_beginCounting 0 := ⟨rfl, tw_194, tw_7, ⟨by decide, by decide⟩, by decide +kernel, by decide⟩
abbrev mX3_giveUpAll : Mt := (yX3_giveUpAll, cX3_giveUpAll, 1, none, [])
set_option maxRecDepth 20000 in
theorem ok_X3_giveUpAll : aw_mok mX3_giveUpAll 0 := ⟨rfl, tw_276, tw_7, ⟨by decide, by decide⟩, by decide +kernel, by decide⟩
abbrev mX3_clear : Mt := (yX3_clear, cX3_clear, 1, none, [])
set_option maxRecDepth 20000 in
theorem ok_X3_clear : aw_mok mX3_clear 0 := ⟨rfl, tw_551, tw_7, ⟨by decide, by decide⟩, by decide +kernel, by decide⟩
abbrev mX3_comesAheadOf : Mt := (yX3_comesAheadOf, cX3_comesAheadOf, 3, (some .boolean), [])
set_option maxRecDepth 20000 in
theorem ok_X3_comesAheadOf : aw_mok mX3_comesAheadOf 2 := ⟨rfl, tw_272, tw_7, ⟨by decide, by decide⟩, by decide +kernel, by decide⟩
abbrev mX3_nextLine : Mt := (yX3_nextLine, cX3_nextLine, 4, (some .int), [])
set_option maxRecDepth 20000 in
theorem ok_X3_nextLine : aw_mok mX3_nextLine 1 := ⟨rfl, tw_268, tw_7, ⟨by decide, by decide⟩, by decide +kernel, by decide⟩
abbrev mX3_copyFrom : Mt := (yX3_copyFrom, cX3_copyFrom, 2, none, [])
set_option maxRecDepth 20000 in
theorem ok_X3_copyFrom : aw_mok mX3_copyFrom 1 := ⟨rfl, tw_337, tw_7, ⟨by decide, by decide⟩, by decide +kernel, by decide⟩
abbrev mX3_linesPending : Mt := (yX3_linesPending, cX3_linesPending, 3, (some .int), [])
set_option maxRecDepth 20000 in
theorem ok_X3_linesPending : aw_mok mX3_linesPending 0 := ⟨rfl, tw_300, tw_7, ⟨by decide, by decide⟩, by decide +kernel, by decide⟩
abbrev mX3_nextTime : Mt := (yX3_nextTime, cX3_nextTime, 2, (some .int), [])
set_option maxRecDepth 20000 in
theorem ok_X3_nextTime : aw_mok mX3_nextTime 0 := ⟨rfl, tw_304, tw_7, ⟨by decide, by decide⟩, by decide +kernel, by decide⟩
def w_R_makePending (r : Nat) (p1 : Int32) (p2 : Int32) (m : Mem) (K : Mem → Prop) : Prop :=
  vp_in p1 30 ∧ ∀ m1 : Mem, m1 = up2 m (r + 5) (p1.toNatClampNeg) p2 → vp_in p1 30 ∧ vp_in p1 30 ∧ ∀ m2 : Mem, m2 = up2 m1 (r + 6) (p1.toNatClampNeg) ((m1 r 13) + (m1 8 (p1).toNatClampNeg)) → vp_in p1 30 ∧ ∀ m3 : Mem, m3 = up2 m2 (r + 7) (p1.toNatClampNeg) (m2 r 14) → ∀ m4 : Mem, m4 = up2 m3 r 14 ((m3 r 14) + (1 : Int32)) → K m4
set_option maxRecDepth 100000 in
set_option maxHeartbeats 4000000 in
theorem b_R_makePending_23 {Z : Gz} {d k0 mc ms cs ss k t : Nat} {Q : Po} {ex : Hp} {o : Nat → Int64} {K : Mem → Prop}  (ht : tok t) (hd : 2 ≤ d) (hcs : cs + 0 ≤ mc) (hss : ss + 0 ≤ ms) (hQ : ∀ (m : Mem), K m → Q (.inl none) (lay t ex o m) k) {m : Mem} (p1 : Int32) (p2 : Int32) (hw : w_R_makePending 23 p1 p2 m K) : AW Z mX3_makePending d k0 mc ms Q 0 [.ref 23, .int p1, .int p2] [] (lay t ex o m) k cs ss := by
  unfold w_R_makePending at hw
  refine AW.aload_n (pc := 0) dX3_makePending_0 rfl rfl ?_
  refine LW.get (pc := 1) (f := 5) (ci := 3) (T := TX3) ht (by decide) rfl dX3_makePending_1 tw_561 rfl (by decide) rfl ?_
  refine AW.iload_n (pc := 4) dX3_makePending_4 rfl rfl ?_
  refine AW.iload_n (pc := 5) dX3_makePending_5 rfl rfl ?_
  obtain ⟨hin, hw⟩ := hw
  have hw := hw _ rfl
  refine LW.iast (pc := 6) (j := p1.toNatClampNeg) ht (by decide) (fun _ => rfl) dX3_makePending_6 hin rfl ?_
  generalize up2 m 28 (p1.toNatClampNeg) p2 = m1 at hw ⊢
  refine AW.aload_n (pc := 7) dX3_makePending_7 rfl rfl ?_
  refine LW.get (pc := 8) (f := 6) (ci := 3) (T := TX3) ht (by decide) rfl dX3_makePending_8 tw_563 rfl (by decide) rfl ?_
  refine AW.iload_n (pc := 11) dX3_makePending_11 rfl rfl ?_
  refine AW.aload_n (pc := 12) dX3_makePending_12 rfl rfl ?_
  refine LW.get (pc := 13) (f := 13) (ci := 3) (T := TX3) ht (by decide) rfl dX3_makePending_13 tw_574 rfl (by decide) rfl ?_
  refine AW.aload_n (pc := 16) dX3_makePending_16 rfl rfl ?_
  refine LW.get (pc := 17) (f := 0) (ci := 3) (T := TX3) ht (by decide) rfl dX3_makePending_17 tw_552 rfl (by decide) rfl ?_
  refine LW.getN (pc := 20) (f := 5) (ci := 1) (T := TX1) ht (by decide) rfl dX3_makePending_20 tw_460 rfl (by decide) rfl ?_
  refine AW.iload_n (pc := 23) dX3_makePending_23 rfl rfl ?_
  obtain ⟨hin, hw⟩ := hw
  refine LW.iald (pc := 24) (j := p1.toNatClampNeg) ht (by decide) rfl dX3_makePending_24 hin rfl ?_
  refine AW.iadd (pc := 25) dX3_makePending_25 ?_
  obtain ⟨hin, hw⟩ := hw
  have hw := hw _ rfl
  refine LW.iast (pc := 26) (j := p1.toNatClampNeg) ht (by decide) (fun _ => rfl) dX3_makePending_26 hin rfl ?_
  generalize up2 m1 29 (p1.toNatClampNeg) ((m1 23 13) + (m1 8 (p1).toNatClampNeg)) = m2 at hw ⊢
  refine AW.aload_n (pc := 27) dX3_makePending_27 rfl rfl ?_
  refine LW.get (pc := 28) (f := 7) (ci := 3) (T := TX3) ht (by decide) rfl dX3_makePending_28 tw_564 rfl (by decide) rfl ?_
  refine AW.iload_n (pc := 31) dX3_makePending_31 rfl rfl ?_
  refine AW.aload_n (pc := 32) dX3_makePending_32 rfl rfl ?_
  refine LW.get (pc := 33) (f := 14) (ci := 3) (T := TX3) ht (by decide) rfl dX3_makePending_33 tw_576 rfl (by decide) rfl ?_
  obtain ⟨hin, hw⟩ := hw
  have hw := hw _ rfl
  refine LW.iast (pc := 36) (j := p1.toNatClampNeg) ht (by decide) (fun _ => rfl) dX3_makePending_36 hin rfl ?_
  generalize up2 m2 30 (p1.toNatClampNeg) (m2 23 14) = m3 at hw ⊢
  refine AW.aload_n (pc := 37) dX3_makePending_37 rfl rfl ?_
  refine AW.dup (pc := 38) dX3_makePending_38 rfl ?_
  refine LW.get (pc := 39) (f := 14) (ci := 3) (T := TX3) ht (by decide) rfl dX3_makePending_39 tw_576 rfl (by decide) rfl ?_
  refine AW.iconst (v := 1) (pc := 42) dX3_makePending_42 (by decide) ?_
  refine AW.iadd (pc := 43) dX3_makePending_43 ?_
  have hw := hw _ rfl
  refine LW.put (pc := 44) (f := 14) (ci := 3) (T := TX3) ht (by decide) rfl sp_23_14 dX3_makePending_44 tw_576 rfl (by decide) (Nat.le_of_ble_eq_true rfl) rfl ⟨rfl, rfl⟩ ?_
  generalize up2 m3 23 14 ((m3 23 14) + (1 : Int32)) = m4 at hw ⊢
  exact AW.vret (pc := 47) dX3_makePending_47 rfl (by omega) (by omega) (hQ _ hw)
set_option maxRecDepth 100000 in
set_option maxHeartbeats 4000000 in
theorem c_R_makePending_23 {d k t : Nat} {ex : Hp} {o : Nat → Int64} {K : Mem → Prop} {m : Mem} {p1 : Int32} {p2 : Int32} (ht : tok t) (hd : 2 ≤ d) (hw : w_R_makePending 23 p1 p2 m K) : AM mX3_makePending d [.ref 23, .int p1, .int p2] (lay t ex o m) k 0 0 (fun oc h' k' => k = k' ∧ ∃ (m' : Mem), oc = .inl none ∧ h' = lay t ex o m' ∧ K m') :=
  AM.intro (μ := mX3_makePending) (n := 0) (by decide) rfl rfl rfl (b_R_makePending_23 ht hd (by omega) (by omega) (fun _ hK => ⟨rfl, _, rfl, rfl, hK⟩) p1 p2 hw)
set_option maxRecDepth 100000 in
set_option maxHeartbeats 4000000 in
theorem b_R_makePending_35 {Z : Gz} {d k0 mc ms cs ss k t : Nat} {Q : Po} {ex : Hp} {o : Nat → Int64} {K : Mem → Prop}  (ht : tok t) (hd : 2 ≤ d) (hcs : cs + 0 ≤ mc) (hss : ss + 0 ≤ ms) (hQ : ∀ (m : Mem), K m → Q (.inl none) (lay t ex o m) k) {m : Mem} (p1 : Int32) (p2 : Int32) (hw : w_R_makePending 35 p1 p2 m K) : AW Z mX3_makePending d k0 mc ms Q 0 [.ref 35, .int p1, .int p2] [] (lay t ex o m) k cs ss := by
  unfold w_R_makePending at hw
  refine AW.aload_n (pc := 0) dX3_makePending_0 rfl rfl ?_
  refine LW.get (pc := 1) (f := 5) (ci := 3) (T := TX3) ht (by decide) rfl dX3_makePending_1 tw_561 rfl (by decide) rfl ?_
  refine AW.iload_n (pc := 4) dX3_makePending_4 rfl rfl ?_
  refine AW.iload_n (pc := 5) dX3_makePending_5 rfl rfl ?_
  obtain ⟨hin, hw⟩ := hw
  have hw := hw _ rfl
  refine LW.iast (pc := 6) (j := p1.toNatClampNeg) ht (by decide) (fun _ => rfl) dX3_makePending_6 hin rfl ?_
  generalize up2 m 40 (p1.toNatClampNeg) p2 = m1 at hw ⊢
  refine AW.aload_n (pc := 7) dX3_makePending_7 rfl rfl ?_
  refine LW.get (pc := 8) (f := 6) (ci := 3) (T := TX3) ht (by decide) rfl dX3_makePending_8 tw_563 rfl (by decide) rfl ?_
  refine AW.iload_n (pc := 11) dX3_makePending_11 rfl rfl ?_
  refine AW.aload_n (pc := 12) dX3_makePending_12 rfl rfl ?_
  refine LW.get (pc := 13) (f := 13) (ci := 3) (T := TX3) ht (by decide) rfl dX3_makePending_13 tw_574 rfl (by decide) rfl ?_
  refine AW.aload_n (pc := 16) dX3_makePending_16 rfl rfl ?_
  refine LW.get (pc := 17) (f := 0) (ci := 3) (T := TX3) ht (by decide) rfl dX3_makePending_17 tw_552 rfl (by decide) rfl ?_
  refine LW.getN (pc := 20) (f := 5) (ci := 1) (T := TX1) ht (by decide) rfl dX3_makePending_20 tw_460 rfl (by decide) rfl ?_
  refine AW.iload_n (pc := 23) dX3_makePending_23 rfl rfl ?_
  obtain ⟨hin, hw⟩ := hw
  refine LW.iald (pc := 24) (j := p1.toNatClampNeg) ht (by decide) rfl dX3_makePending_24 hin rfl ?_
  refine AW.iadd (pc := 25) dX3_makePending_25 ?_
  obtain ⟨hin, hw⟩ := hw
  have hw := hw _ rfl
  refine LW.iast (pc := 26) (j := p1.toNatClampNeg) ht (by decide) (fun _ => rfl) dX3_makePending_26 hin rfl ?_
  generalize up2 m1 41 (p1.toNatClampNeg) ((m1 35 13) + (m1 8 (p1).toNatClampNeg)) = m2 at hw ⊢
  refine AW.aload_n (pc := 27) dX3_makePending_27 rfl rfl ?_
  refine LW.get (pc := 28) (f := 7) (ci := 3) (T := TX3) ht (by decide) rfl dX3_makePending_28 tw_564 rfl (by decide) rfl ?_
  refine AW.iload_n (pc := 31) dX3_makePending_31 rfl rfl ?_
  refine AW.aload_n (pc := 32) dX3_makePending_32 rfl rfl ?_
  refine LW.get (pc := 33) (f := 14) (ci := 3) (T := TX3) ht (by decide) rfl dX3_makePending_33 tw_576 rfl (by decide) rfl ?_
  obtain ⟨hin, hw⟩ := hw
  have hw := hw _ rfl
  refine LW.iast (pc := 36) (j := p1.toNatClampNeg) ht (by decide) (fun _ => rfl) dX3_makePending_36 hin rfl ?_
  generalize up2 m2 42 (p1.toNatClampNeg) (m2 35 14) = m3 at hw ⊢
  refine AW.aload_n (pc := 37) dX3_makePending_37 rfl rfl ?_
  refine AW.dup (pc := 38) dX3_makePending_38 rfl ?_
  refine LW.get (pc := 39) (f := 14) (ci := 3) (T := TX3) ht (by decide) rfl dX3_makePending_39 tw_576 rfl (by decide) rfl ?_
  refine AW.iconst (v := 1) (pc := 42) dX3_makePending_42 (by decide) ?_
  refine AW.iadd (pc := 43) dX3_makePending_43 ?_
  have hw := hw _ rfl
  refine LW.put (pc := 44) (f := 14) (ci := 3) (T := TX3) ht (by decide) rfl sp_35_14 dX3_makePending_44 tw_576 rfl (by decide) (Nat.le_of_ble_eq_true rfl) rfl ⟨rfl, rfl⟩ ?_
  generalize up2 m3 35 14 ((m3 35 14) + (1 : Int32)) = m4 at hw ⊢
  exact AW.vret (pc := 47) dX3_makePending_47 rfl (by omega) (by omega) (hQ _ hw)
set_option maxRecDepth 100000 in
set_option maxHeartbeats 4000000 in
theorem c_R_makePending_35 {d k t : Nat} {ex : Hp} {o : Nat → Int64} {K : Mem → Prop} {m : Mem} {p1 : Int32} {p2 : Int32} (ht : tok t) (hd : 2 ≤ d) (hw : w_R_makePending 35 p1 p2 m K) : AM mX3_makePending d [.ref 35, .int p1, .int p2] (lay t ex o m) k 0 0 (fun oc h' k' => k = k' ∧ ∃ (m' : Mem), oc = .inl none ∧ h' = lay t ex o m' ∧ K m') :=
  AM.intro (μ := mX3_makePending) (n := 0) (by decide) rfl rfl rfl (b_R_makePending_35 ht hd (by omega) (by omega) (fun _ hK => ⟨rfl, _, rfl, rfl, hK⟩) p1 p2 hw)
def w_R_valueOf (r : Nat) (p1 : Int32) (m : Mem) (K : Int32 → Mem → Prop) : Prop :=
  ((p1 < 0 → K (2 : Int32) m) ∧ (¬ (p1 < 0) → (((24 : Int32) ≤ p1 → K (2 : Int32) m) ∧ (¬ ((24 : Int32) ≤ p1) → vp_in p1 24 ∧ K (m (r + 1) (p1).toNatClampNeg) m))))
set_option maxRecDepth 100000 in
set_option maxHeartbeats 4000000 in
theorem b_R_valueOf_23 {Z : Gz} {d k0 mc ms cs ss k t : Nat} {Q : Po} {ex : Hp} {o : Nat → Int64} {K : Int32 → Mem → Prop}  (ht : tok t) (hd : 2 ≤ d) (hcs : cs + 0 ≤ mc) (hss : ss + 0 ≤ ms) (hQ : ∀ (r : Int32) (m : Mem), K r m → Q (.inl (some (.int r))) (lay t ex o m) k) {m : Mem} (p1 : Int32) (hw : w_R_valueOf 23 p1 m K) : AW Z mX3_valueOf d k0 mc ms Q 0 [.ref 23, .int p1] [] (lay t ex o m) k cs ss := by
  unfold w_R_valueOf at hw
  refine AW.iload_n (pc := 0) dX3_valueOf_0 rfl rfl ?_
  refine AW.if_lt (pc := 1) (tgt := 19) dX3_valueOf_1 (by decide) (fun c1 => ?_) (fun c1 => ?_)
  · have hw := hw.1 c1
    refine AW.iconst (v := 2) (pc := 19) dX3_valueOf_19 (by decide) ?_
    exact AW.iret (pc := 20) dX3_valueOf_20 rfl rfl (by omega) (by omega) (hQ _ _ hw)
  · have hw := hw.2 c1
    refine AW.iload_n (pc := 4) dX3_valueOf_4 rfl rfl ?_
    refine AW.bipush (v := 24) (pc := 5) dX3_valueOf_5 (by decide) ?_
    refine AW.icmp_ge (pc := 7) (tgt := 19) dX3_valueOf_7 (by decide) (fun c2 => ?_) (fun c2 => ?_)
    · have hw := hw.1 c2
      refine AW.iconst (v := 2) (pc := 19) dX3_valueOf_19 (by decide) ?_
      exact AW.iret (pc := 20) dX3_valueOf_20 rfl rfl (by omega) (by omega) (hQ _ _ hw)
    · have hw := hw.2 c2
      refine AW.aload_n (pc := 10) dX3_valueOf_10 rfl rfl ?_
      refine LW.get (pc := 11) (f := 1) (ci := 3) (T := TX3) ht (by decide) rfl dX3_valueOf_11 tw_553 rfl (by decide) rfl ?_
      refine AW.iload_n (pc := 14) dX3_valueOf_14 rfl rfl ?_
      obtain ⟨hin, hw⟩ := hw
      refine LW.iald (pc := 15) (j := p1.toNatClampNeg) ht (by decide) rfl dX3_valueOf_15 hin rfl ?_
      refine AW.goto (pc := 16) (tgt := 20) dX3_valueOf_16 (by decide) ?_
      exact AW.iret (pc := 20) dX3_valueOf_20 rfl rfl (by omega) (by omega) (hQ _ _ hw)
set_option maxRecDepth 100000 in
set_option maxHeartbeats 4000000 in
theorem c_R_valueOf_23 {d k t : Nat} {ex : Hp} {o : Nat → Int64} {K : Int32 → Mem → Prop} {m : Mem} {p1 : Int32} (ht : tok t) (hd : 2 ≤ d) (hw : w_R_valueOf 23 p1 m K) : AM mX3_valueOf d [.ref 23, .int p1] (lay t ex o m) k 0 0 (fun oc h' k' => k = k' ∧ ∃ (r : Int32) (m' : Mem), oc = .inl (some (.int r)) ∧ h' = lay t ex o m' ∧ K r m') :=
  AM.intro (μ := mX3_valueOf) (n := 0) (by decide) rfl rfl rfl (b_R_valueOf_23 ht hd (by omega) (by omega) (fun _ _ hK => ⟨rfl, _, _, rfl, rfl, hK⟩) p1 hw)
set_option maxRecDepth 100000 in
set_option maxHeartbeats 4000000 in
theorem b_R_valueOf_35 {Z : Gz} {d k0 mc ms cs ss k t : Nat} {Q : Po} {ex : Hp} {o : Nat → Int64} {K : Int32 → Mem → Prop}  (ht : tok t) (hd : 2 ≤ d) (hcs : cs + 0 ≤ mc) (hss : ss + 0 ≤ ms) (hQ : ∀ (r : Int32) (m : Mem), K r m → Q (.inl (some (.int r))) (lay t ex o m) k) {m : Mem} (p1 : Int32) (hw : w_R_valueOf 35 p1 m K) : AW Z mX3_valueOf d k0 mc ms Q 0 [.ref 35, .int p1] [] (lay t ex o m) k cs ss := by
  unfold w_R_valueOf at hw
  refine AW.iload_n (pc := 0) dX3_valueOf_0 rfl rfl ?_
  refine AW.if_lt (pc := 1) (tgt := 19) dX3_valueOf_1 (by decide) (fun c1 => ?_) (fun c1 => ?_)
  · have hw := hw.1 c1
    refine AW.iconst (v := 2) (pc := 19) dX3_valueOf_19 (by decide) ?_
    exact AW.iret (pc := 20) dX3_valueOf_20 rfl rfl (by omega) (by omega) (hQ _ _ hw)
  · have hw := hw.2 c1
    refine AW.iload_n (pc := 4) dX3_valueOf_4 rfl rfl ?_
    refine AW.bipush (v := 24) (pc := 5) dX3_valueOf_5 (by decide) ?_
    refine AW.icmp_ge (pc := 7) (tgt := 19) dX3_valueOf_7 (by decide) (fun c2 => ?_) (fun c2 => ?_)
    · have hw := hw.1 c2
      refine AW.iconst (v := 2) (pc := 19) dX3_valueOf_19 (by decide) ?_
      exact AW.iret (pc := 20) dX3_valueOf_20 rfl rfl (by omega) (by omega) (hQ _ _ hw)
    · have hw := hw.2 c2
      refine AW.aload_n (pc := 10) dX3_valueOf_10 rfl rfl ?_
      refine LW.get (pc := 11) (f := 1) (ci := 3) (T := TX3) ht (by decide) rfl dX3_valueOf_11 tw_553 rfl (by decide) rfl ?_
      refine AW.iload_n (pc := 14) dX3_valueOf_14 rfl rfl ?_
      obtain ⟨hin, hw⟩ := hw
      refine LW.iald (pc := 15) (j := p1.toNatClampNeg) ht (by decide) rfl dX3_valueOf_15 hin rfl ?_
      refine AW.goto (pc := 16) (tgt := 20) dX3_valueOf_16 (by decide) ?_
      exact AW.iret (pc := 20) dX3_valueOf_20 rfl rfl (by omega) (by omega) (hQ _ _ hw)
set_option maxRecDepth 100000 in
set_option maxHeartbeats 4000000 in
theorem c_R_valueOf_35 {d k t : Nat} {ex : Hp} {o : Nat → Int64} {K : Int32 → Mem → Prop} {m : Mem} {p1 : Int32} (ht : tok t) (hd : 2 ≤ d) (hw : w_R_valueOf 35 p1 m K) : AM mX3_valueOf d [.ref 35, .int p1] (lay t ex o m) k 0 0 (fun oc h' k' => k = k' ∧ ∃ (r : Int32) (m' : Mem), oc = .inl (some (.int r)) ∧ h' = lay t ex o m' ∧ K r m') :=
  AM.intro (μ := mX3_valueOf) (n := 0) (by decide) rfl rfl rfl (b_R_valueOf_35 ht hd (by omega) (by omega) (fun _ _ hK => ⟨rfl, _, _, rfl, rfl, hK⟩) p1 hw)
def w_R_both (p0 : Int32) (p1 : Int32) (m : Mem) (K : Int32 → Mem → Prop) : Prop :=
  ((p0 = 0 → K (0 : Int32) m) ∧ (¬ (p0 = 0) → ((¬ (p1 = 0) → ((¬ (p0 = (1 : Int32)) → K (2 : Int32) m) ∧ (p0 = (1 : Int32) → ((¬ (p1 = (1 : Int32)) → K (2 : Int32) m) ∧ (p1 = (1 : Int32) → K (1 : Int32) m))))) ∧ (p1 = 0 → K (0 : Int32) m))))
set_option maxRecDepth 100000 in
set_option maxHeartbeats 4000000 in
theorem b_R_both {Z : Gz} {d k0 mc ms cs ss k t : Nat} {Q : Po} {ex : Hp} {o : Nat → Int64} {K : Int32 → Mem → Prop}  (ht : tok t) (hd : 2 ≤ d) (hcs : cs + 0 ≤ mc) (hss : ss + 0 ≤ ms) (hQ : ∀ (r : Int32) (m : Mem), K r m → Q (.inl (some (.int r))) (lay t ex o m) k) {m : Mem} (p0 : Int32) (p1 : Int32) (hw : w_R_both p0 p1 m K) : AW Z mX3_both d k0 mc ms Q 0 [.int p0, .int p1] [] (lay t ex o m) k cs ss := by
  unfold w_R_both at hw
  refine AW.iload_n (pc := 0) dX3_both_0 rfl rfl ?_
  refine AW.if_eq (pc := 1) (tgt := 8) dX3_both_1 (by decide) (fun c1 => ?_) (fun c1 => ?_)
  · have hw := hw.1 c1
    refine AW.iconst (v := 0) (pc := 8) dX3_both_8 (by decide) ?_
    refine AW.goto (pc := 9) (tgt := 27) dX3_both_9 (by decide) ?_
    exact AW.iret (pc := 27) dX3_both_27 rfl rfl (by omega) (by omega) (hQ _ _ hw)
  · have hw := hw.2 c1
    refine AW.iload_n (pc := 4) dX3_both_4 rfl rfl ?_
    refine AW.if_ne (pc := 5) (tgt := 12) dX3_both_5 (by decide) (fun c2 => ?_) (fun c2 => ?_)
    · have hw := hw.1 c2
      refine AW.iload_n (pc := 12) dX3_both_12 rfl rfl ?_
      refine AW.iconst (v := 1) (pc := 13) dX3_both_13 (by decide) ?_
      refine AW.icmp_ne (pc := 14) (tgt := 26) dX3_both_14 (by decide) (fun c3 => ?_) (fun c3 => ?_)
      · have hw := hw.1 c3
        refine AW.iconst (v := 2) (pc := 26) dX3_both_26 (by decide) ?_
        exact AW.iret (pc := 27) dX3_both_27 rfl rfl (by omega) (by omega) (hQ _ _ hw)
      · have hw := hw.2 c3
        refine AW.iload_n (pc := 17) dX3_both_17 rfl rfl ?_
        refine AW.iconst (v := 1) (pc := 18) dX3_both_18 (by decide) ?_
        refine AW.icmp_ne (pc := 19) (tgt := 26) dX3_both_19 (by decide) (fun c4 => ?_) (fun c4 => ?_)
        · have hw := hw.1 c4
          refine AW.iconst (v := 2) (pc := 26) dX3_both_26 (by decide) ?_
          exact AW.iret (pc := 27) dX3_both_27 rfl rfl (by omega) (by omega) (hQ _ _ hw)
        · have hw := hw.2 c4
          refine AW.iconst (v := 1) (pc := 22) dX3_both_22 (by decide) ?_
          refine AW.goto (pc := 23) (tgt := 27) dX3_both_23 (by decide) ?_
          exact AW.iret (pc := 27) dX3_both_27 rfl rfl (by omega) (by omega) (hQ _ _ hw)
    · have hw := hw.2 c2
      refine AW.iconst (v := 0) (pc := 8) dX3_both_8 (by decide) ?_
      refine AW.goto (pc := 9) (tgt := 27) dX3_both_9 (by decide) ?_
      exact AW.iret (pc := 27) dX3_both_27 rfl rfl (by omega) (by omega) (hQ _ _ hw)
set_option maxRecDepth 100000 in
set_option maxHeartbeats 4000000 in
theorem c_R_both {d k t : Nat} {ex : Hp} {o : Nat → Int64} {K : Int32 → Mem → Prop} {m : Mem} {p0 : Int32} {p1 : Int32} (ht : tok t) (hd : 2 ≤ d) (hw : w_R_both p0 p1 m K) : AM mX3_both d [.int p0, .int p1] (lay t ex o m) k 0 0 (fun oc h' k' => k = k' ∧ ∃ (r : Int32) (m' : Mem), oc = .inl (some (.int r)) ∧ h' = lay t ex o m' ∧ K r m') :=
  AM.intro (μ := mX3_both) (n := 0) (by decide) rfl rfl rfl (b_R_both ht hd (by omega) (by omega) (fun _ _ hK => ⟨rfl, _, _, rfl, rfl, hK⟩) p0 p1 hw)
def w_R_chosen (p0 : Int32) (p1 : Int32) (p2 : Int32) (m : Mem) (K : Int32 → Mem → Prop) : Prop :=
  ((¬ (p0 = (2 : Int32)) → ((¬ (p0 = (1 : Int32)) → K p2 m) ∧ (p0 = (1 : Int32) → K p1 m))) ∧ (p0 = (2 : Int32) → ((¬ (p1 = p2) → K (2 : Int32) m) ∧ (p1 = p2 → K p1 m))))
set_option maxRecDepth 100000 in
set_option maxHeartbeats 4000000 in
theorem b_R_chosen {Z : Gz} {d k0 mc ms cs ss k t : Nat} {Q : Po} {ex : Hp} {o : Nat → Int64} {K : Int32 → Mem → Prop}  (ht : tok t) (hd : 2 ≤ d) (hcs : cs + 0 ≤ mc) (hss : ss + 0 ≤ ms) (hQ : ∀ (r : Int32) (m : Mem), K r m → Q (.inl (some (.int r))) (lay t ex o m) k) {m : Mem} (p0 : Int32) (p1 : Int32) (p2 : Int32) (hw : w_R_chosen p0 p1 p2 m K) : AW Z mX3_chosen d k0 mc ms Q 0 [.int p0, .int p1, .int p2] [] (lay t ex o m) k cs ss := by
  unfold w_R_chosen at hw
  refine AW.iload_n (pc := 0) dX3_chosen_0 rfl rfl ?_
  refine AW.iconst (v := 2) (pc := 1) dX3_chosen_1 (by decide) ?_
  refine AW.icmp_ne (pc := 2) (tgt := 16) dX3_chosen_2 (by decide) (fun c1 => ?_) (fun c1 => ?_)
  · have hw := hw.1 c1
    refine AW.iload_n (pc := 16) dX3_chosen_16 rfl rfl ?_
    refine AW.iconst (v := 1) (pc := 17) dX3_chosen_17 (by decide) ?_
    refine AW.icmp_ne (pc := 18) (tgt := 25) dX3_chosen_18 (by decide) (fun c2 => ?_) (fun c2 => ?_)
    · have hw := hw.1 c2
      refine AW.iload_n (pc := 25) dX3_chosen_25 rfl rfl ?_
      exact AW.iret (pc := 26) dX3_chosen_26 rfl rfl (by omega) (by omega) (hQ _ _ hw)
    · have hw := hw.2 c2
      refine AW.iload_n (pc := 21) dX3_chosen_21 rfl rfl ?_
      refine AW.goto (pc := 22) (tgt := 26) dX3_chosen_22 (by decide) ?_
      exact AW.iret (pc := 26) dX3_chosen_26 rfl rfl (by omega) (by omega) (hQ _ _ hw)
  · have hw := hw.2 c1
    refine AW.iload_n (pc := 5) dX3_chosen_5 rfl rfl ?_
    refine AW.iload_n (pc := 6) dX3_chosen_6 rfl rfl ?_
    refine AW.icmp_ne (pc := 7) (tgt := 14) dX3_chosen_7 (by decide) (fun c3 => ?_) (fun c3 => ?_)
    · have hw := hw.1 c3
      refine AW.iconst (v := 2) (pc := 14) dX3_chosen_14 (by decide) ?_
      exact AW.iret (pc := 15) dX3_chosen_15 rfl rfl (by omega) (by omega) (hQ _ _ hw)
    · have hw := hw.2 c3
      refine AW.iload_n (pc := 10) dX3_chosen_10 rfl rfl ?_
      refine AW.goto (pc := 11) (tgt := 15) dX3_chosen_11 (by decide) ?_
      exact AW.iret (pc := 15) dX3_chosen_15 rfl rfl (by omega) (by omega) (hQ _ _ hw)
set_option maxRecDepth 100000 in
set_option maxHeartbeats 4000000 in
theorem c_R_chosen {d k t : Nat} {ex : Hp} {o : Nat → Int64} {K : Int32 → Mem → Prop} {m : Mem} {p0 : Int32} {p1 : Int32} {p2 : Int32} (ht : tok t) (hd : 2 ≤ d) (hw : w_R_chosen p0 p1 p2 m K) : AM mX3_chosen d [.int p0, .int p1, .int p2] (lay t ex o m) k 0 0 (fun oc h' k' => k = k' ∧ ∃ (r : Int32) (m' : Mem), oc = .inl (some (.int r)) ∧ h' = lay t ex o m' ∧ K r m') :=
  AM.intro (μ := mX3_chosen) (n := 0) (by decide) rfl rfl rfl (b_R_chosen ht hd (by omega) (by omega) (fun _ _ hK => ⟨rfl, _, _, rfl, rfl, hK⟩) p0 p1 p2 hw)
def w_R_either (p0 : Int32) (p1 : Int32) (m : Mem) (K : Int32 → Mem → Prop) : Prop :=
  ((p0 = (1 : Int32) → K (1 : Int32) m) ∧ (¬ (p0 = (1 : Int32)) → ((¬ (p1 = (1 : Int32)) → ((¬ (p0 = 0) → K (2 : Int32) m) ∧ (p0 = 0 → ((¬ (p1 = 0) → K (2 : Int32) m) ∧ (p1 = 0 → K (0 : Int32) m))))) ∧ (p1 = (1 : Int32) → K (1 : Int32) m))))
set_option maxRecDepth 100000 in
set_option maxHeartbeats 4000000 in
theorem b_R_either {Z : Gz} {d k0 mc ms cs ss k t : Nat} {Q : Po} {ex : Hp} {o : Nat → Int64} {K : Int32 → Mem → Prop}  (ht : tok t) (hd : 2 ≤ d) (hcs : cs + 0 ≤ mc) (hss : ss + 0 ≤ ms) (hQ : ∀ (r : Int32) (m : Mem), K r m → Q (.inl (some (.int r))) (lay t ex o m) k) {m : Mem} (p0 : Int32) (p1 : Int32) (hw : w_R_either p0 p1 m K) : AW Z mX3_either d k0 mc ms Q 0 [.int p0, .int p1] [] (lay t ex o m) k cs ss := by
  unfold w_R_either at hw
  refine AW.iload_n (pc := 0) dX3_either_0 rfl rfl ?_
  refine AW.iconst (v := 1) (pc := 1) dX3_either_1 (by decide) ?_
  refine AW.icmp_eq (pc := 2) (tgt := 10) dX3_either_2 (by decide) (fun c1 => ?_) (fun c1 => ?_)
  · have hw := hw.1 c1
    refine AW.iconst (v := 1) (pc := 10) dX3_either_10 (by decide) ?_
    refine AW.goto (pc := 11) (tgt := 27) dX3_either_11 (by decide) ?_
    exact AW.iret (pc := 27) dX3_either_27 rfl rfl (by omega) (by omega) (hQ _ _ hw)
  · have hw := hw.2 c1
    refine AW.iload_n (pc := 5) dX3_either_5 rfl rfl ?_
    refine AW.iconst (v := 1) (pc := 6) dX3_either_6 (by decide) ?_
    refine AW.icmp_ne (pc := 7) (tgt := 14) dX3_either_7 (by decide) (fun c2 => ?_) (fun c2 => ?_)
    · have hw := hw.1 c2
      refine AW.iload_n (pc := 14) dX3_either_14 rfl rfl ?_
      refine AW.if_ne (pc := 15) (tgt := 26) dX3_either_15 (by decide) (fun c3 => ?_) (fun c3 => ?_)
      · have hw := hw.1 c3
        refine AW.iconst (v := 2) (pc := 26) dX3_either_26 (by decide) ?_
        exact AW.iret (pc := 27) dX3_either_27 rfl rfl (by omega) (by omega) (hQ _ _ hw)
      · have hw := hw.2 c3
        refine AW.iload_n (pc := 18) dX3_either_18 rfl rfl ?_
        refine AW.if_ne (pc := 19) (tgt := 26) dX3_either_19 (by decide) (fun c4 => ?_) (fun c4 => ?_)
        · have hw := hw.1 c4
          refine AW.iconst (v := 2) (pc := 26) dX3_either_26 (by decide) ?_
          exact AW.iret (pc := 27) dX3_either_27 rfl rfl (by omega) (by omega) (hQ _ _ hw)
        · have hw := hw.2 c4
          refine AW.iconst (v := 0) (pc := 22) dX3_either_22 (by decide) ?_
          refine AW.goto (pc := 23) (tgt := 27) dX3_either_23 (by decide) ?_
          exact AW.iret (pc := 27) dX3_either_27 rfl rfl (by omega) (by omega) (hQ _ _ hw)
    · have hw := hw.2 c2
      refine AW.iconst (v := 1) (pc := 10) dX3_either_10 (by decide) ?_
      refine AW.goto (pc := 11) (tgt := 27) dX3_either_11 (by decide) ?_
      exact AW.iret (pc := 27) dX3_either_27 rfl rfl (by omega) (by omega) (hQ _ _ hw)
set_option maxRecDepth 100000 in
set_option maxHeartbeats 4000000 in
theorem c_R_either {d k t : Nat} {ex : Hp} {o : Nat → Int64} {K : Int32 → Mem → Prop} {m : Mem} {p0 : Int32} {p1 : Int32} (ht : tok t) (hd : 2 ≤ d) (hw : w_R_either p0 p1 m K) : AM mX3_either d [.int p0, .int p1] (lay t ex o m) k 0 0 (fun oc h' k' => k = k' ∧ ∃ (r : Int32) (m' : Mem), oc = .inl (some (.int r)) ∧ h' = lay t ex o m' ∧ K r m') :=
  AM.intro (μ := mX3_either) (n := 0) (by decide) rfl rfl rfl (b_R_either ht hd (by omega) (by omega) (fun _ _ hK => ⟨rfl, _, _, rfl, rfl, hK⟩) p0 p1 hw)
def w_R_turned (p0 : Int32) (m : Mem) (K : Int32 → Mem → Prop) : Prop :=
  ((¬ (p0 = (2 : Int32)) → K ((1 : Int32) - p0) m) ∧ (p0 = (2 : Int32) → K (2 : Int32) m))
set_option maxRecDepth 100000 in
set_option maxHeartbeats 4000000 in
theorem b_R_turned {Z : Gz} {d k0 mc ms cs ss k t : Nat} {Q : Po} {ex : Hp} {o : Nat → Int64} {K : Int32 → Mem → Prop}  (ht : tok t) (hd : 2 ≤ d) (hcs : cs + 0 ≤ mc) (hss : ss + 0 ≤ ms) (hQ : ∀ (r : Int32) (m : Mem), K r m → Q (.inl (some (.int r))) (lay t ex o m) k) {m : Mem} (p0 : Int32) (hw : w_R_turned p0 m K) : AW Z mX3_turned d k0 mc ms Q 0 [.int p0] [] (lay t ex o m) k cs ss := by
  unfold w_R_turned at hw
  refine AW.iload_n (pc := 0) dX3_turned_0 rfl rfl ?_
  refine AW.iconst (v := 2) (pc := 1) dX3_turned_1 (by decide) ?_
  refine AW.icmp_ne (pc := 2) (tgt := 9) dX3_turned_2 (by decide) (fun c1 => ?_) (fun c1 => ?_)
  · have hw := hw.1 c1
    refine AW.iconst (v := 1) (pc := 9) dX3_turned_9 (by decide) ?_
    refine AW.iload_n (pc := 10) dX3_turned_10 rfl rfl ?_
    refine AW.isub (pc := 11) dX3_turned_11 ?_
    exact AW.iret (pc := 12) dX3_turned_12 rfl rfl (by omega) (by omega) (hQ _ _ hw)
  · have hw := hw.2 c1
    refine AW.iconst (v := 2) (pc := 5) dX3_turned_5 (by decide) ?_
    refine AW.goto (pc := 6) (tgt := 12) dX3_turned_6 (by decide) ?_
    exact AW.iret (pc := 12) dX3_turned_12 rfl rfl (by omega) (by omega) (hQ _ _ hw)
set_option maxRecDepth 100000 in
set_option maxHeartbeats 4000000 in
theorem c_R_turned {d k t : Nat} {ex : Hp} {o : Nat → Int64} {K : Int32 → Mem → Prop} {m : Mem} {p0 : Int32} (ht : tok t) (hd : 2 ≤ d) (hw : w_R_turned p0 m K) : AM mX3_turned d [.int p0] (lay t ex o m) k 0 0 (fun oc h' k' => k = k' ∧ ∃ (r : Int32) (m' : Mem), oc = .inl (some (.int r)) ∧ h' = lay t ex o m' ∧ K r m') :=
  AM.intro (μ := mX3_turned) (n := 0) (by decide) rfl rfl rfl (b_R_turned ht hd (by omega) (by omega) (fun _ _ hK => ⟨rfl, _, _, rfl, rfl, hK⟩) p0 hw)
def w_R_worked (p0 : Int32) (p1 : Int32) (p2 : Int32) (p3 : Int32) (m : Mem) (K : Int32 → Mem → Prop) : Prop :=
  ((p0 = 0 → w_R_turned p1 m (fun r2 m1 => K r2 m1)) ∧ (p0 = 1 → K p1 m) ∧ (p0 = 2 → w_R_both p1 p2 m (fun r4 m3 => K r4 m3)) ∧ (p0 = 3 → w_R_either p1 p2 m (fun r6 m5 => K r6 m5)) ∧ (p0 = 4 → ((p1 = (2 : Int32) → K (2 : Int32) m) ∧ (¬ (p1 = (2 : Int32)) → ((¬ (p2 = (2 : Int32)) → ((p1 = p2 → K (0 : Int32) m) ∧ (¬ (p1 = p2) → K (1 : Int32) m))) ∧ (p2 = (2 : Int32) → K (2 : Int32) m))))) ∧ (p0 = 5 → w_R_both p1 p2 m (fun r11 m10 => w_R_turned r11 m10 (fun r13 m12 => K r13 m12))) ∧ (p0 = 6 → w_R_either p1 p2 m (fun r15 m14 => w_R_turned r15 m14 (fun r17 m16 => K r17 m16))) ∧ (p0 = 7 → w_R_chosen p1 p2 p3 m (fun r19 m18 => K r19 m18)) ∧ (¬ p0 = 0 → ¬ p0 = 1 → ¬ p0 = 2 → ¬ p0 = 3 → ¬ p0 = 4 → ¬ p0 = 5 → ¬ p0 = 6 → ¬ p0 = 7 → K (2 : Int32) m))
set_option maxRecDepth 100000 in
set_option maxHeartbeats 4000000 in
theorem b_R_worked {Z : Gz} {d k0 mc ms cs ss k t : Nat} {Q : Po} {ex : Hp} {o : Nat → Int64} {K : Int32 → Mem → Prop}  (ht : tok t) (hd : 3 ≤ d) (hcs : cs + 0 ≤ mc) (hss : ss + 0 ≤ ms) (hQ : ∀ (r : Int32) (m : Mem), K r m → Q (.inl (some (.int r))) (lay t ex o m) k) {m : Mem} (p0 : Int32) (p1 : Int32) (p2 : Int32) (p3 : Int32) (hw : w_R_worked p0 p1 p2 p3 m K) : AW Z mX3_worked d k0 mc ms Q 0 [.int p0, .int p1, .int p2, .int p3] [] (lay t ex o m) k cs ss := by
  unfold w_R_worked at hw
  refine AW.iload_n (pc := 0) dX3_worked_0 rfl rfl ?_
  by_cases s0 : p0 = 0
  · have hw := hw.1 s0
    refine AW.tableIn (pc := 1) (tgt := 48) dX3_worked_1 (by rw [s0]; decide) (by rw [s0]; decide) (off := 47) (by rw [s0]; decide) (by decide) ?_
    refine AW.iload_n (pc := 48) dX3_worked_48 rfl rfl ?_
    refine AW.callS (pc := 49) (S' := []) dX3_worked_49 (c_R_turned (d := d - 1) ht (by omega) hw) ok_X3_turned tw_242 tw_241 rfl (by omega) rfl (Nat.le_of_ble_eq_true rfl) (by omega) (by omega) ?_ (fun E h' k' hq => by obtain ⟨rfl, r2, m1, hv, -⟩ := hq; cases hv)
    intro v h' k' hq
    obtain ⟨rfl, r2, m1, hv, rfl, hw⟩ := hq
    cases hv
    show AW _ _ _ _ _ _ _ 52 [.int p0, .int p1, .int p2, .int p3] [.int r2] (lay t ex o m1) k _ _
    exact AW.iret (pc := 52) dX3_worked_52 rfl rfl (by omega) (by omega) (hQ _ _ hw)
  by_cases s1 : p0 = 1
  · have hw := hw.2.1 s1
    refine AW.tableIn (pc := 1) (tgt := 53) dX3_worked_1 (by rw [s1]; decide) (by rw [s1]; decide) (off := 52) (by rw [s1]; decide) (by decide) ?_
    refine AW.iload_n (pc := 53) dX3_worked_53 rfl rfl ?_
    exact AW.iret (pc := 54) dX3_worked_54 rfl rfl (by omega) (by omega) (hQ _ _ hw)
  by_cases s2 : p0 = 2
  · have hw := hw.2.2.1 s2
    refine AW.tableIn (pc := 1) (tgt := 55) dX3_worked_1 (by rw [s2]; decide) (by rw [s2]; decide) (off := 54) (by rw [s2]; decide) (by decide) ?_
    refine AW.iload_n (pc := 55) dX3_worked_55 rfl rfl ?_
    refine AW.iload_n (pc := 56) dX3_worked_56 rfl rfl ?_
    refine AW.callS (pc := 57) (S' := []) dX3_worked_57 (c_R_both (d := d - 1) ht (by omega) hw) ok_X3_both tw_245 tw_244 rfl (by omega) rfl (Nat.le_of_ble_eq_true rfl) (by omega) (by omega) ?_ (fun E h' k' hq => by obtain ⟨rfl, r4, m3, hv, -⟩ := hq; cases hv)
    intro v h' k' hq
    obtain ⟨rfl, r4, m3, hv, rfl, hw⟩ := hq
    cases hv
    show AW _ _ _ _ _ _ _ 60 [.int p0, .int p1, .int p2, .int p3] [.int r4] (lay t ex o m3) k _ _
    exact AW.iret (pc := 60) dX3_worked_60 rfl rfl (by omega) (by omega) (hQ _ _ hw)
  by_cases s3 : p0 = 3
  · have hw := hw.2.2.2.1 s3
    refine AW.tableIn (pc := 1) (tgt := 61) dX3_worked_1 (by rw [s3]; decide) (by rw [s3]; decide) (off := 60) (by rw [s3]; decide) (by decide) ?_
    refine AW.iload_n (pc := 61) dX3_worked_61 rfl rfl ?_
    refine AW.iload_n (pc := 62) dX3_worked_62 rfl rfl ?_
    refine AW.callS (pc := 63) (S' := []) dX3_worked_63 (c_R_either (d := d - 1) ht (by omega) hw) ok_X3_either tw_248 tw_247 rfl (by omega) rfl (Nat.le_of_ble_eq_true rfl) (by omega) (by omega) ?_ (fun E h' k' hq => by obtain ⟨rfl, r6, m5, hv, -⟩ := hq; cases hv)
    intro v h' k' hq
    obtain ⟨rfl, r6, m5, hv, rfl, hw⟩ := hq
    cases hv
    show AW _ _ _ _ _ _ _ 66 [.int p0, .int p1, .int p2, .int p3] [.int r6] (lay t ex o m5) k _ _
    exact AW.iret (pc := 66) dX3_worked_66 rfl rfl (by omega) (by omega) (hQ _ _ hw)
  by_cases s4 : p0 = 4
  · have hw := hw.2.2.2.2.1 s4
    refine AW.tableIn (pc := 1) (tgt := 67) dX3_worked_1 (by rw [s4]; decide) (by rw [s4]; decide) (off := 66) (by rw [s4]; decide) (by decide) ?_
    refine AW.iload_n (pc := 67) dX3_worked_67 rfl rfl ?_
    refine AW.iconst (v := 2) (pc := 68) dX3_worked_68 (by decide) ?_
    refine AW.icmp_eq (pc := 69) (tgt := 77) dX3_worked_69 (by decide) (fun c7 => ?_) (fun c7 => ?_)
    · have hw := hw.1 c7
      refine AW.iconst (v := 2) (pc := 77) dX3_worked_77 (by decide) ?_
      refine AW.goto (pc := 78) (tgt := 91) dX3_worked_78 (by decide) ?_
      exact AW.iret (pc := 91) dX3_worked_91 rfl rfl (by omega) (by omega) (hQ _ _ hw)
    · have hw := hw.2 c7
      refine AW.iload_n (pc := 72) dX3_worked_72 rfl rfl ?_
      refine AW.iconst (v := 2) (pc := 73) dX3_worked_73 (by decide) ?_
      refine AW.icmp_ne (pc := 74) (tgt := 81) dX3_worked_74 (by decide) (fun c8 => ?_) (fun c8 => ?_)
      · have hw := hw.1 c8
        refine AW.iload_n (pc := 81) dX3_worked_81 rfl rfl ?_
        refine AW.iload_n (pc := 82) dX3_worked_82 rfl rfl ?_
        refine AW.icmp_eq (pc := 83) (tgt := 90) dX3_worked_83 (by decide) (fun c9 => ?_) (fun c9 => ?_)
        · have hw := hw.1 c9
          refine AW.iconst (v := 0) (pc := 90) dX3_worked_90 (by decide) ?_
          exact AW.iret (pc := 91) dX3_worked_91 rfl rfl (by omega) (by omega) (hQ _ _ hw)
        · have hw := hw.2 c9
          refine AW.iconst (v := 1) (pc := 86) dX3_worked_86 (by decide) ?_
          refine AW.goto (pc := 87) (tgt := 91) dX3_worked_87 (by decide) ?_
          exact AW.iret (pc := 91) dX3_worked_91 rfl rfl (by omega) (by omega) (hQ _ _ hw)
      · have hw := hw.2 c8
        refine AW.iconst (v := 2) (pc := 77) dX3_worked_77 (by decide) ?_
        refine AW.goto (pc := 78) (tgt := 91) dX3_worked_78 (by decide) ?_
        exact AW.iret (pc := 91) dX3_worked_91 rfl rfl (by omega) (by omega) (hQ _ _ hw)
  by_cases s5 : p0 = 5
  · have hw := hw.2.2.2.2.2.1 s5
    refine AW.tableIn (pc := 1) (tgt := 92) dX3_worked_1 (by rw [s5]; decide) (by rw [s5]; decide) (off := 91) (by rw [s5]; decide) (by decide) ?_
    refine AW.iload_n (pc := 92) dX3_worked_92 rfl rfl ?_
    refine AW.iload_n (pc := 93) dX3_worked_93 rfl rfl ?_
    refine AW.callS (pc := 94) (S' := []) dX3_worked_94 (c_R_both (d := d - 1) ht (by omega) hw) ok_X3_both tw_245 tw_244 rfl (by omega) rfl (Nat.le_of_ble_eq_true rfl) (by omega) (by omega) ?_ (fun E h' k' hq => by obtain ⟨rfl, r11, m10, hv, -⟩ := hq; cases hv)
    intro v h' k' hq
    obtain ⟨rfl, r11, m10, hv, rfl, hw⟩ := hq
    cases hv
    show AW _ _ _ _ _ _ _ 97 [.int p0, .int p1, .int p2, .int p3] [.int r11] (lay t ex o m10) k _ _
    refine AW.callS (pc := 97) (S' := []) dX3_worked_97 (c_R_turned (d := d - 1) ht (by omega) hw) ok_X3_turned tw_242 tw_241 rfl (by omega) rfl (Nat.le_of_ble_eq_true rfl) (by omega) (by omega) ?_ (fun E h' k' hq => by obtain ⟨rfl, r13, m12, hv, -⟩ := hq; cases hv)
    intro v h' k' hq
    obtain ⟨rfl, r13, m12, hv, rfl, hw⟩ := hq
    cases hv
    show AW _ _ _ _ _ _ _ 100 [.int p0, .int p1, .int p2, .int p3] [.int r13] (lay t ex o m12) k _ _
    exact AW.iret (pc := 100) dX3_worked_100 rfl rfl (by omega) (by omega) (hQ _ _ hw)
  by_cases s6 : p0 = 6
  · have hw := hw.2.2.2.2.2.2.1 s6
    refine AW.tableIn (pc := 1) (tgt := 101) dX3_worked_1 (by rw [s6]; decide) (by rw [s6]; decide) (off := 100) (by rw [s6]; decide) (by decide) ?_
    refine AW.iload_n (pc := 101) dX3_worked_101 rfl rfl ?_
    refine AW.iload_n (pc := 102) dX3_worked_102 rfl rfl ?_
    refine AW.callS (pc := 103) (S' := []) dX3_worked_103 (c_R_either (d := d - 1) ht (by omega) hw) ok_X3_either tw_248 tw_247 rfl (by omega) rfl (Nat.le_of_ble_eq_true rfl) (by omega) (by omega) ?_ (fun E h' k' hq => by obtain ⟨rfl, r15, m14, hv, -⟩ := hq; cases hv)
    intro v h' k' hq
    obtain ⟨rfl, r15, m14, hv, rfl, hw⟩ := hq
    cases hv
    show AW _ _ _ _ _ _ _ 106 [.int p0, .int p1, .int p2, .int p3] [.int r15] (lay t ex o m14) k _ _
    refine AW.callS (pc := 106) (S' := []) dX3_worked_106 (c_R_turned (d := d - 1) ht (by omega) hw) ok_X3_turned tw_242 tw_241 rfl (by omega) rfl (Nat.le_of_ble_eq_true rfl) (by omega) (by omega) ?_ (fun E h' k' hq => by obtain ⟨rfl, r17, m16, hv, -⟩ := hq; cases hv)
    intro v h' k' hq
    obtain ⟨rfl, r17, m16, hv, rfl, hw⟩ := hq
    cases hv
    show AW _ _ _ _ _ _ _ 109 [.int p0, .int p1, .int p2, .int p3] [.int r17] (lay t ex o m16) k _ _
    exact AW.iret (pc := 109) dX3_worked_109 rfl rfl (by omega) (by omega) (hQ _ _ hw)
  by_cases s7 : p0 = 7
  · have hw := hw.2.2.2.2.2.2.2.1 s7
    refine AW.tableIn (pc := 1) (tgt := 110) dX3_worked_1 (by rw [s7]; decide) (by rw [s7]; decide) (off := 109) (by rw [s7]; decide) (by decide) ?_
    refine AW.iload_n (pc := 110) dX3_worked_110 rfl rfl ?_
    refine AW.iload_n (pc := 111) dX3_worked_111 rfl rfl ?_
    refine AW.iload_n (pc := 112) dX3_worked_112 rfl rfl ?_
    refine AW.callS (pc := 113) (S' := []) dX3_worked_113 (c_R_chosen (d := d - 1) ht (by omega) hw) ok_X3_chosen tw_251 tw_250 rfl (by omega) rfl (Nat.le_of_ble_eq_true rfl) (by omega) (by omega) ?_ (fun E h' k' hq => by obtain ⟨rfl, r19, m18, hv, -⟩ := hq; cases hv)
    intro v h' k' hq
    obtain ⟨rfl, r19, m18, hv, rfl, hw⟩ := hq
    cases hv
    show AW _ _ _ _ _ _ _ 116 [.int p0, .int p1, .int p2, .int p3] [.int r19] (lay t ex o m18) k _ _
    exact AW.iret (pc := 116) dX3_worked_116 rfl rfl (by omega) (by omega) (hQ _ _ hw)
  have hw := hw.2.2.2.2.2.2.2.2 s0 s1 s2 s3 s4 s5 s6 s7
  refine AW.tableOut (pc := 1) (tgt := 117) dX3_worked_1 (by
      have q0 := lv_neT s0 (show (0 : Int32).toInt = 0 by decide)
      have q1 := lv_neT s1 (show (1 : Int32).toInt = 1 by decide)
      have q2 := lv_neT s2 (show (2 : Int32).toInt = 2 by decide)
      have q3 := lv_neT s3 (show (3 : Int32).toInt = 3 by decide)
      have q4 := lv_neT s4 (show (4 : Int32).toInt = 4 by decide)
      have q5 := lv_neT s5 (show (5 : Int32).toInt = 5 by decide)
      have q6 := lv_neT s6 (show (6 : Int32).toInt = 6 by decide)
      have q7 := lv_neT s7 (show (7 : Int32).toInt = 7 by decide)
      omega) (by decide) ?_
  refine AW.iconst (v := 2) (pc := 117) dX3_worked_117 (by decide) ?_
  exact AW.iret (pc := 118) dX3_worked_118 rfl rfl (by omega) (by omega) (hQ _ _ hw)
set_option maxRecDepth 100000 in
set_option maxHeartbeats 4000000 in
theorem c_R_worked {d k t : Nat} {ex : Hp} {o : Nat → Int64} {K : Int32 → Mem → Prop} {m : Mem} {p0 : Int32} {p1 : Int32} {p2 : Int32} {p3 : Int32} (ht : tok t) (hd : 3 ≤ d) (hw : w_R_worked p0 p1 p2 p3 m K) : AM mX3_worked d [.int p0, .int p1, .int p2, .int p3] (lay t ex o m) k 0 0 (fun oc h' k' => k = k' ∧ ∃ (r : Int32) (m' : Mem), oc = .inl (some (.int r)) ∧ h' = lay t ex o m' ∧ K r m') :=
  AM.intro (μ := mX3_worked) (n := 0) (by decide) rfl rfl rfl (b_R_worked ht hd (by omega) (by omega) (fun _ _ hK => ⟨rfl, _, _, rfl, rfl, hK⟩) p0 p1 p2 p3 hw)
def w_R_isRecent (r : Nat) (p1 : Int32) (p2 : Int32) (m : Mem) (K : Int32 → Mem → Prop) : Prop :=
  ((p1 = (-1 : Int32) → K (0 : Int32) m) ∧ (¬ (p1 = (-1 : Int32)) → ((p1 ≤ ((m r 13) - p2) → K (0 : Int32) m) ∧ (¬ (p1 ≤ ((m r 13) - p2)) → K (1 : Int32) m))))
set_option maxRecDepth 100000 in
set_option maxHeartbeats 4000000 in
theorem b_R_isRecent_23 {Z : Gz} {d k0 mc ms cs ss k t : Nat} {Q : Po} {ex : Hp} {o : Nat → Int64} {K : Int32 → Mem → Prop}  (ht : tok t) (hd : 2 ≤ d) (hcs : cs + 0 ≤ mc) (hss : ss + 0 ≤ ms) (hQ : ∀ (r : Int32) (m : Mem), K r m → Q (.inl (some (.int r))) (lay t ex o m) k) {m : Mem} (p1 : Int32) (p2 : Int32) (hw : w_R_isRecent 23 p1 p2 m K) : AW Z mX3_isRecent d k0 mc ms Q 0 [.ref 23, .int p1, .int p2] [] (lay t ex o m) k cs ss := by
  unfold w_R_isRecent at hw
  refine AW.iload_n (pc := 0) dX3_isRecent_0 rfl rfl ?_
  refine AW.iconst (v := -1) (pc := 1) dX3_isRecent_1 (by decide) ?_
  refine AW.icmp_eq (pc := 2) (tgt := 19) dX3_isRecent_2 (by decide) (fun c1 => ?_) (fun c1 => ?_)
  · have hw := hw.1 c1
    refine AW.iconst (v := 0) (pc := 19) dX3_isRecent_19 (by decide) ?_
    exact AW.iret (pc := 20) dX3_isRecent_20 rfl (by decide) (by omega) (by omega) (hQ _ _ hw)
  · have hw := hw.2 c1
    refine AW.iload_n (pc := 5) dX3_isRecent_5 rfl rfl ?_
    refine AW.aload_n (pc := 6) dX3_isRecent_6 rfl rfl ?_
    refine LW.get (pc := 7) (f := 13) (ci := 3) (T := TX3) ht (by decide) rfl dX3_isRecent_7 tw_574 rfl (by decide) rfl ?_
    refine AW.iload_n (pc := 10) dX3_isRecent_10 rfl rfl ?_
    refine AW.isub (pc := 11) dX3_isRecent_11 ?_
    refine AW.icmp_le (pc := 12) (tgt := 19) dX3_isRecent_12 (by decide) (fun c2 => ?_) (fun c2 => ?_)
    · have hw := hw.1 c2
      refine AW.iconst (v := 0) (pc := 19) dX3_isRecent_19 (by decide) ?_
      exact AW.iret (pc := 20) dX3_isRecent_20 rfl (by decide) (by omega) (by omega) (hQ _ _ hw)
    · have hw := hw.2 c2
      refine AW.iconst (v := 1) (pc := 15) dX3_isRecent_15 (by decide) ?_
      refine AW.goto (pc := 16) (tgt := 20) dX3_isRecent_16 (by decide) ?_
      exact AW.iret (pc := 20) dX3_isRecent_20 rfl (by decide) (by omega) (by omega) (hQ _ _ hw)
set_option maxRecDepth 100000 in
set_option maxHeartbeats 4000000 in
theorem c_R_isRecent_23 {d k t : Nat} {ex : Hp} {o : Nat → Int64} {K : Int32 → Mem → Prop} {m : Mem} {p1 : Int32} {p2 : Int32} (ht : tok t) (hd : 2 ≤ d) (hw : w_R_isRecent 23 p1 p2 m K) : AM mX3_isRecent d [.ref 23, .int p1, .int p2] (lay t ex o m) k 0 0 (fun oc h' k' => k = k' ∧ ∃ (r : Int32) (m' : Mem), oc = .inl (some (.int r)) ∧ h' = lay t ex o m' ∧ K r m') :=
  AM.intro (μ := mX3_isRecent) (n := 0) (by decide) rfl rfl rfl (b_R_isRecent_23 ht hd (by omega) (by omega) (fun _ _ hK => ⟨rfl, _, _, rfl, rfl, hK⟩) p1 p2 hw)
set_option maxRecDepth 100000 in
set_option maxHeartbeats 4000000 in
theorem b_R_isRecent_35 {Z : Gz} {d k0 mc ms cs ss k t : Nat} {Q : Po} {ex : Hp} {o : Nat → Int64} {K : Int32 → Mem → Prop}  (ht : tok t) (hd : 2 ≤ d) (hcs : cs + 0 ≤ mc) (hss : ss + 0 ≤ ms) (hQ : ∀ (r : Int32) (m : Mem), K r m → Q (.inl (some (.int r))) (lay t ex o m) k) {m : Mem} (p1 : Int32) (p2 : Int32) (hw : w_R_isRecent 35 p1 p2 m K) : AW Z mX3_isRecent d k0 mc ms Q 0 [.ref 35, .int p1, .int p2] [] (lay t ex o m) k cs ss := by
  unfold w_R_isRecent at hw
  refine AW.iload_n (pc := 0) dX3_isRecent_0 rfl rfl ?_
  refine AW.iconst (v := -1) (pc := 1) dX3_isRecent_1 (by decide) ?_
  refine AW.icmp_eq (pc := 2) (tgt := 19) dX3_isRecent_2 (by decide) (fun c1 => ?_) (fun c1 => ?_)
  · have hw := hw.1 c1
    refine AW.iconst (v := 0) (pc := 19) dX3_isRecent_19 (by decide) ?_
    exact AW.iret (pc := 20) dX3_isRecent_20 rfl (by decide) (by omega) (by omega) (hQ _ _ hw)
  · have hw := hw.2 c1
    refine AW.iload_n (pc := 5) dX3_isRecent_5 rfl rfl ?_
    refine AW.aload_n (pc := 6) dX3_isRecent_6 rfl rfl ?_
    refine LW.get (pc := 7) (f := 13) (ci := 3) (T := TX3) ht (by decide) rfl dX3_isRecent_7 tw_574 rfl (by decide) rfl ?_
    refine AW.iload_n (pc := 10) dX3_isRecent_10 rfl rfl ?_
    refine AW.isub (pc := 11) dX3_isRecent_11 ?_
    refine AW.icmp_le (pc := 12) (tgt := 19) dX3_isRecent_12 (by decide) (fun c2 => ?_) (fun c2 => ?_)
    · have hw := hw.1 c2
      refine AW.iconst (v := 0) (pc := 19) dX3_isRecent_19 (by decide) ?_
      exact AW.iret (pc := 20) dX3_isRecent_20 rfl (by decide) (by omega) (by omega) (hQ _ _ hw)
    · have hw := hw.2 c2
      refine AW.iconst (v := 1) (pc := 15) dX3_isRecent_15 (by decide) ?_
      refine AW.goto (pc := 16) (tgt := 20) dX3_isRecent_16 (by decide) ?_
      exact AW.iret (pc := 20) dX3_isRecent_20 rfl (by decide) (by omega) (by omega) (hQ _ _ hw)
set_option maxRecDepth 100000 in
set_option maxHeartbeats 4000000 in
theorem c_R_isRecent_35 {d k t : Nat} {ex : Hp} {o : Nat → Int64} {K : Int32 → Mem → Prop} {m : Mem} {p1 : Int32} {p2 : Int32} (ht : tok t) (hd : 2 ≤ d) (hw : w_R_isRecent 35 p1 p2 m K) : AM mX3_isRecent d [.ref 35, .int p1, .int p2] (lay t ex o m) k 0 0 (fun oc h' k' => k = k' ∧ ∃ (r : Int32) (m' : Mem), oc = .inl (some (.int r)) ∧ h' = lay t ex o m' ∧ K r m') :=
  AM.intro (μ := mX3_isRecent) (n := 0) (by decide) rfl rfl rfl (b_R_isRecent_35 ht hd (by omega) (by omega) (fun _ _ hK => ⟨rfl, _, _, rfl, rfl, hK⟩) p1 p2 hw)
def w_R_noteHazard (r : Nat) (p1 : Int32) (p2 : Int32) (m : Mem) (K : Mem → Prop) : Prop :=
  (((40 : Int32) ≤ (m r 12) → K m) ∧ (¬ ((40 : Int32) ≤ (m r 12)) → vp_in (m r 12) 40 ∧ ∀ m2 : Mem, m2 = up2 m (r + 9) ((m r 12).toNatClampNeg) p1 → vp_in (m2 r 12) 40 ∧ ∀ m3 : Mem, m3 = up2 m2 (r + 10) ((m2 r 12).toNatClampNeg) p2 → vp_in (m3 r 12) 40 ∧ ∀ m4 : Mem, m4 = up2 m3 (r + 11) ((m3 r 12).toNatClampNeg) (m3 r 13) → ∀ m5 : Mem, m5 = up2 m4 r 12 ((m4 r 12) + (1 : Int32)) → K m5))
set_option maxRecDepth 100000 in
set_option maxHeartbeats 4000000 in
theorem b_R_noteHazard_23 {Z : Gz} {d k0 mc ms cs ss k t : Nat} {Q : Po} {ex : Hp} {o : Nat → Int64} {K : Mem → Prop}  (ht : tok t) (hd : 2 ≤ d) (hcs : cs + 0 ≤ mc) (hss : ss + 0 ≤ ms) (hQ : ∀ (m : Mem), K m → Q (.inl none) (lay t ex o m) k) {m : Mem} (p1 : Int32) (p2 : Int32) (hw : w_R_noteHazard 23 p1 p2 m K) : AW Z mX3_noteHazard d k0 mc ms Q 0 [.ref 23, .int p1, .int p2] [] (lay t ex o m) k cs ss := by
  unfold w_R_noteHazard at hw
  refine AW.aload_n (pc := 0) dX3_noteHazard_0 rfl rfl ?_
  refine LW.get (pc := 1) (f := 12) (ci := 3) (T := TX3) ht (by decide) rfl dX3_noteHazard_1 tw_572 rfl (by decide) rfl ?_
  refine AW.bipush (v := 40) (pc := 4) dX3_noteHazard_4 (by decide) ?_
  refine AW.icmp_ge (pc := 6) (tgt := 52) dX3_noteHazard_6 (by decide) (fun c1 => ?_) (fun c1 => ?_)
  · have hw := hw.1 c1
    exact AW.vret (pc := 52) dX3_noteHazard_52 rfl (by omega) (by omega) (hQ _ hw)
  · have hw := hw.2 c1
    refine AW.aload_n (pc := 9) dX3_noteHazard_9 rfl rfl ?_
    refine LW.get (pc := 10) (f := 9) (ci := 3) (T := TX3) ht (by decide) rfl dX3_noteHazard_10 tw_566 rfl (by decide) rfl ?_
    refine AW.aload_n (pc := 13) dX3_noteHazard_13 rfl rfl ?_
    refine LW.get (pc := 14) (f := 12) (ci := 3) (T := TX3) ht (by decide) rfl dX3_noteHazard_14 tw_572 rfl (by decide) rfl ?_
    refine AW.iload_n (pc := 17) dX3_noteHazard_17 rfl rfl ?_
    obtain ⟨hin, hw⟩ := hw
    have hw := hw _ rfl
    refine LW.iast (pc := 18) (j := (m 23 12).toNatClampNeg) ht (by decide) (fun _ => rfl) dX3_noteHazard_18 hin rfl ?_
    generalize up2 m 32 ((m 23 12).toNatClampNeg) p1 = m2 at hw ⊢
    refine AW.aload_n (pc := 19) dX3_noteHazard_19 rfl rfl ?_
    refine LW.get (pc := 20) (f := 10) (ci := 3) (T := TX3) ht (by decide) rfl dX3_noteHazard_20 tw_568 rfl (by decide) rfl ?_
    refine AW.aload_n (pc := 23) dX3_noteHazard_23 rfl rfl ?_
    refine LW.get (pc := 24) (f := 12) (ci := 3) (T := TX3) ht (by decide) rfl dX3_noteHazard_24 tw_572 rfl (by decide) rfl ?_
    refine AW.iload_n (pc := 27) dX3_noteHazard_27 rfl rfl ?_
    obtain ⟨hin, hw⟩ := hw
    have hw := hw _ rfl
    refine LW.iast (pc := 28) (j := (m2 23 12).toNatClampNeg) ht (by decide) (fun _ => rfl) dX3_noteHazard_28 hin rfl ?_
    generalize up2 m2 33 ((m2 23 12).toNatClampNeg) p2 = m3 at hw ⊢
    refine AW.aload_n (pc := 29) dX3_noteHazard_29 rfl rfl ?_
    refine LW.get (pc := 30) (f := 11) (ci := 3) (T := TX3) ht (by decide) rfl dX3_noteHazard_30 tw_570 rfl (by decide) rfl ?_
    refine AW.aload_n (pc := 33) dX3_noteHazard_33 rfl rfl ?_
    refine LW.get (pc := 34) (f := 12) (ci := 3) (T := TX3) ht (by decide) rfl dX3_noteHazard_34 tw_572 rfl (by decide) rfl ?_
    refine AW.aload_n (pc := 37) dX3_noteHazard_37 rfl rfl ?_
    refine LW.get (pc := 38) (f := 13) (ci := 3) (T := TX3) ht (by decide) rfl dX3_noteHazard_38 tw_574 rfl (by decide) rfl ?_
    obtain ⟨hin, hw⟩ := hw
    have hw := hw _ rfl
    refine LW.iast (pc := 41) (j := (m3 23 12).toNatClampNeg) ht (by decide) (fun _ => rfl) dX3_noteHazard_41 hin rfl ?_
    generalize up2 m3 34 ((m3 23 12).toNatClampNeg) (m3 23 13) = m4 at hw ⊢
    refine AW.aload_n (pc := 42) dX3_noteHazard_42 rfl rfl ?_
    refine AW.dup (pc := 43) dX3_noteHazard_43 rfl ?_
    refine LW.get (pc := 44) (f := 12) (ci := 3) (T := TX3) ht (by decide) rfl dX3_noteHazard_44 tw_572 rfl (by decide) rfl ?_
    refine AW.iconst (v := 1) (pc := 47) dX3_noteHazard_47 (by decide) ?_
    refine AW.iadd (pc := 48) dX3_noteHazard_48 ?_
    have hw := hw _ rfl
    refine LW.put (pc := 49) (f := 12) (ci := 3) (T := TX3) ht (by decide) rfl sp_23_12 dX3_noteHazard_49 tw_572 rfl (by decide) (Nat.le_of_ble_eq_true rfl) rfl ⟨rfl, rfl⟩ ?_
    generalize up2 m4 23 12 ((m4 23 12) + (1 : Int32)) = m5 at hw ⊢
    exact AW.vret (pc := 52) dX3_noteHazard_52 rfl (by omega) (by omega) (hQ _ hw)
set_option maxRecDepth 100000 in
set_option maxHeartbeats 4000000 in
theorem c_R_noteHazard_23 {d k t : Nat} {ex : Hp} {o : Nat → Int64} {K : Mem → Prop} {m : Mem} {p1 : Int32} {p2 : Int32} (ht : tok t) (hd : 2 ≤ d) (hw : w_R_noteHazard 23 p1 p2 m K) : AM mX3_noteHazard d [.ref 23, .int p1, .int p2] (lay t ex o m) k 0 0 (fun oc h' k' => k = k' ∧ ∃ (m' : Mem), oc = .inl none ∧ h' = lay t ex o m' ∧ K m') :=
  AM.intro (μ := mX3_noteHazard) (n := 0) (by decide) rfl rfl rfl (b_R_noteHazard_23 ht hd (by omega) (by omega) (fun _ hK => ⟨rfl, _, rfl, rfl, hK⟩) p1 p2 hw)
set_option maxRecDepth 100000 in
set_option maxHeartbeats 4000000 in
theorem b_R_noteHazard_35 {Z : Gz} {d k0 mc ms cs ss k t : Nat} {Q : Po} {ex : Hp} {o : Nat → Int64} {K : Mem → Prop}  (ht : tok t) (hd : 2 ≤ d) (hcs : cs + 0 ≤ mc) (hss : ss + 0 ≤ ms) (hQ : ∀ (m : Mem), K m → Q (.inl none) (lay t ex o m) k) {m : Mem} (p1 : Int32) (p2 : Int32) (hw : w_R_noteHazard 35 p1 p2 m K) : AW Z mX3_noteHazard d k0 mc ms Q 0 [.ref 35, .int p1, .int p2] [] (lay t ex o m) k cs ss := by
  unfold w_R_noteHazard at hw
  refine AW.aload_n (pc := 0) dX3_noteHazard_0 rfl rfl ?_
  refine LW.get (pc := 1) (f := 12) (ci := 3) (T := TX3) ht (by decide) rfl dX3_noteHazard_1 tw_572 rfl (by decide) rfl ?_
  refine AW.bipush (v := 40) (pc := 4) dX3_noteHazard_4 (by decide) ?_
  refine AW.icmp_ge (pc := 6) (tgt := 52) dX3_noteHazard_6 (by decide) (fun c1 => ?_) (fun c1 => ?_)
  · have hw := hw.1 c1
    exact AW.vret (pc := 52) dX3_noteHazard_52 rfl (by omega) (by omega) (hQ _ hw)
  · have hw := hw.2 c1
    refine AW.aload_n (pc := 9) dX3_noteHazard_9 rfl rfl ?_
    refine LW.get (pc := 10) (f := 9) (ci := 3) (T := TX3) ht (by decide) rfl dX3_noteHazard_10 tw_566 rfl (by decide) rfl ?_
    refine AW.aload_n (pc := 13) dX3_noteHazard_13 rfl rfl ?_
    refine LW.get (pc := 14) (f := 12) (ci := 3) (T := TX3) ht (by decide) rfl dX3_noteHazard_14 tw_572 rfl (by decide) rfl ?_
    refine AW.iload_n (pc := 17) dX3_noteHazard_17 rfl rfl ?_
    obtain ⟨hin, hw⟩ := hw
    have hw := hw _ rfl
    refine LW.iast (pc := 18) (j := (m 35 12).toNatClampNeg) ht (by decide) (fun _ => rfl) dX3_noteHazard_18 hin rfl ?_
    generalize up2 m 44 ((m 35 12).toNatClampNeg) p1 = m2 at hw ⊢
    refine AW.aload_n (pc := 19) dX3_noteHazard_19 rfl rfl ?_
    refine LW.get (pc := 20) (f := 10) (ci := 3) (T := TX3) ht (by decide) rfl dX3_noteHazard_20 tw_568 rfl (by decide) rfl ?_
    refine AW.aload_n (pc := 23) dX3_noteHazard_23 rfl rfl ?_
    refine LW.get (pc := 24) (f := 12) (ci := 3) (T := TX3) ht (by decide) rfl dX3_noteHazard_24 tw_572 rfl (by decide) rfl ?_
    refine AW.iload_n (pc := 27) dX3_noteHazard_27 rfl rfl ?_
    obtain ⟨hin, hw⟩ := hw
    have hw := hw _ rfl
    refine LW.iast (pc := 28) (j := (m2 35 12).toNatClampNeg) ht (by decide) (fun _ => rfl) dX3_noteHazard_28 hin rfl ?_
    generalize up2 m2 45 ((m2 35 12).toNatClampNeg) p2 = m3 at hw ⊢
    refine AW.aload_n (pc := 29) dX3_noteHazard_29 rfl rfl ?_
    refine LW.get (pc := 30) (f := 11) (ci := 3) (T := TX3) ht (by decide) rfl dX3_noteHazard_30 tw_570 rfl (by decide) rfl ?_
    refine AW.aload_n (pc := 33) dX3_noteHazard_33 rfl rfl ?_
    refine LW.get (pc := 34) (f := 12) (ci := 3) (T := TX3) ht (by decide) rfl dX3_noteHazard_34 tw_572 rfl (by decide) rfl ?_
    refine AW.aload_n (pc := 37) dX3_noteHazard_37 rfl rfl ?_
    refine LW.get (pc := 38) (f := 13) (ci := 3) (T := TX3) ht (by decide) rfl dX3_noteHazard_38 tw_574 rfl (by decide) rfl ?_
    obtain ⟨hin, hw⟩ := hw
    have hw := hw _ rfl
    refine LW.iast (pc := 41) (j := (m3 35 12).toNatClampNeg) ht (by decide) (fun _ => rfl) dX3_noteHazard_41 hin rfl ?_
    generalize up2 m3 46 ((m3 35 12).toNatClampNeg) (m3 35 13) = m4 at hw ⊢
    refine AW.aload_n (pc := 42) dX3_noteHazard_42 rfl rfl ?_
    refine AW.dup (pc := 43) dX3_noteHazard_43 rfl ?_
    refine LW.get (pc := 44) (f := 12) (ci := 3) (T := TX3) ht (by decide) rfl dX3_noteHazard_44 tw_572 rfl (by decide) rfl ?_
    refine AW.iconst (v := 1) (pc := 47) dX3_noteHazard_47 (by decide) ?_
    refine AW.iadd (pc := 48) dX3_noteHazard_48 ?_
    have hw := hw _ rfl
    refine LW.put (pc := 49) (f := 12) (ci := 3) (T := TX3) ht (by decide) rfl sp_35_12 dX3_noteHazard_49 tw_572 rfl (by decide) (Nat.le_of_ble_eq_true rfl) rfl ⟨rfl, rfl⟩ ?_
    generalize up2 m4 35 12 ((m4 35 12) + (1 : Int32)) = m5 at hw ⊢
    exact AW.vret (pc := 52) dX3_noteHazard_52 rfl (by omega) (by omega) (hQ _ hw)
set_option maxRecDepth 100000 in
set_option maxHeartbeats 4000000 in
theorem c_R_noteHazard_35 {d k t : Nat} {ex : Hp} {o : Nat → Int64} {K : Mem → Prop} {m : Mem} {p1 : Int32} {p2 : Int32} (ht : tok t) (hd : 2 ≤ d) (hw : w_R_noteHazard 35 p1 p2 m K) : AM mX3_noteHazard d [.ref 35, .int p1, .int p2] (lay t ex o m) k 0 0 (fun oc h' k' => k = k' ∧ ∃ (m' : Mem), oc = .inl none ∧ h' = lay t ex o m' ∧ K m') :=
  AM.intro (μ := mX3_noteHazard) (n := 0) (by decide) rfl rfl rfl (b_R_noteHazard_35 ht hd (by omega) (by omega) (fun _ hK => ⟨rfl, _, rfl, rfl, hK⟩) p1 p2 hw)
def w_R_beginCounting (r : Nat) (m : Mem) (K : Mem → Prop) : Prop :=
  ∀ m1 : Mem, m1 = va_up m (r + 3) (jfill (m (r + 3)) 24 (0 : Int32)) → ∀ m2 : Mem, m2 = va_up m1 (r + 4) (va_cpy (m1 (r + 1)) (m1 (r + 4)) 0 0 24) → K m2
set_option maxRecDepth 100000 in
set_option maxHeartbeats 4000000 in
theorem b_R_beginCounting_23 {Z : Gz} {d k0 mc ms cs ss k t : Nat} {Q : Po} {ex : Hp} {o : Nat → Int64} {K : Mem → Prop}  (ht : tok t) (hd : 3 ≤ d) (hcs : cs + 0 ≤ mc) (hss : ss + 0 ≤ ms) (hQ : ∀ (m : Mem), K m → Q (.inl none) (lay t ex o m) k) {m : Mem}  (hw : w_R_beginCounting 23  m K) : AW Z mX3_beginCounting d k0 mc ms Q 0 [.ref 23] [] (lay t ex o m) k cs ss := by
  unfold w_R_beginCounting at hw
  refine AW.aload_n (pc := 0) dX3_beginCounting_0 rfl rfl ?_
  refine LW.get (pc := 1) (f := 3) (ci := 3) (T := TX3) ht (by decide) rfl dX3_beginCounting_1 tw_557 rfl (by decide) rfl ?_
  refine AW.iconst (v := 0) (pc := 4) dX3_beginCounting_4 (by decide) ?_
  have hw := hw _ rfl
  refine AW.callS (pc := 5) (S' := []) dX3_beginCounting_5 (c_J_fill (i := 26) (n := 24) (d := d - 1) ht (by omega) (by decide) (by decide) (fun _ => rfl)) ok_J7_fill_53178 tw_196 tw_195 rfl (by omega) rfl (Nat.le_of_ble_eq_true rfl) (by omega) (by omega) ?_ (fun E h' k' hq => by obtain ⟨hv, -⟩ := hq; cases hv)
  intro v h' k' hq
  obtain ⟨hv, rfl, rfl⟩ := hq
  cases hv
  show AW _ _ _ _ _ _ _ 8 [.ref 23] [] (lay t ex o (va_up m 26 (jfill (m 26) 24 (0 : Int32)))) k _ _
  generalize va_up m 26 (jfill (m 26) 24 (0 : Int32)) = m1 at hw ⊢
  refine AW.aload_n (pc := 8) dX3_beginCounting_8 rfl rfl ?_
  refine LW.get (pc := 9) (f := 1) (ci := 3) (T := TX3) ht (by decide) rfl dX3_beginCounting_9 tw_553 rfl (by decide) rfl ?_
  refine AW.iconst (v := 0) (pc := 12) dX3_beginCounting_12 (by decide) ?_
  refine AW.aload_n (pc := 13) dX3_beginCounting_13 rfl rfl ?_
  refine LW.get (pc := 14) (f := 4) (ci := 3) (T := TX3) ht (by decide) rfl dX3_beginCounting_14 tw_559 rfl (by decide) rfl ?_
  refine AW.iconst (v := 0) (pc := 17) dX3_beginCounting_17 (by decide) ?_
  refine AW.bipush (v := 24) (pc := 18) dX3_beginCounting_18 (by decide) ?_
  have hw := hw _ rfl
  refine LW.copyi (pc := 20) ht (by decide) (by decide) rfl (fun _ => rfl) dX3_beginCounting_20 tw_198 tw_200 tw_199 tw_8 (by decide) (by decide) (by decide) (by decide) (by decide) (Nat.le_of_ble_eq_true rfl) ?_
  show AW _ _ _ _ _ _ _ 23 [.ref 23] [] (lay t ex o (va_up m1 27 (va_cpy (m1 24) (m1 27) 0 0 24))) k _ _
  generalize va_up m1 27 (va_cpy (m1 24) (m1 27) 0 0 24) = m2 at hw ⊢
  exact AW.vret (pc := 23) dX3_beginCounting_23 rfl (by omega) (by omega) (hQ _ hw)
set_option maxRecDepth 100000 in
set_option maxHeartbeats 4000000 in
theorem c_R_beginCounting_23 {d k t : Nat} {ex : Hp} {o : Nat → Int64} {K : Mem → Prop} {m : Mem}  (ht : tok t) (hd : 3 ≤ d) (hw : w_R_beginCounting 23  m K) : AM mX3_beginCounting d [.ref 23] (lay t ex o m) k 0 0 (fun oc h' k' => k = k' ∧ ∃ (m' : Mem), oc = .inl none ∧ h' = lay t ex o m' ∧ K m') :=
  AM.intro (μ := mX3_beginCounting) (n := 0) (by decide) rfl rfl rfl (b_R_beginCounting_23 ht hd (by omega) (by omega) (fun _ hK => ⟨rfl, _, rfl, rfl, hK⟩)  hw)
set_option maxRecDepth 100000 in
set_option maxHeartbeats 4000000 in
theorem b_R_beginCounting_35 {Z : Gz} {d k0 mc ms cs ss k t : Nat} {Q : Po} {ex : Hp} {o : Nat → Int64} {K : Mem → Prop}  (ht : tok t) (hd : 3 ≤ d) (hcs : cs + 0 ≤ mc) (hss : ss + 0 ≤ ms) (hQ : ∀ (m : Mem), K m → Q (.inl none) (lay t ex o m) k) {m : Mem}  (hw : w_R_beginCounting 35  m K) : AW Z mX3_beginCounting d k0 mc ms Q 0 [.ref 35] [] (lay t ex o m) k cs ss := by
  unfold w_R_beginCounting at hw
  refine AW.aload_n (pc := 0) dX3_beginCounting_0 rfl rfl ?_
  refine LW.get (pc := 1) (f := 3) (ci := 3) (T := TX3) ht (by decide) rfl dX3_beginCounting_1 tw_557 rfl (by decide) rfl ?_
  refine AW.iconst (v := 0) (pc := 4) dX3_beginCounting_4 (by decide) ?_
  have hw := hw _ rfl
  refine AW.callS (pc := 5) (S' := []) dX3_beginCounting_5 (c_J_fill (i := 38) (n := 24) (d := d - 1) ht (by omega) (by decide) (by decide) (fun _ => rfl)) ok_J7_fill_53178 tw_196 tw_195 rfl (by omega) rfl (Nat.le_of_ble_eq_true rfl) (by omega) (by omega) ?_ (fun E h' k' hq => by obtain ⟨hv, -⟩ := hq; cases hv)
  intro v h' k' hq
  obtain ⟨hv, rfl, rfl⟩ := hq
  cases hv
  show AW _ _ _ _ _ _ _ 8 [.ref 35] [] (lay t ex o (va_up m 38 (jfill (m 38) 24 (0 : Int32)))) k _ _
  generalize va_up m 38 (jfill (m 38) 24 (0 : Int32)) = m1 at hw ⊢
  refine AW.aload_n (pc := 8) dX3_beginCounting_8 rfl rfl ?_
  refine LW.get (pc := 9) (f := 1) (ci := 3) (T := TX3) ht (by decide) rfl dX3_beginCounting_9 tw_553 rfl (by decide) rfl ?_
  refine AW.iconst (v := 0) (pc := 12) dX3_beginCounting_12 (by decide) ?_
  refine AW.aload_n (pc := 13) dX3_beginCounting_13 rfl rfl ?_
  refine LW.get (pc := 14) (f := 4) (ci := 3) (T := TX3) ht (by decide) rfl dX3_beginCounting_14 tw_559 rfl (by decide) rfl ?_
  refine AW.iconst (v := 0) (pc := 17) dX3_beginCounting_17 (by decide) ?_
  refine AW.bipush (v := 24) (pc := 18) dX3_beginCounting_18 (by decide) ?_
  have hw := hw _ rfl
  refine LW.copyi (pc := 20) ht (by decide) (by decide) rfl (fun _ => rfl) dX3_beginCounting_20 tw_198 tw_200 tw_199 tw_8 (by decide) (by decide) (by decide) (by decide) (by decide) (Nat.le_of_ble_eq_true rfl) ?_
  show AW _ _ _ _ _ _ _ 23 [.ref 35] [] (lay t ex o (va_up m1 39 (va_cpy (m1 36) (m1 39) 0 0 24))) k _ _
  generalize va_up m1 39 (va_cpy (m1 36) (m1 39) 0 0 24) = m2 at hw ⊢
  exact AW.vret (pc := 23) dX3_beginCounting_23 rfl (by omega) (by omega) (hQ _ hw)
set_option maxRecDepth 100000 in
set_option maxHeartbeats 4000000 in
theorem c_R_beginCounting_35 {d k t : Nat} {ex : Hp} {o : Nat → Int64} {K : Mem → Prop} {m : Mem}  (ht : tok t) (hd : 3 ≤ d) (hw : w_R_beginCounting 35  m K) : AM mX3_beginCounting d [.ref 35] (lay t ex o m) k 0 0 (fun oc h' k' => k = k' ∧ ∃ (m' : Mem), oc = .inl none ∧ h' = lay t ex o m' ∧ K m') :=
  AM.intro (μ := mX3_beginCounting) (n := 0) (by decide) rfl rfl rfl (b_R_beginCounting_35 ht hd (by omega) (by omega) (fun _ hK => ⟨rfl, _, rfl, rfl, hK⟩)  hw)
def w_R_giveUpAll (r : Nat) (m : Mem) (K : Mem → Prop) : Prop :=
  ∀ m1 : Mem, m1 = va_up m (r + 5) (jfill (m (r + 5)) 30 (-1 : Int32)) → K m1
set_option maxRecDepth 100000 in
set_option maxHeartbeats 4000000 in
theorem b_R_giveUpAll_23 {Z : Gz} {d k0 mc ms cs ss k t : Nat} {Q : Po} {ex : Hp} {o : Nat → Int64} {K : Mem → Prop}  (ht : tok t) (hd : 3 ≤ d) (hcs : cs + 0 ≤ mc) (hss : ss + 0 ≤ ms) (hQ : ∀ (m : Mem), K m → Q (.inl none) (lay t ex o m) k) {m : Mem}  (hw : w_R_giveUpAll 23  m K) : AW Z mX3_giveUpAll d k0 mc ms Q 0 [.ref 23] [] (lay t ex o m) k cs ss := by
  unfold w_R_giveUpAll at hw
  refine AW.aload_n (pc := 0) dX3_giveUpAll_0 rfl rfl ?_
  refine LW.get (pc := 1) (f := 5) (ci := 3) (T := TX3) ht (by decide) rfl dX3_giveUpAll_1 tw_561 rfl (by decide) rfl ?_
  refine AW.iconst (v := -1) (pc := 4) dX3_giveUpAll_4 (by decide) ?_
  have hw := hw _ rfl
  refine AW.callS (pc := 5) (S' := []) dX3_giveUpAll_5 (c_J_fill (i := 28) (n := 30) (d := d - 1) ht (by omega) (by decide) (by decide) (fun _ => rfl)) ok_J7_fill_53178 tw_196 tw_195 rfl (by omega) rfl (Nat.le_of_ble_eq_true rfl) (by omega) (by omega) ?_ (fun E h' k' hq => by obtain ⟨hv, -⟩ := hq; cases hv)
  intro v h' k' hq
  obtain ⟨hv, rfl, rfl⟩ := hq
  cases hv
  show AW _ _ _ _ _ _ _ 8 [.ref 23] [] (lay t ex o (va_up m 28 (jfill (m 28) 30 (-1 : Int32)))) k _ _
  generalize va_up m 28 (jfill (m 28) 30 (-1 : Int32)) = m1 at hw ⊢
  exact AW.vret (pc := 8) dX3_giveUpAll_8 rfl (by omega) (by omega) (hQ _ hw)
set_option maxRecDepth 100000 in
set_option maxHeartbeats 4000000 in
theorem c_R_giveUpAll_23 {d k t : Nat} {ex : Hp} {o : Nat → Int64} {K : Mem → Prop} {m : Mem}  (ht : tok t) (hd : 3 ≤ d) (hw : w_R_giveUpAll 23  m K) : AM mX3_giveUpAll d [.ref 23] (lay t ex o m) k 0 0 (fun oc h' k' => k = k' ∧ ∃ (m' : Mem), oc = .inl none ∧ h' = lay t ex o m' ∧ K m') :=
  AM.intro (μ := mX3_giveUpAll) (n := 0) (by decide) rfl rfl rfl (b_R_giveUpAll_23 ht hd (by omega) (by omega) (fun _ hK => ⟨rfl, _, rfl, rfl, hK⟩)  hw)
set_option maxRecDepth 100000 in
set_option maxHeartbeats 4000000 in
theorem b_R_giveUpAll_35 {Z : Gz} {d k0 mc ms cs ss k t : Nat} {Q : Po} {ex : Hp} {o : Nat → Int64} {K : Mem → Prop}  (ht : tok t) (hd : 3 ≤ d) (hcs : cs + 0 ≤ mc) (hss : ss + 0 ≤ ms) (hQ : ∀ (m : Mem), K m → Q (.inl none) (lay t ex o m) k) {m : Mem}  (hw : w_R_giveUpAll 35  m K) : AW Z mX3_giveUpAll d k0 mc ms Q 0 [.ref 35] [] (lay t ex o m) k cs ss := by
  unfold w_R_giveUpAll at hw
  refine AW.aload_n (pc := 0) dX3_giveUpAll_0 rfl rfl ?_
  refine LW.get (pc := 1) (f := 5) (ci := 3) (T := TX3) ht (by decide) rfl dX3_giveUpAll_1 tw_561 rfl (by decide) rfl ?_
  refine AW.iconst (v := -1) (pc := 4) dX3_giveUpAll_4 (by decide) ?_
  have hw := hw _ rfl
  refine AW.callS (pc := 5) (S' := []) dX3_giveUpAll_5 (c_J_fill (i := 40) (n := 30) (d := d - 1) ht (by omega) (by decide) (by decide) (fun _ => rfl)) ok_J7_fill_53178 tw_196 tw_195 rfl (by omega) rfl (Nat.le_of_ble_eq_true rfl) (by omega) (by omega) ?_ (fun E h' k' hq => by obtain ⟨hv, -⟩ := hq; cases hv)
  intro v h' k' hq
  obtain ⟨hv, rfl, rfl⟩ := hq
  cases hv
  show AW _ _ _ _ _ _ _ 8 [.ref 35] [] (lay t ex o (va_up m 40 (jfill (m 40) 30 (-1 : Int32)))) k _ _
  generalize va_up m 40 (jfill (m 40) 30 (-1 : Int32)) = m1 at hw ⊢
  exact AW.vret (pc := 8) dX3_giveUpAll_8 rfl (by omega) (by omega) (hQ _ hw)
set_option maxRecDepth 100000 in
set_option maxHeartbeats 4000000 in
theorem c_R_giveUpAll_35 {d k t : Nat} {ex : Hp} {o : Nat → Int64} {K : Mem → Prop} {m : Mem}  (ht : tok t) (hd : 3 ≤ d) (hw : w_R_giveUpAll 35  m K) : AM mX3_giveUpAll d [.ref 35] (lay t ex o m) k 0 0 (fun oc h' k' => k = k' ∧ ∃ (m' : Mem), oc = .inl none ∧ h' = lay t ex o m' ∧ K m') :=
  AM.intro (μ := mX3_giveUpAll) (n := 0) (by decide) rfl rfl rfl (b_R_giveUpAll_35 ht hd (by omega) (by omega) (fun _ hK => ⟨rfl, _, rfl, rfl, hK⟩)  hw)
def w_R_clear (r : Nat) (m : Mem) (K : Mem → Prop) : Prop :=
  ∀ m1 : Mem, m1 = va_up m (r + 1) (jfill (m (r + 1)) 24 (2 : Int32)) → ∀ m2 : Mem, m2 = va_up m1 (r + 2) (jfill (m1 (r + 2)) 24 (-1 : Int32)) → ∀ m3 : Mem, m3 = va_up m2 (r + 8) (jfill (m2 (r + 8)) 30 (-1 : Int32)) → w_R_giveUpAll r  m3 (fun m4 => w_R_beginCounting r  m4 (fun m5 => ∀ m6 : Mem, m6 = up2 m5 r 12 (0 : Int32) → ∀ m7 : Mem, m7 = up2 m6 r 13 (0 : Int32) → ∀ m8 : Mem, m8 = up2 m7 r 14 (0 : Int32) → ∀ m9 : Mem, m9 = up2 m8 r 15 (0 : Int32) → ∀ m10 : Mem, m10 = up2 m9 r 16 (0 : Int32) → ∀ m11 : Mem, m11 = up2 m10 r 17 (0 : Int32) → K m11))
set_option maxRecDepth 100000 in
set_option maxHeartbeats 4000000 in
theorem b_R_clear_23 {Z : Gz} {d k0 mc ms cs ss k t : Nat} {Q : Po} {ex : Hp} {o : Nat → Int64} {K : Mem → Prop}  (ht : tok t) (hd : 4 ≤ d) (hcs : cs + 0 ≤ mc) (hss : ss + 0 ≤ ms) (hQ : ∀ (m : Mem), K m → Q (.inl none) (lay t ex o m) k) {m : Mem}  (hw : w_R_clear 23  m K) : AW Z mX3_clear d k0 mc ms Q 0 [.ref 23] [] (lay t ex o m) k cs ss := by
  unfold w_R_clear at hw
  refine AW.aload_n (pc := 0) dX3_clear_0 rfl rfl ?_
  refine LW.get (pc := 1) (f := 1) (ci := 3) (T := TX3) ht (by decide) rfl dX3_clear_1 tw_553 rfl (by decide) rfl ?_
  refine AW.iconst (v := 2) (pc := 4) dX3_clear_4 (by decide) ?_
  have hw := hw _ rfl
  refine AW.callS (pc := 5) (S' := []) dX3_clear_5 (c_J_fill (i := 24) (n := 24) (d := d - 1) ht (by omega) (by decide) (by decide) (fun _ => rfl)) ok_J7_fill_53178 tw_196 tw_195 rfl (by omega) rfl (Nat.le_of_ble_eq_true rfl) (by omega) (by omega) ?_ (fun E h' k' hq => by obtain ⟨hv, -⟩ := hq; cases hv)
  intro v h' k' hq
  obtain ⟨hv, rfl, rfl⟩ := hq
  cases hv
  show AW _ _ _ _ _ _ _ 8 [.ref 23] [] (lay t ex o (va_up m 24 (jfill (m 24) 24 (2 : Int32)))) k _ _
  generalize va_up m 24 (jfill (m 24) 24 (2 : Int32)) = m1 at hw ⊢
  refine AW.aload_n (pc := 8) dX3_clear_8 rfl rfl ?_
  refine LW.get (pc := 9) (f := 2) (ci := 3) (T := TX3) ht (by decide) rfl dX3_clear_9 tw_555 rfl (by decide) rfl ?_
  refine AW.iconst (v := -1) (pc := 12) dX3_clear_12 (by decide) ?_
  have hw := hw _ rfl
  refine AW.callS (pc := 13) (S' := []) dX3_clear_13 (c_J_fill (i := 25) (n := 24) (d := d - 1) ht (by omega) (by decide) (by decide) (fun _ => rfl)) ok_J7_fill_53178 tw_196 tw_195 rfl (by omega) rfl (Nat.le_of_ble_eq_true rfl) (by omega) (by omega) ?_ (fun E h' k' hq => by obtain ⟨hv, -⟩ := hq; cases hv)
  intro v h' k' hq
  obtain ⟨hv, rfl, rfl⟩ := hq
  cases hv
  show AW _ _ _ _ _ _ _ 16 [.ref 23] [] (lay t ex o (va_up m1 25 (jfill (m1 25) 24 (-1 : Int32)))) k _ _
  generalize va_up m1 25 (jfill (m1 25) 24 (-1 : Int32)) = m2 at hw ⊢
  refine AW.aload_n (pc := 16) dX3_clear_16 rfl rfl ?_
  refine LW.get (pc := 17) (f := 8) (ci := 3) (T := TX3) ht (by decide) rfl dX3_clear_17 tw_565 rfl (by decide) rfl ?_
  refine AW.iconst (v := -1) (pc := 20) dX3_clear_20 (by decide) ?_
  have hw := hw _ rfl
  refine AW.callS (pc := 21) (S' := []) dX3_clear_21 (c_J_fill (i := 31) (n := 30) (d := d - 1) ht (by omega) (by decide) (by decide) (fun _ => rfl)) ok_J7_fill_53178 tw_196 tw_195 rfl (by omega) rfl (Nat.le_of_ble_eq_true rfl) (by omega) (by omega) ?_ (fun E h' k' hq => by obtain ⟨hv, -⟩ := hq; cases hv)
  intro v h' k' hq
  obtain ⟨hv, rfl, rfl⟩ := hq
  cases hv
  show AW _ _ _ _ _ _ _ 24 [.ref 23] [] (lay t ex o (va_up m2 31 (jfill (m2 31) 30 (-1 : Int32)))) k _ _
  generalize va_up m2 31 (jfill (m2 31) 30 (-1 : Int32)) = m3 at hw ⊢
  refine AW.aload_n (pc := 24) dX3_clear_24 rfl rfl ?_
  refine AW.callV (pc := 25) (S' := []) dX3_clear_25 (c_R_giveUpAll_23 (d := d - 1) ht (by omega) hw) ok_X3_giveUpAll tw_275 ts_15 tw_273 (fix_pos (by decide)) (lay_at ht (by decide)) (show aw_cl[3]? = some _ from rfl) rfl rfl (by omega) rfl (Nat.le_of_ble_eq_true rfl) (by omega) (by omega) ?_ (fun E h' k' hq => by obtain ⟨rfl, m4, hv, -⟩ := hq; cases hv)
  intro v h' k' hq
  obtain ⟨rfl, m4, hv, rfl, hw⟩ := hq
  cases hv
  show AW _ _ _ _ _ _ _ 28 [.ref 23] [] (lay t ex o m4) k _ _
  refine AW.aload_n (pc := 28) dX3_clear_28 rfl rfl ?_
  refine AW.callV (pc := 29) (S' := []) dX3_clear_29 (c_R_beginCounting_23 (d := d - 1) ht (by omega) hw) ok_X3_beginCounting tw_192 ts_4 tw_190 (fix_pos (by decide)) (lay_at ht (by decide)) (show aw_cl[3]? = some _ from rfl) rfl rfl (by omega) rfl (Nat.le_of_ble_eq_true rfl) (by omega) (by omega) ?_ (fun E h' k' hq => by obtain ⟨rfl, m5, hv, -⟩ := hq; cases hv)
  intro v h' k' hq
  obtain ⟨rfl, m5, hv, rfl, hw⟩ := hq
  cases hv
  show AW _ _ _ _ _ _ _ 32 [.ref 23] [] (lay t ex o m5) k _ _
  refine AW.aload_n (pc := 32) dX3_clear_32 rfl rfl ?_
  refine AW.iconst (v := 0) (pc := 33) dX3_clear_33 (by decide) ?_
  have hw := hw _ rfl
  refine LW.put (pc := 34) (f := 12) (ci := 3) (T := TX3) ht (by decide) rfl sp_23_12 dX3_clear_34 tw_572 rfl (by decide) (Nat.le_of_ble_eq_true rfl) rfl ⟨rfl, rfl⟩ ?_
  generalize up2 m5 23 12 (0 : Int32) = m6 at hw ⊢
  refine AW.aload_n (pc := 37) dX3_clear_37 rfl rfl ?_
  refine AW.iconst (v := 0) (pc := 38) dX3_clear_38 (by decide) ?_
  have hw := hw _ rfl
  refine LW.put (pc := 39) (f := 13) (ci := 3) (T := TX3) ht (by decide) rfl sp_23_13 dX3_clear_39 tw_574 rfl (by decide) (Nat.le_of_ble_eq_true rfl) rfl ⟨rfl, rfl⟩ ?_
  generalize up2 m6 23 13 (0 : Int32) = m7 at hw ⊢
  refine AW.aload_n (pc := 42) dX3_clear_42 rfl rfl ?_
  refine AW.iconst (v := 0) (pc := 43) dX3_clear_43 (by decide) ?_
  have hw := hw _ rfl
  refine LW.put (pc := 44) (f := 14) (ci := 3) (T := TX3) ht (by decide) rfl sp_23_14 dX3_clear_44 tw_576 rfl (by decide) (Nat.le_of_ble_eq_true rfl) rfl ⟨rfl, rfl⟩ ?_
  generalize up2 m7 23 14 (0 : Int32) = m8 at hw ⊢
  refine AW.aload_n (pc := 47) dX3_clear_47 rfl rfl ?_
  refine AW.iconst (v := 0) (pc := 48) dX3_clear_48 (by decide) ?_
  have hw := hw _ rfl
  refine LW.put (pc := 49) (f := 15) (ci := 3) (T := TX3) ht (by decide) rfl sp_23_15 dX3_clear_49 tw_577 rfl (by decide) (Nat.le_of_ble_eq_true rfl) rfl ⟨rfl, rfl⟩ ?_
  generalize up2 m8 23 15 (0 : Int32) = m9 at hw ⊢
  refine AW.aload_n (pc := 52) dX3_clear_52 rfl rfl ?_
  refine AW.iconst (v := 0) (pc := 53) dX3_clear_53 (by decide) ?_
  have hw := hw _ rfl
  refine LW.put (pc := 54) (f := 16) (ci := 3) (T := TX3) ht (by decide) rfl sp_23_16 dX3_clear_54 tw_579 rfl (by decide) (Nat.le_of_ble_eq_true rfl) rfl ⟨rfl, rfl⟩ ?_
  generalize up2 m9 23 16 (0 : Int32) = m10 at hw ⊢
  refine AW.aload_n (pc := 57) dX3_clear_57 rfl rfl ?_
  refine AW.iconst (v := 0) (pc := 58) dX3_clear_58 (by decide) ?_
  have hw := hw _ rfl
  refine LW.put (pc := 59) (f := 17) (ci := 3) (T := TX3) ht (by decide) rfl sp_23_17 dX3_clear_59 tw_581 rfl (by decide) (Nat.le_of_ble_eq_true rfl) rfl ⟨rfl, rfl⟩ ?_
  generalize up2 m10 23 17 (0 : Int32) = m11 at hw ⊢
  exact AW.vret (pc := 62) dX3_clear_62 rfl (by omega) (by omega) (hQ _ hw)
set_option maxRecDepth 100000 in
set_option maxHeartbeats 4000000 in
theorem c_R_clear_23 {d k t : Nat} {ex : Hp} {o : Nat → Int64} {K : Mem → Prop} {m : Mem}  (ht : tok t) (hd : 4 ≤ d) (hw : w_R_clear 23  m K) : AM mX3_clear d [.ref 23] (lay t ex o m) k 0 0 (fun oc h' k' => k = k' ∧ ∃ (m' : Mem), oc = .inl none ∧ h' = lay t ex o m' ∧ K m') :=
  AM.intro (μ := mX3_clear) (n := 0) (by decide) rfl rfl rfl (b_R_clear_23 ht hd (by omega) (by omega) (fun _ hK => ⟨rfl, _, rfl, rfl, hK⟩)  hw)
set_option maxRecDepth 100000 in
set_option maxHeartbeats 4000000 in
theorem b_R_clear_35 {Z : Gz} {d k0 mc ms cs ss k t : Nat} {Q : Po} {ex : Hp} {o : Nat → Int64} {K : Mem → Prop}  (ht : tok t) (hd : 4 ≤ d) (hcs : cs + 0 ≤ mc) (hss : ss + 0 ≤ ms) (hQ : ∀ (m : Mem), K m → Q (.inl none) (lay t ex o m) k) {m : Mem}  (hw : w_R_clear 35  m K) : AW Z mX3_clear d k0 mc ms Q 0 [.ref 35] [] (lay t ex o m) k cs ss := by
  unfold w_R_clear at hw
  refine AW.aload_n (pc := 0) dX3_clear_0 rfl rfl ?_
  refine LW.get (pc := 1) (f := 1) (ci := 3) (T := TX3) ht (by decide) rfl dX3_clear_1 tw_553 rfl (by decide) rfl ?_
  refine AW.iconst (v := 2) (pc := 4) dX3_clear_4 (by decide) ?_
  have hw := hw _ rfl
  refine AW.callS (pc := 5) (S' := []) dX3_clear_5 (c_J_fill (i := 36) (n := 24) (d := d - 1) ht (by omega) (by decide) (by decide) (fun _ => rfl)) ok_J7_fill_53178 tw_196 tw_195 rfl (by omega) rfl (Nat.le_of_ble_eq_true rfl) (by omega) (by omega) ?_ (fun E h' k' hq => by obtain ⟨hv, -⟩ := hq; cases hv)
  intro v h' k' hq
  obtain ⟨hv, rfl, rfl⟩ := hq
  cases hv
  show AW _ _ _ _ _ _ _ 8 [.ref 35] [] (lay t ex o (va_up m 36 (jfill (m 36) 24 (2 : Int32)))) k _ _
  generalize va_up m 36 (jfill (m 36) 24 (2 : Int32)) = m1 at hw ⊢
  refine AW.aload_n (pc := 8) dX3_clear_8 rfl rfl ?_
  refine LW.get (pc := 9) (f := 2) (ci := 3) (T := TX3) ht (by decide) rfl dX3_clear_9 tw_555 rfl (by decide) rfl ?_
  refine AW.iconst (v := -1) (pc := 12) dX3_clear_12 (by decide) ?_
  have hw := hw _ rfl
  refine AW.callS (pc := 13) (S' := []) dX3_clear_13 (c_J_fill (i := 37) (n := 24) (d := d - 1) ht (by omega) (by decide) (by decide) (fun _ => rfl)) ok_J7_fill_53178 tw_196 tw_195 rfl (by omega) rfl (Nat.le_of_ble_eq_true rfl) (by omega) (by omega) ?_ (fun E h' k' hq => by obtain ⟨hv, -⟩ := hq; cases hv)
  intro v h' k' hq
  obtain ⟨hv, rfl, rfl⟩ := hq
  cases hv
  show AW _ _ _ _ _ _ _ 16 [.ref 35] [] (lay t ex o (va_up m1 37 (jfill (m1 37) 24 (-1 : Int32)))) k _ _
  generalize va_up m1 37 (jfill (m1 37) 24 (-1 : Int32)) = m2 at hw ⊢
  refine AW.aload_n (pc := 16) dX3_clear_16 rfl rfl ?_
  refine LW.get (pc := 17) (f := 8) (ci := 3) (T := TX3) ht (by decide) rfl dX3_clear_17 tw_565 rfl (by decide) rfl ?_
  refine AW.iconst (v := -1) (pc := 20) dX3_clear_20 (by decide) ?_
  have hw := hw _ rfl
  refine AW.callS (pc := 21) (S' := []) dX3_clear_21 (c_J_fill (i := 43) (n := 30) (d := d - 1) ht (by omega) (by decide) (by decide) (fun _ => rfl)) ok_J7_fill_53178 tw_196 tw_195 rfl (by omega) rfl (Nat.le_of_ble_eq_true rfl) (by omega) (by omega) ?_ (fun E h' k' hq => by obtain ⟨hv, -⟩ := hq; cases hv)
  intro v h' k' hq
  obtain ⟨hv, rfl, rfl⟩ := hq
  cases hv
  show AW _ _ _ _ _ _ _ 24 [.ref 35] [] (lay t ex o (va_up m2 43 (jfill (m2 43) 30 (-1 : Int32)))) k _ _
  generalize va_up m2 43 (jfill (m2 43) 30 (-1 : Int32)) = m3 at hw ⊢
  refine AW.aload_n (pc := 24) dX3_clear_24 rfl rfl ?_
  refine AW.callV (pc := 25) (S' := []) dX3_clear_25 (c_R_giveUpAll_35 (d := d - 1) ht (by omega) hw) ok_X3_giveUpAll tw_275 ts_15 tw_273 (fix_pos (by decide)) (lay_at ht (by decide)) (show aw_cl[3]? = some _ from rfl) rfl rfl (by omega) rfl (Nat.le_of_ble_eq_true rfl) (by omega) (by omega) ?_ (fun E h' k' hq => by obtain ⟨rfl, m4, hv, -⟩ := hq; cases hv)
  intro v h' k' hq
  obtain ⟨rfl, m4, hv, rfl, hw⟩ := hq
  cases hv
  show AW _ _ _ _ _ _ _ 28 [.ref 35] [] (lay t ex o m4) k _ _
  refine AW.aload_n (pc := 28) dX3_clear_28 rfl rfl ?_
  refine AW.callV (pc := 29) (S' := []) dX3_clear_29 (c_R_beginCounting_35 (d := d - 1) ht (by omega) hw) ok_X3_beginCounting tw_192 ts_4 tw_190 (fix_pos (by decide)) (lay_at ht (by decide)) (show aw_cl[3]? = some _ from rfl) rfl rfl (by omega) rfl (Nat.le_of_ble_eq_true rfl) (by omega) (by omega) ?_ (fun E h' k' hq => by obtain ⟨rfl, m5, hv, -⟩ := hq; cases hv)
  intro v h' k' hq
  obtain ⟨rfl, m5, hv, rfl, hw⟩ := hq
  cases hv
  show AW _ _ _ _ _ _ _ 32 [.ref 35] [] (lay t ex o m5) k _ _
  refine AW.aload_n (pc := 32) dX3_clear_32 rfl rfl ?_
  refine AW.iconst (v := 0) (pc := 33) dX3_clear_33 (by decide) ?_
  have hw := hw _ rfl
  refine LW.put (pc := 34) (f := 12) (ci := 3) (T := TX3) ht (by decide) rfl sp_35_12 dX3_clear_34 tw_572 rfl (by decide) (Nat.le_of_ble_eq_true rfl) rfl ⟨rfl, rfl⟩ ?_
  generalize up2 m5 35 12 (0 : Int32) = m6 at hw ⊢
  refine AW.aload_n (pc := 37) dX3_clear_37 rfl rfl ?_
  refine AW.iconst (v := 0) (pc := 38) dX3_clear_38 (by decide) ?_
  have hw := hw _ rfl
  refine LW.put (pc := 39) (f := 13) (ci := 3) (T := TX3) ht (by decide) rfl sp_35_13 dX3_clear_39 tw_574 rfl (by decide) (Nat.le_of_ble_eq_true rfl) rfl ⟨rfl, rfl⟩ ?_
  generalize up2 m6 35 13 (0 : Int32) = m7 at hw ⊢
  refine AW.aload_n (pc := 42) dX3_clear_42 rfl rfl ?_
  refine AW.iconst (v := 0) (pc := 43) dX3_clear_43 (by decide) ?_
  have hw := hw _ rfl
  refine LW.put (pc := 44) (f := 14) (ci := 3) (T := TX3) ht (by decide) rfl sp_35_14 dX3_clear_44 tw_576 rfl (by decide) (Nat.le_of_ble_eq_true rfl) rfl ⟨rfl, rfl⟩ ?_
  generalize up2 m7 35 14 (0 : Int32) = m8 at hw ⊢
  refine AW.aload_n (pc := 47) dX3_clear_47 rfl rfl ?_
  refine AW.iconst (v := 0) (pc := 48) dX3_clear_48 (by decide) ?_
  have hw := hw _ rfl
  refine LW.put (pc := 49) (f := 15) (ci := 3) (T := TX3) ht (by decide) rfl sp_35_15 dX3_clear_49 tw_577 rfl (by decide) (Nat.le_of_ble_eq_true rfl) rfl ⟨rfl, rfl⟩ ?_
  generalize up2 m8 35 15 (0 : Int32) = m9 at hw ⊢
  refine AW.aload_n (pc := 52) dX3_clear_52 rfl rfl ?_
  refine AW.iconst (v := 0) (pc := 53) dX3_clear_53 (by decide) ?_
  have hw := hw _ rfl
  refine LW.put (pc := 54) (f := 16) (ci := 3) (T := TX3) ht (by decide) rfl sp_35_16 dX3_clear_54 tw_579 rfl (by decide) (Nat.le_of_ble_eq_true rfl) rfl ⟨rfl, rfl⟩ ?_
  generalize up2 m9 35 16 (0 : Int32) = m10 at hw ⊢
  refine AW.aload_n (pc := 57) dX3_clear_57 rfl rfl ?_
  refine AW.iconst (v := 0) (pc := 58) dX3_clear_58 (by decide) ?_
  have hw := hw _ rfl
  refine LW.put (pc := 59) (f := 17) (ci := 3) (T := TX3) ht (by decide) rfl sp_35_17 dX3_clear_59 tw_581 rfl (by decide) (Nat.le_of_ble_eq_true rfl) rfl ⟨rfl, rfl⟩ ?_
  generalize up2 m10 35 17 (0 : Int32) = m11 at hw ⊢
  exact AW.vret (pc := 62) dX3_clear_62 rfl (by omega) (by omega) (hQ _ hw)
set_option maxRecDepth 100000 in
set_option maxHeartbeats 4000000 in
theorem c_R_clear_35 {d k t : Nat} {ex : Hp} {o : Nat → Int64} {K : Mem → Prop} {m : Mem}  (ht : tok t) (hd : 4 ≤ d) (hw : w_R_clear 35  m K) : AM mX3_clear d [.ref 35] (lay t ex o m) k 0 0 (fun oc h' k' => k = k' ∧ ∃ (m' : Mem), oc = .inl none ∧ h' = lay t ex o m' ∧ K m') :=
  AM.intro (μ := mX3_clear) (n := 0) (by decide) rfl rfl rfl (b_R_clear_35 ht hd (by omega) (by omega) (fun _ hK => ⟨rfl, _, rfl, rfl, hK⟩)  hw)
def w_R_comesAheadOf (r : Nat) (p1 : Int32) (p2 : Int32) (m : Mem) (K : Int32 → Mem → Prop) : Prop :=
  vp_in p1 30 ∧ vp_in p2 30 ∧ (((m (r + 6) (p1).toNatClampNeg) = (m (r + 6) (p2).toNatClampNeg) → vp_in p1 30 ∧ vp_in p2 30 ∧ (((m (r + 7) (p2).toNatClampNeg) ≤ (m (r + 7) (p1).toNatClampNeg) → K (0 : Int32) m) ∧ (¬ ((m (r + 7) (p2).toNatClampNeg) ≤ (m (r + 7) (p1).toNatClampNeg)) → K (1 : Int32) m))) ∧ (¬ ((m (r + 6) (p1).toNatClampNeg) = (m (r + 6) (p2).toNatClampNeg)) → vp_in p1 30 ∧ vp_in p2 30 ∧ (((m (r + 6) (p2).toNatClampNeg) ≤ (m (r + 6) (p1).toNatClampNeg) → K (0 : Int32) m) ∧ (¬ ((m (r + 6) (p2).toNatClampNeg) ≤ (m (r + 6) (p1).toNatClampNeg)) → K (1 : Int32) m))))
set_option maxRecDepth 100000 in
set_option maxHeartbeats 4000000 in
theorem b_R_comesAheadOf_23 {Z : Gz} {d k0 mc ms cs ss k t : Nat} {Q : Po} {ex : Hp} {o : Nat → Int64} {K : Int32 → Mem → Prop}  (ht : tok t) (hd : 2 ≤ d) (hcs : cs + 0 ≤ mc) (hss : ss + 0 ≤ ms) (hQ : ∀ (r : Int32) (m : Mem), K r m → Q (.inl (some (.int r))) (lay t ex o m) k) {m : Mem} (p1 : Int32) (p2 : Int32) (hw : w_R_comesAheadOf 23 p1 p2 m K) : AW Z mX3_comesAheadOf d k0 mc ms Q 0 [.ref 23, .int p1, .int p2] [] (lay t ex o m) k cs ss := by
  unfold w_R_comesAheadOf at hw
  refine AW.aload_n (pc := 0) dX3_comesAheadOf_0 rfl rfl ?_
  refine LW.get (pc := 1) (f := 6) (ci := 3) (T := TX3) ht (by decide) rfl dX3_comesAheadOf_1 tw_563 rfl (by decide) rfl ?_
  refine AW.iload_n (pc := 4) dX3_comesAheadOf_4 rfl rfl ?_
  obtain ⟨hin, hw⟩ := hw
  refine LW.iald (pc := 5) (j := p1.toNatClampNeg) ht (by decide) rfl dX3_comesAheadOf_5 hin rfl ?_
  refine AW.aload_n (pc := 6) dX3_comesAheadOf_6 rfl rfl ?_
  refine LW.get (pc := 7) (f := 6) (ci := 3) (T := TX3) ht (by decide) rfl dX3_comesAheadOf_7 tw_563 rfl (by decide) rfl ?_
  refine AW.iload_n (pc := 10) dX3_comesAheadOf_10 rfl rfl ?_
  obtain ⟨hin, hw⟩ := hw
  refine LW.iald (pc := 11) (j := p2.toNatClampNeg) ht (by decide) rfl dX3_comesAheadOf_11 hin rfl ?_
  refine AW.icmp_eq (pc := 12) (tgt := 36) dX3_comesAheadOf_12 (by decide) (fun c1 => ?_) (fun c1 => ?_)
  · have hw := hw.1 c1
    refine AW.aload_n (pc := 36) dX3_comesAheadOf_36 rfl rfl ?_
    refine LW.get (pc := 37) (f := 7) (ci := 3) (T := TX3) ht (by decide) rfl dX3_comesAheadOf_37 tw_564 rfl (by decide) rfl ?_
    refine AW.iload_n (pc := 40) dX3_comesAheadOf_40 rfl rfl ?_
    obtain ⟨hin, hw⟩ := hw
    refine LW.iald (pc := 41) (j := p1.toNatClampNeg) ht (by decide) rfl dX3_comesAheadOf_41 hin rfl ?_
    refine AW.aload_n (pc := 42) dX3_comesAheadOf_42 rfl rfl ?_
    refine LW.get (pc := 43) (f := 7) (ci := 3) (T := TX3) ht (by decide) rfl dX3_comesAheadOf_43 tw_564 rfl (by decide) rfl ?_
    refine AW.iload_n (pc := 46) dX3_comesAheadOf_46 rfl rfl ?_
    obtain ⟨hin, hw⟩ := hw
    refine LW.iald (pc := 47) (j := p2.toNatClampNeg) ht (by decide) rfl dX3_comesAheadOf_47 hin rfl ?_
    refine AW.icmp_ge (pc := 48) (tgt := 55) dX3_comesAheadOf_48 (by decide) (fun c2 => ?_) (fun c2 => ?_)
    · have hw := hw.1 c2
      refine AW.iconst (v := 0) (pc := 55) dX3_comesAheadOf_55 (by decide) ?_
      exact AW.iret (pc := 56) dX3_comesAheadOf_56 rfl (by decide) (by omega) (by omega) (hQ _ _ hw)
    · have hw := hw.2 c2
      refine AW.iconst (v := 1) (pc := 51) dX3_comesAheadOf_51 (by decide) ?_
      refine AW.goto (pc := 52) (tgt := 56) dX3_comesAheadOf_52 (by decide) ?_
      exact AW.iret (pc := 56) dX3_comesAheadOf_56 rfl (by decide) (by omega) (by omega) (hQ _ _ hw)
  · have hw := hw.2 c1
    refine AW.aload_n (pc := 15) dX3_comesAheadOf_15 rfl rfl ?_
    refine LW.get (pc := 16) (f := 6) (ci := 3) (T := TX3) ht (by decide) rfl dX3_comesAheadOf_16 tw_563 rfl (by decide) rfl ?_
    refine AW.iload_n (pc := 19) dX3_comesAheadOf_19 rfl rfl ?_
    obtain ⟨hin, hw⟩ := hw
    refine LW.iald (pc := 20) (j := p1.toNatClampNeg) ht (by decide) rfl dX3_comesAheadOf_20 hin rfl ?_
    refine AW.aload_n (pc := 21) dX3_comesAheadOf_21 rfl rfl ?_
    refine LW.get (pc := 22) (f := 6) (ci := 3) (T := TX3) ht (by decide) rfl dX3_comesAheadOf_22 tw_563 rfl (by decide) rfl ?_
    refine AW.iload_n (pc := 25) dX3_comesAheadOf_25 rfl rfl ?_
    obtain ⟨hin, hw⟩ := hw
    refine LW.iald (pc := 26) (j := p2.toNatClampNeg) ht (by decide) rfl dX3_comesAheadOf_26 hin rfl ?_
    refine AW.icmp_ge (pc := 27) (tgt := 34) dX3_comesAheadOf_27 (by decide) (fun c3 => ?_) (fun c3 => ?_)
    · have hw := hw.1 c3
      refine AW.iconst (v := 0) (pc := 34) dX3_comesAheadOf_34 (by decide) ?_
      exact AW.iret (pc := 35) dX3_comesAheadOf_35 rfl (by decide) (by omega) (by omega) (hQ _ _ hw)
    · have hw := hw.2 c3
      refine AW.iconst (v := 1) (pc := 30) dX3_comesAheadOf_30 (by decide) ?_
      refine AW.goto (pc := 31) (tgt := 35) dX3_comesAheadOf_31 (by decide) ?_
      exact AW.iret (pc := 35) dX3_comesAheadOf_35 rfl (by decide) (by omega) (by omega) (hQ _ _ hw)
set_option maxRecDepth 100000 in
set_option maxHeartbeats 4000000 in
theorem c_R_comesAheadOf_23 {d k t : Nat} {ex : Hp} {o : Nat → Int64} {K : Int32 → Mem → Prop} {m : Mem} {p1 : Int32} {p2 : Int32} (ht : tok t) (hd : 2 ≤ d) (hw : w_R_comesAheadOf 23 p1 p2 m K) : AM mX3_comesAheadOf d [.ref 23, .int p1, .int p2] (lay t ex o m) k 0 0 (fun oc h' k' => k = k' ∧ ∃ (r : Int32) (m' : Mem), oc = .inl (some (.int r)) ∧ h' = lay t ex o m' ∧ K r m') :=
  AM.intro (μ := mX3_comesAheadOf) (n := 0) (by decide) rfl rfl rfl (b_R_comesAheadOf_23 ht hd (by omega) (by omega) (fun _ _ hK => ⟨rfl, _, _, rfl, rfl, hK⟩) p1 p2 hw)
set_option maxRecDepth 100000 in
set_option maxHeartbeats 4000000 in
theorem b_R_comesAheadOf_35 {Z : Gz} {d k0 mc ms cs ss k t : Nat} {Q : Po} {ex : Hp} {o : Nat → Int64} {K : Int32 → Mem → Prop}  (ht : tok t) (hd : 2 ≤ d) (hcs : cs + 0 ≤ mc) (hss : ss + 0 ≤ ms) (hQ : ∀ (r : Int32) (m : Mem), K r m → Q (.inl (some (.int r))) (lay t ex o m) k) {m : Mem} (p1 : Int32) (p2 : Int32) (hw : w_R_comesAheadOf 35 p1 p2 m K) : AW Z mX3_comesAheadOf d k0 mc ms Q 0 [.ref 35, .int p1, .int p2] [] (lay t ex o m) k cs ss := by
  unfold w_R_comesAheadOf at hw
  refine AW.aload_n (pc := 0) dX3_comesAheadOf_0 rfl rfl ?_
  refine LW.get (pc := 1) (f := 6) (ci := 3) (T := TX3) ht (by decide) rfl dX3_comesAheadOf_1 tw_563 rfl (by decide) rfl ?_
  refine AW.iload_n (pc := 4) dX3_comesAheadOf_4 rfl rfl ?_
  obtain ⟨hin, hw⟩ := hw
  refine LW.iald (pc := 5) (j := p1.toNatClampNeg) ht (by decide) rfl dX3_comesAheadOf_5 hin rfl ?_
  refine AW.aload_n (pc := 6) dX3_comesAheadOf_6 rfl rfl ?_
  refine LW.get (pc := 7) (f := 6) (ci := 3) (T := TX3) ht (by decide) rfl dX3_comesAheadOf_7 tw_563 rfl (by decide) rfl ?_
  refine AW.iload_n (pc := 10) dX3_comesAheadOf_10 rfl rfl ?_
  obtain ⟨hin, hw⟩ := hw
  refine LW.iald (pc := 11) (j := p2.toNatClampNeg) ht (by decide) rfl dX3_comesAheadOf_11 hin rfl ?_
  refine AW.icmp_eq (pc := 12) (tgt := 36) dX3_comesAheadOf_12 (by decide) (fun c1 => ?_) (fun c1 => ?_)
  · have hw := hw.1 c1
    refine AW.aload_n (pc := 36) dX3_comesAheadOf_36 rfl rfl ?_
    refine LW.get (pc := 37) (f := 7) (ci := 3) (T := TX3) ht (by decide) rfl dX3_comesAheadOf_37 tw_564 rfl (by decide) rfl ?_
    refine AW.iload_n (pc := 40) dX3_comesAheadOf_40 rfl rfl ?_
    obtain ⟨hin, hw⟩ := hw
    refine LW.iald (pc := 41) (j := p1.toNatClampNeg) ht (by decide) rfl dX3_comesAheadOf_41 hin rfl ?_
    refine AW.aload_n (pc := 42) dX3_comesAheadOf_42 rfl rfl ?_
    refine LW.get (pc := 43) (f := 7) (ci := 3) (T := TX3) ht (by decide) rfl dX3_comesAheadOf_43 tw_564 rfl (by decide) rfl ?_
    refine AW.iload_n (pc := 46) dX3_comesAheadOf_46 rfl rfl ?_
    obtain ⟨hin, hw⟩ := hw
    refine LW.iald (pc := 47) (j := p2.toNatClampNeg) ht (by decide) rfl dX3_comesAheadOf_47 hin rfl ?_
    refine AW.icmp_ge (pc := 48) (tgt := 55) dX3_comesAheadOf_48 (by decide) (fun c2 => ?_) (fun c2 => ?_)
    · have hw := hw.1 c2
      refine AW.iconst (v := 0) (pc := 55) dX3_comesAheadOf_55 (by decide) ?_
      exact AW.iret (pc := 56) dX3_comesAheadOf_56 rfl (by decide) (by omega) (by omega) (hQ _ _ hw)
    · have hw := hw.2 c2
      refine AW.iconst (v := 1) (pc := 51) dX3_comesAheadOf_51 (by decide) ?_
      refine AW.goto (pc := 52) (tgt := 56) dX3_comesAheadOf_52 (by decide) ?_
      exact AW.iret (pc := 56) dX3_comesAheadOf_56 rfl (by decide) (by omega) (by omega) (hQ _ _ hw)
  · have hw := hw.2 c1
    refine AW.aload_n (pc := 15) dX3_comesAheadOf_15 rfl rfl ?_
    refine LW.get (pc := 16) (f := 6) (ci := 3) (T := TX3) ht (by decide) rfl dX3_comesAheadOf_16 tw_563 rfl (by decide) rfl ?_
    refine AW.iload_n (pc := 19) dX3_comesAheadOf_19 rfl rfl ?_
    obtain ⟨hin, hw⟩ := hw
    refine LW.iald (pc := 20) (j := p1.toNatClampNeg) ht (by decide) rfl dX3_comesAheadOf_20 hin rfl ?_
    refine AW.aload_n (pc := 21) dX3_comesAheadOf_21 rfl rfl ?_
    refine LW.get (pc := 22) (f := 6) (ci := 3) (T := TX3) ht (by decide) rfl dX3_comesAheadOf_22 tw_563 rfl (by decide) rfl ?_
    refine AW.iload_n (pc := 25) dX3_comesAheadOf_25 rfl rfl ?_
    obtain ⟨hin, hw⟩ := hw
    refine LW.iald (pc := 26) (j := p2.toNatClampNeg) ht (by decide) rfl dX3_comesAheadOf_26 hin rfl ?_
    refine AW.icmp_ge (pc := 27) (tgt := 34) dX3_comesAheadOf_27 (by decide) (fun c3 => ?_) (fun c3 => ?_)
    · have hw := hw.1 c3
      refine AW.iconst (v := 0) (pc := 34) dX3_comesAheadOf_34 (by decide) ?_
      exact AW.iret (pc := 35) dX3_comesAheadOf_35 rfl (by decide) (by omega) (by omega) (hQ _ _ hw)
    · have hw := hw.2 c3
      refine AW.iconst (v := 1) (pc := 30) dX3_comesAheadOf_30 (by decide) ?_
      refine AW.goto (pc := 31) (tgt := 35) dX3_comesAheadOf_31 (by decide) ?_
      exact AW.iret (pc := 35) dX3_comesAheadOf_35 rfl (by decide) (by omega) (by omega) (hQ _ _ hw)
set_option maxRecDepth 100000 in
set_option maxHeartbeats 4000000 in
theorem c_R_comesAheadOf_35 {d k t : Nat} {ex : Hp} {o : Nat → Int64} {K : Int32 → Mem → Prop} {m : Mem} {p1 : Int32} {p2 : Int32} (ht : tok t) (hd : 2 ≤ d) (hw : w_R_comesAheadOf 35 p1 p2 m K) : AM mX3_comesAheadOf d [.ref 35, .int p1, .int p2] (lay t ex o m) k 0 0 (fun oc h' k' => k = k' ∧ ∃ (r : Int32) (m' : Mem), oc = .inl (some (.int r)) ∧ h' = lay t ex o m' ∧ K r m') :=
  AM.intro (μ := mX3_comesAheadOf) (n := 0) (by decide) rfl rfl rfl (b_R_comesAheadOf_35 ht hd (by omega) (by omega) (fun _ _ hK => ⟨rfl, _, _, rfl, rfl, hK⟩) p1 p2 hw)
def w_R_nextLine_4 : Nat → Nat → Int32 → Int32 → Int32 → Mem → (Int32 → Int32 → Int32 → Mem → Prop) → (Int32 → Mem → Prop) → Prop
  | 0, _, _, _, _, _, _, _ => False
  | n + 1, r, x1, x2, x3, m, E57, K => (((m 2 11) ≤ x3 → E57 x1 x2 x3 m) ∧ (¬ ((m 2 11) ≤ x3) → vp_in x3 30 ∧ (((m (r + 5) (x3).toNatClampNeg) = (-1 : Int32) → w_R_nextLine_4 n r x1 x2 (x3 + 1) m E57 K) ∧ (¬ ((m (r + 5) (x3).toNatClampNeg) = (-1 : Int32)) → vp_in x3 30 ∧ ((x1 < (m (r + 6) (x3).toNatClampNeg) → w_R_nextLine_4 n r x1 x2 (x3 + 1) m E57 K) ∧ (¬ (x1 < (m (r + 6) (x3).toNatClampNeg)) → ((x2 = (-1 : Int32) → w_R_nextLine_4 n r x1 x3 (x3 + 1) m E57 K) ∧ (¬ (x2 = (-1 : Int32)) → w_R_comesAheadOf r x3 x2 m (fun r6 m5 => ((r6 = 0 → w_R_nextLine_4 n r x1 x2 (x3 + 1) m5 E57 K) ∧ (¬ (r6 = 0) → w_R_nextLine_4 n r x1 x3 (x3 + 1) m5 E57 K)))))))))))
def w_R_nextLine (r : Nat) (p1 : Int32) (m : Mem) (K : Int32 → Mem → Prop) : Prop :=
  w_R_nextLine_4 31 r p1 (-1 : Int32) (0 : Int32) m (fun y8 y9 y10 m11 => K y9 m11) K
set_option maxRecDepth 100000 in
set_option maxHeartbeats 4000000 in
theorem l_R_nextLine_23_4 {Z : Gz} {d k0 mc ms cs ss k t : Nat} {Q : Po} {ex : Hp} {o : Nat → Int64} {K : Int32 → Mem → Prop}  (ht : tok t) (hd : 3 ≤ d) (hcs : cs ≤ mc) (hss : ss ≤ ms) (hQ : ∀ (r : Int32) (m : Mem), K r m → Q (.inl (some (.int r))) (lay t ex o m) k) {E57 : Int32 → Int32 → Int32 → Mem → Prop} (hE57 : ∀ (x1 : Int32) (x2 : Int32) (x3 : Int32) (m : Mem), E57 x1 x2 x3 m → AW Z mX3_nextLine d k0 mc ms Q 57 [.ref 23, .int x1, .int x2, .int x3] [] (lay t ex o m) k cs ss) : ∀ (n : Nat) (x1 : Int32) (x2 : Int32) (x3 : Int32) (m : Mem),  w_R_nextLine_4 n 23 x1 x2 x3 m E57 K → AW Z mX3_nextLine d k0 mc ms Q 4 [.ref 23, .int x1, .int x2, .int x3] [] (lay t ex o m) k cs ss := by
  intro n
  induction n with
  | zero =>
    intros; rename_i hw; exact absurd hw (by simp [w_R_nextLine_4])
  | succ n ih =>
    intro x1 x2 x3 m hw
    unfold w_R_nextLine_4 at hw
    refine AW.iload_n (pc := 4) dX3_nextLine_4 rfl rfl ?_
    refine AW.aload_n (pc := 5) dX3_nextLine_5 rfl rfl ?_
    refine LW.get (pc := 6) (f := 0) (ci := 3) (T := TX3) ht (by decide) rfl dX3_nextLine_6 tw_552 rfl (by decide) rfl ?_
    refine LW.getN (pc := 9) (f := 11) (ci := 1) (T := TX1) ht (by decide) rfl dX3_nextLine_9 tw_474 rfl (by decide) rfl ?_
    refine AW.icmp_ge (pc := 12) (tgt := 57) dX3_nextLine_12 (by decide) (fun c1 => ?_) (fun c1 => ?_)
    · have hw := hw.1 c1
      exact hE57 x1 x2 x3 m hw
    · have hw := hw.2 c1
      refine AW.aload_n (pc := 15) dX3_nextLine_15 rfl rfl ?_
      refine LW.get (pc := 16) (f := 5) (ci := 3) (T := TX3) ht (by decide) rfl dX3_nextLine_16 tw_561 rfl (by decide) rfl ?_
      refine AW.iload_n (pc := 19) dX3_nextLine_19 rfl rfl ?_
      obtain ⟨hin, hw⟩ := hw
      refine LW.iald (pc := 20) (j := x3.toNatClampNeg) ht (by decide) rfl dX3_nextLine_20 hin rfl ?_
      refine AW.iconst (v := -1) (pc := 21) dX3_nextLine_21 (by decide) ?_
      refine AW.icmp_eq (pc := 22) (tgt := 51) dX3_nextLine_22 (by decide) (fun c2 => ?_) (fun c2 => ?_)
      · have hw := hw.1 c2
        refine AW.iinc (v := (x3 + 1)) (L' := [.ref 23, .int x1, .int x2, .int (x3 + 1)]) (pc := 51) dX3_nextLine_51 rfl rfl (by decide) rfl rfl ?_
        refine AW.goto (pc := 54) (tgt := 4) dX3_nextLine_54 (by decide) ?_
        exact ih x1 x2 (x3 + 1) m hw
      · have hw := hw.2 c2
        refine AW.aload_n (pc := 25) dX3_nextLine_25 rfl rfl ?_
        refine LW.get (pc := 26) (f := 6) (ci := 3) (T := TX3) ht (by decide) rfl dX3_nextLine_26 tw_563 rfl (by decide) rfl ?_
        refine AW.iload_n (pc := 29) dX3_nextLine_29 rfl rfl ?_
        obtain ⟨hin, hw⟩ := hw
        refine LW.iald (pc := 30) (j := x3.toNatClampNeg) ht (by decide) rfl dX3_nextLine_30 hin rfl ?_
        refine AW.iload_n (pc := 31) dX3_nextLine_31 rfl rfl ?_
        refine AW.icmp_gt (pc := 32) (tgt := 51) dX3_nextLine_32 (by decide) (fun c3 => ?_) (fun c3 => ?_)
        · have hw := hw.1 c3
          refine AW.iinc (v := (x3 + 1)) (L' := [.ref 23, .int x1, .int x2, .int (x3 + 1)]) (pc := 51) dX3_nextLine_51 rfl rfl (by decide) rfl rfl ?_
          refine AW.goto (pc := 54) (tgt := 4) dX3_nextLine_54 (by decide) ?_
          exact ih x1 x2 (x3 + 1) m hw
        · have hw := hw.2 c3
          refine AW.iload_n (pc := 35) dX3_nextLine_35 rfl rfl ?_
          refine AW.iconst (v := -1) (pc := 36) dX3_nextLine_36 (by decide) ?_
          refine AW.icmp_eq (pc := 37) (tgt := 49) dX3_nextLine_37 (by decide) (fun c4 => ?_) (fun c4 => ?_)
          · have hw := hw.1 c4
            refine AW.iload_n (pc := 49) dX3_nextLine_49 rfl rfl ?_
            refine AW.istore_n (L' := [.ref 23, .int x1, .int x3, .int x3]) (pc := 50) dX3_nextLine_50 rfl (by decide) rfl rfl ?_
            refine AW.iinc (v := (x3 + 1)) (L' := [.ref 23, .int x1, .int x3, .int (x3 + 1)]) (pc := 51) dX3_nextLine_51 rfl rfl (by decide) rfl rfl ?_
            refine AW.goto (pc := 54) (tgt := 4) dX3_nextLine_54 (by decide) ?_
            exact ih x1 x3 (x3 + 1) m hw
          · have hw := hw.2 c4
            refine AW.aload_n (pc := 40) dX3_nextLine_40 rfl rfl ?_
            refine AW.iload_n (pc := 41) dX3_nextLine_41 rfl rfl ?_
            refine AW.iload_n (pc := 42) dX3_nextLine_42 rfl rfl ?_
            refine AW.callV (pc := 43) (S' := []) dX3_nextLine_43 (c_R_comesAheadOf_23 (d := d - 1) ht (by omega) hw) ok_X3_comesAheadOf tw_271 ts_14 tw_269 (fix_pos (by decide)) (lay_at ht (by decide)) (show aw_cl[3]? = some _ from rfl) rfl rfl (by omega) rfl (Nat.le_of_ble_eq_true rfl) (by omega) (by omega) ?_ (fun E h' k' hq => by obtain ⟨rfl, r6, m5, hv, -⟩ := hq; cases hv)
            intro v h' k' hq
            obtain ⟨rfl, r6, m5, hv, rfl, hw⟩ := hq
            cases hv
            show AW _ _ _ _ _ _ _ 46 [.ref 23, .int x1, .int x2, .int x3] [.int r6] (lay t ex o m5) k _ _
            refine AW.if_eq (pc := 46) (tgt := 51) dX3_nextLine_46 (by decide) (fun c7 => ?_) (fun c7 => ?_)
            · have hw := hw.1 c7
              refine AW.iinc (v := (x3 + 1)) (L' := [.ref 23, .int x1, .int x2, .int (x3 + 1)]) (pc := 51) dX3_nextLine_51 rfl rfl (by decide) rfl rfl ?_
              refine AW.goto (pc := 54) (tgt := 4) dX3_nextLine_54 (by decide) ?_
              exact ih x1 x2 (x3 + 1) m5 hw
            · have hw := hw.2 c7
              refine AW.iload_n (pc := 49) dX3_nextLine_49 rfl rfl ?_
              refine AW.istore_n (L' := [.ref 23, .int x1, .int x3, .int x3]) (pc := 50) dX3_nextLine_50 rfl (by decide) rfl rfl ?_
              refine AW.iinc (v := (x3 + 1)) (L' := [.ref 23, .int x1, .int x3, .int (x3 + 1)]) (pc := 51) dX3_nextLine_51 rfl rfl (by decide) rfl rfl ?_
              refine AW.goto (pc := 54) (tgt := 4) dX3_nextLine_54 (by decide) ?_
              exact ih x1 x3 (x3 + 1) m5 hw
set_option maxRecDepth 100000 in
set_option maxHeartbeats 4000000 in
theorem b_R_nextLine_23 {Z : Gz} {d k0 mc ms cs ss k t : Nat} {Q : Po} {ex : Hp} {o : Nat → Int64} {K : Int32 → Mem → Prop}  (ht : tok t) (hd : 3 ≤ d) (hcs : cs + 0 ≤ mc) (hss : ss + 0 ≤ ms) (hQ : ∀ (r : Int32) (m : Mem), K r m → Q (.inl (some (.int r))) (lay t ex o m) k) {m : Mem} (p1 : Int32) (hw : w_R_nextLine 23 p1 m K) : AW Z mX3_nextLine d k0 mc ms Q 0 [.ref 23, .int p1, .null, .null] [] (lay t ex o m) k cs ss := by
  unfold w_R_nextLine at hw
  refine AW.iconst (v := -1) (pc := 0) dX3_nextLine_0 (by decide) ?_
  refine AW.istore_n (L' := [.ref 23, .int p1, .int (-1 : Int32), .null]) (pc := 1) dX3_nextLine_1 rfl (by decide) rfl rfl ?_
  refine AW.iconst (v := 0) (pc := 2) dX3_nextLine_2 (by decide) ?_
  refine AW.istore_n (L' := [.ref 23, .int p1, .int (-1 : Int32), .int (0 : Int32)]) (pc := 3) dX3_nextLine_3 rfl (by decide) rfl rfl ?_
  refine l_R_nextLine_23_4 ht hd (by omega) (by omega) hQ ?_ 31 p1 (-1 : Int32) (0 : Int32) m hw
  intro y8 y9 y10 m11 hw
  refine AW.iload_n (pc := 57) dX3_nextLine_57 rfl rfl ?_
  exact AW.iret (pc := 58) dX3_nextLine_58 rfl rfl (by omega) (by omega) (hQ _ _ hw)
set_option maxRecDepth 100000 in
set_option maxHeartbeats 4000000 in
theorem c_R_nextLine_23 {d k t : Nat} {ex : Hp} {o : Nat → Int64} {K : Int32 → Mem → Prop} {m : Mem} {p1 : Int32} (ht : tok t) (hd : 3 ≤ d) (hw : w_R_nextLine 23 p1 m K) : AM mX3_nextLine d [.ref 23, .int p1] (lay t ex o m) k 0 0 (fun oc h' k' => k = k' ∧ ∃ (r : Int32) (m' : Mem), oc = .inl (some (.int r)) ∧ h' = lay t ex o m' ∧ K r m') :=
  AM.intro (μ := mX3_nextLine) (n := 2) (by decide) rfl rfl rfl (b_R_nextLine_23 ht hd (by omega) (by omega) (fun _ _ hK => ⟨rfl, _, _, rfl, rfl, hK⟩) p1 hw)
set_option maxRecDepth 100000 in
set_option maxHeartbeats 4000000 in
theorem l_R_nextLine_35_4 {Z : Gz} {d k0 mc ms cs ss k t : Nat} {Q : Po} {ex : Hp} {o : Nat → Int64} {K : Int32 → Mem → Prop}  (ht : tok t) (hd : 3 ≤ d) (hcs : cs ≤ mc) (hss : ss ≤ ms) (hQ : ∀ (r : Int32) (m : Mem), K r m → Q (.inl (some (.int r))) (lay t ex o m) k) {E57 : Int32 → Int32 → Int32 → Mem → Prop} (hE57 : ∀ (x1 : Int32) (x2 : Int32) (x3 : Int32) (m : Mem), E57 x1 x2 x3 m → AW Z mX3_nextLine d k0 mc ms Q 57 [.ref 35, .int x1, .int x2, .int x3] [] (lay t ex o m) k cs ss) : ∀ (n : Nat) (x1 : Int32) (x2 : Int32) (x3 : Int32) (m : Mem),  w_R_nextLine_4 n 35 x1 x2 x3 m E57 K → AW Z mX3_nextLine d k0 mc ms Q 4 [.ref 35, .int x1, .int x2, .int x3] [] (lay t ex o m) k cs ss := by
  intro n
  induction n with
  | zero =>
    intros; rename_i hw; exact absurd hw (by simp [w_R_nextLine_4])
  | succ n ih =>
    intro x1 x2 x3 m hw
    unfold w_R_nextLine_4 at hw
    refine AW.iload_n (pc := 4) dX3_nextLine_4 rfl rfl ?_
    refine AW.aload_n (pc := 5) dX3_nextLine_5 rfl rfl ?_
    refine LW.get (pc := 6) (f := 0) (ci := 3) (T := TX3) ht (by decide) rfl dX3_nextLine_6 tw_552 rfl (by decide) rfl ?_
    refine LW.getN (pc := 9) (f := 11) (ci := 1) (T := TX1) ht (by decide) rfl dX3_nextLine_9 tw_474 rfl (by decide) rfl ?_
    refine AW.icmp_ge (pc := 12) (tgt := 57) dX3_nextLine_12 (by decide) (fun c1 => ?_) (fun c1 => ?_)
    · have hw := hw.1 c1
      exact hE57 x1 x2 x3 m hw
    · have hw := hw.2 c1
      refine AW.aload_n (pc := 15) dX3_nextLine_15 rfl rfl ?_
      refine LW.get (pc := 16) (f := 5) (ci := 3) (T := TX3) ht (by decide) rfl dX3_nextLine_16 tw_561 rfl (by decide) rfl ?_
      refine AW.iload_n (pc := 19) dX3_nextLine_19 rfl rfl ?_
      obtain ⟨hin, hw⟩ := hw
      refine LW.iald (pc := 20) (j := x3.toNatClampNeg) ht (by decide) rfl dX3_nextLine_20 hin rfl ?_
      refine AW.iconst (v := -1) (pc := 21) dX3_nextLine_21 (by decide) ?_
      refine AW.icmp_eq (pc := 22) (tgt := 51) dX3_nextLine_22 (by decide) (fun c2 => ?_) (fun c2 => ?_)
      · have hw := hw.1 c2
        refine AW.iinc (v := (x3 + 1)) (L' := [.ref 35, .int x1, .int x2, .int (x3 + 1)]) (pc := 51) dX3_nextLine_51 rfl rfl (by decide) rfl rfl ?_
        refine AW.goto (pc := 54) (tgt := 4) dX3_nextLine_54 (by decide) ?_
        exact ih x1 x2 (x3 + 1) m hw
      · have hw := hw.2 c2
        refine AW.aload_n (pc := 25) dX3_nextLine_25 rfl rfl ?_
        refine LW.get (pc := 26) (f := 6) (ci := 3) (T := TX3) ht (by decide) rfl dX3_nextLine_26 tw_563 rfl (by decide) rfl ?_
        refine AW.iload_n (pc := 29) dX3_nextLine_29 rfl rfl ?_
        obtain ⟨hin, hw⟩ := hw
        refine LW.iald (pc := 30) (j := x3.toNatClampNeg) ht (by decide) rfl dX3_nextLine_30 hin rfl ?_
        refine AW.iload_n (pc := 31) dX3_nextLine_31 rfl rfl ?_
        refine AW.icmp_gt (pc := 32) (tgt := 51) dX3_nextLine_32 (by decide) (fun c3 => ?_) (fun c3 => ?_)
        · have hw := hw.1 c3
          refine AW.iinc (v := (x3 + 1)) (L' := [.ref 35, .int x1, .int x2, .int (x3 + 1)]) (pc := 51) dX3_nextLine_51 rfl rfl (by decide) rfl rfl ?_
          refine AW.goto (pc := 54) (tgt := 4) dX3_nextLine_54 (by decide) ?_
          exact ih x1 x2 (x3 + 1) m hw
        · have hw := hw.2 c3
          refine AW.iload_n (pc := 35) dX3_nextLine_35 rfl rfl ?_
          refine AW.iconst (v := -1) (pc := 36) dX3_nextLine_36 (by decide) ?_
          refine AW.icmp_eq (pc := 37) (tgt := 49) dX3_nextLine_37 (by decide) (fun c4 => ?_) (fun c4 => ?_)
          · have hw := hw.1 c4
            refine AW.iload_n (pc := 49) dX3_nextLine_49 rfl rfl ?_
            refine AW.istore_n (L' := [.ref 35, .int x1, .int x3, .int x3]) (pc := 50) dX3_nextLine_50 rfl (by decide) rfl rfl ?_
            refine AW.iinc (v := (x3 + 1)) (L' := [.ref 35, .int x1, .int x3, .int (x3 + 1)]) (pc := 51) dX3_nextLine_51 rfl rfl (by decide) rfl rfl ?_
            refine AW.goto (pc := 54) (tgt := 4) dX3_nextLine_54 (by decide) ?_
            exact ih x1 x3 (x3 + 1) m hw
          · have hw := hw.2 c4
            refine AW.aload_n (pc := 40) dX3_nextLine_40 rfl rfl ?_
            refine AW.iload_n (pc := 41) dX3_nextLine_41 rfl rfl ?_
            refine AW.iload_n (pc := 42) dX3_nextLine_42 rfl rfl ?_
            refine AW.callV (pc := 43) (S' := []) dX3_nextLine_43 (c_R_comesAheadOf_35 (d := d - 1) ht (by omega) hw) ok_X3_comesAheadOf tw_271 ts_14 tw_269 (fix_pos (by decide)) (lay_at ht (by decide)) (show aw_cl[3]? = some _ from rfl) rfl rfl (by omega) rfl (Nat.le_of_ble_eq_true rfl) (by omega) (by omega) ?_ (fun E h' k' hq => by obtain ⟨rfl, r6, m5, hv, -⟩ := hq; cases hv)
            intro v h' k' hq
            obtain ⟨rfl, r6, m5, hv, rfl, hw⟩ := hq
            cases hv
            show AW _ _ _ _ _ _ _ 46 [.ref 35, .int x1, .int x2, .int x3] [.int r6] (lay t ex o m5) k _ _
            refine AW.if_eq (pc := 46) (tgt := 51) dX3_nextLine_46 (by decide) (fun c7 => ?_) (fun c7 => ?_)
            · have hw := hw.1 c7
              refine AW.iinc (v := (x3 + 1)) (L' := [.ref 35, .int x1, .int x2, .int (x3 + 1)]) (pc := 51) dX3_nextLine_51 rfl rfl (by decide) rfl rfl ?_
              refine AW.goto (pc := 54) (tgt := 4) dX3_nextLine_54 (by decide) ?_
              exact ih x1 x2 (x3 + 1) m5 hw
            · have hw := hw.2 c7
              refine AW.iload_n (pc := 49) dX3_nextLine_49 rfl rfl ?_
              refine AW.istore_n (L' := [.ref 35, .int x1, .int x3, .int x3]) (pc := 50) dX3_nextLine_50 rfl (by decide) rfl rfl ?_
              refine AW.iinc (v := (x3 + 1)) (L' := [.ref 35, .int x1, .int x3, .int (x3 + 1)]) (pc := 51) dX3_nextLine_51 rfl rfl (by decide) rfl rfl ?_
              refine AW.goto (pc := 54) (tgt := 4) dX3_nextLine_54 (by decide) ?_
              exact ih x1 x3 (x3 + 1) m5 hw
set_option maxRecDepth 100000 in
set_option maxHeartbeats 4000000 in
theorem b_R_nextLine_35 {Z : Gz} {d k0 mc ms cs ss k t : Nat} {Q : Po} {ex : Hp} {o : Nat → Int64} {K : Int32 → Mem → Prop}  (ht : tok t) (hd : 3 ≤ d) (hcs : cs + 0 ≤ mc) (hss : ss + 0 ≤ ms) (hQ : ∀ (r : Int32) (m : Mem), K r m → Q (.inl (some (.int r))) (lay t ex o m) k) {m : Mem} (p1 : Int32) (hw : w_R_nextLine 35 p1 m K) : AW Z mX3_nextLine d k0 mc ms Q 0 [.ref 35, .int p1, .null, .null] [] (lay t ex o m) k cs ss := by
  unfold w_R_nextLine at hw
  refine AW.iconst (v := -1) (pc := 0) dX3_nextLine_0 (by decide) ?_
  refine AW.istore_n (L' := [.ref 35, .int p1, .int (-1 : Int32), .null]) (pc := 1) dX3_nextLine_1 rfl (by decide) rfl rfl ?_
  refine AW.iconst (v := 0) (pc := 2) dX3_nextLine_2 (by decide) ?_
  refine AW.istore_n (L' := [.ref 35, .int p1, .int (-1 : Int32), .int (0 : Int32)]) (pc := 3) dX3_nextLine_3 rfl (by decide) rfl rfl ?_
  refine l_R_nextLine_35_4 ht hd (by omega) (by omega) hQ ?_ 31 p1 (-1 : Int32) (0 : Int32) m hw
  intro y8 y9 y10 m11 hw
  refine AW.iload_n (pc := 57) dX3_nextLine_57 rfl rfl ?_
  exact AW.iret (pc := 58) dX3_nextLine_58 rfl rfl (by omega) (by omega) (hQ _ _ hw)
set_option maxRecDepth 100000 in
set_option maxHeartbeats 4000000 in
theorem c_R_nextLine_35 {d k t : Nat} {ex : Hp} {o : Nat → Int64} {K : Int32 → Mem → Prop} {m : Mem} {p1 : Int32} (ht : tok t) (hd : 3 ≤ d) (hw : w_R_nextLine 35 p1 m K) : AM mX3_nextLine d [.ref 35, .int p1] (lay t ex o m) k 0 0 (fun oc h' k' => k = k' ∧ ∃ (r : Int32) (m' : Mem), oc = .inl (some (.int r)) ∧ h' = lay t ex o m' ∧ K r m') :=
  AM.intro (μ := mX3_nextLine) (n := 2) (by decide) rfl rfl rfl (b_R_nextLine_35 ht hd (by omega) (by omega) (fun _ _ hK => ⟨rfl, _, _, rfl, rfl, hK⟩) p1 hw)
def w_R_copyFrom (r : Nat) (m : Mem) (K : Mem → Prop) : Prop :=
  ∀ m1 : Mem, m1 = va_up m (r + 1) (va_cpy (m 24) (m (r + 1)) 0 0 24) → ∀ m2 : Mem, m2 = va_up m1 (r + 2) (va_cpy (m1 25) (m1 (r + 2)) 0 0 24) → ∀ m3 : Mem, m3 = va_up m2 (r + 3) (va_cpy (m2 26) (m2 (r + 3)) 0 0 24) → ∀ m4 : Mem, m4 = va_up m3 (r + 4) (va_cpy (m3 27) (m3 (r + 4)) 0 0 24) → ∀ m5 : Mem, m5 = va_up m4 (r + 5) (va_cpy (m4 28) (m4 (r + 5)) 0 0 30) → ∀ m6 : Mem, m6 = va_up m5 (r + 6) (va_cpy (m5 29) (m5 (r + 6)) 0 0 30) → ∀ m7 : Mem, m7 = va_up m6 (r + 7) (va_cpy (m6 30) (m6 (r + 7)) 0 0 30) → ∀ m8 : Mem, m8 = va_up m7 (r + 8) (va_cpy (m7 31) (m7 (r + 8)) 0 0 30) → ∀ m9 : Mem, m9 = va_up m8 (r + 9) (va_cpy (m8 32) (m8 (r + 9)) 0 0 40) → ∀ m10 : Mem, m10 = va_up m9 (r + 10) (va_cpy (m9 33) (m9 (r + 10)) 0 0 40) → ∀ m11 : Mem, m11 = va_up m10 (r + 11) (va_cpy (m10 34) (m10 (r + 11)) 0 0 40) → ∀ m12 : Mem, m12 = up2 m11 r 12 (m11 23 12) → ∀ m13 : Mem, m13 = up2 m12 r 13 (m12 23 13) → ∀ m14 : Mem, m14 = up2 m13 r 14 (m13 23 14) → ∀ m15 : Mem, m15 = up2 m14 r 15 (m14 23 15) → ∀ m16 : Mem, m16 = up2 m15 r 16 (m15 23 16) → ∀ m17 : Mem, m17 = up2 m16 r 17 (m16 23 17) → K m17
set_option maxRecDepth 100000 in
set_option maxHeartbeats 4000000 in
theorem b_R_copyFrom_35 {Z : Gz} {d k0 mc ms cs ss k t : Nat} {Q : Po} {ex : Hp} {o : Nat → Int64} {K : Mem → Prop}  (ht : tok t) (hd : 2 ≤ d) (hcs : cs + 0 ≤ mc) (hss : ss + 0 ≤ ms) (hQ : ∀ (m : Mem), K m → Q (.inl none) (lay t ex o m) k) {m : Mem}  (hw : w_R_copyFrom 35  m K) : AW Z mX3_copyFrom d k0 mc ms Q 0 [.ref 35, .ref 23] [] (lay t ex o m) k cs ss := by
  unfold w_R_copyFrom at hw
  refine AW.aload_n (pc := 0) dX3_copyFrom_0 rfl rfl ?_
  refine LW.get (pc := 1) (f := 1) (ci := 3) (T := TX3) ht (by decide) rfl dX3_copyFrom_1 tw_553 rfl (by decide) rfl ?_
  refine AW.iconst (v := 0) (pc := 4) dX3_copyFrom_4 (by decide) ?_
  refine AW.aload_n (pc := 5) dX3_copyFrom_5 rfl rfl ?_
  refine LW.get (pc := 6) (f := 1) (ci := 3) (T := TX3) ht (by decide) rfl dX3_copyFrom_6 tw_553 rfl (by decide) rfl ?_
  refine AW.iconst (v := 0) (pc := 9) dX3_copyFrom_9 (by decide) ?_
  refine AW.bipush (v := 24) (pc := 10) dX3_copyFrom_10 (by decide) ?_
  have hw := hw _ rfl
  refine LW.copyi (pc := 12) ht (by decide) (by decide) rfl (fun _ => rfl) dX3_copyFrom_12 tw_198 tw_200 tw_199 tw_8 (by decide) (by decide) (by decide) (by decide) (by decide) (Nat.le_of_ble_eq_true rfl) ?_
  show AW _ _ _ _ _ _ _ 15 [.ref 35, .ref 23] [] (lay t ex o (va_up m 36 (va_cpy (m 24) (m 36) 0 0 24))) k _ _
  generalize va_up m 36 (va_cpy (m 24) (m 36) 0 0 24) = m1 at hw ⊢
  refine AW.aload_n (pc := 15) dX3_copyFrom_15 rfl rfl ?_
  refine LW.get (pc := 16) (f := 2) (ci := 3) (T := TX3) ht (by decide) rfl dX3_copyFrom_16 tw_555 rfl (by decide) rfl ?_
  refine AW.iconst (v := 0) (pc := 19) dX3_copyFrom_19 (by decide) ?_
  refine AW.aload_n (pc := 20) dX3_copyFrom_20 rfl rfl ?_
  refine LW.get (pc := 21) (f := 2) (ci := 3) (T := TX3) ht (by decide) rfl dX3_copyFrom_21 tw_555 rfl (by decide) rfl ?_
  refine AW.iconst (v := 0) (pc := 24) dX3_copyFrom_24 (by decide) ?_
  refine AW.bipush (v := 24) (pc := 25) dX3_copyFrom_25 (by decide) ?_
  have hw := hw _ rfl
  refine LW.copyi (pc := 27) ht (by decide) (by decide) rfl (fun _ => rfl) dX3_copyFrom_27 tw_198 tw_200 tw_199 tw_8 (by decide) (by decide) (by decide) (by decide) (by decide) (Nat.le_of_ble_eq_true rfl) ?_
  show AW _ _ _ _ _ _ _ 30 [.ref 35, .ref 23] [] (lay t ex o (va_up m1 37 (va_cpy (m1 25) (m1 37) 0 0 24))) k _ _
  generalize va_up m1 37 (va_cpy (m1 25) (m1 37) 0 0 24) = m2 at hw ⊢
  refine AW.aload_n (pc := 30) dX3_copyFrom_30 rfl rfl ?_
  refine LW.get (pc := 31) (f := 3) (ci := 3) (T := TX3) ht (by decide) rfl dX3_copyFrom_31 tw_557 rfl (by decide) rfl ?_
  refine AW.iconst (v := 0) (pc := 34) dX3_copyFrom_34 (by decide) ?_
  refine AW.aload_n (pc := 35) dX3_copyFrom_35 rfl rfl ?_
  refine LW.get (pc := 36) (f := 3) (ci := 3) (T := TX3) ht (by decide) rfl dX3_copyFrom_36 tw_557 rfl (by decide) rfl ?_
  refine AW.iconst (v := 0) (pc := 39) dX3_copyFrom_39 (by decide) ?_
  refine AW.bipush (v := 24) (pc := 40) dX3_copyFrom_40 (by decide) ?_
  have hw := hw _ rfl
  refine LW.copyi (pc := 42) ht (by decide) (by decide) rfl (fun _ => rfl) dX3_copyFrom_42 tw_198 tw_200 tw_199 tw_8 (by decide) (by decide) (by decide) (by decide) (by decide) (Nat.le_of_ble_eq_true rfl) ?_
  show AW _ _ _ _ _ _ _ 45 [.ref 35, .ref 23] [] (lay t ex o (va_up m2 38 (va_cpy (m2 26) (m2 38) 0 0 24))) k _ _
  generalize va_up m2 38 (va_cpy (m2 26) (m2 38) 0 0 24) = m3 at hw ⊢
  refine AW.aload_n (pc := 45) dX3_copyFrom_45 rfl rfl ?_
  refine LW.get (pc := 46) (f := 4) (ci := 3) (T := TX3) ht (by decide) rfl dX3_copyFrom_46 tw_559 rfl (by decide) rfl ?_
  refine AW.iconst (v := 0) (pc := 49) dX3_copyFrom_49 (by decide) ?_
  refine AW.aload_n (pc := 50) dX3_copyFrom_50 rfl rfl ?_
  refine LW.get (pc := 51) (f := 4) (ci := 3) (T := TX3) ht (by decide) rfl dX3_copyFrom_51 tw_559 rfl (by decide) rfl ?_
  refine AW.iconst (v := 0) (pc := 54) dX3_copyFrom_54 (by decide) ?_
  refine AW.bipush (v := 24) (pc := 55) dX3_copyFrom_55 (by decide) ?_
  have hw := hw _ rfl
  refine LW.copyi (pc := 57) ht (by decide) (by decide) rfl (fun _ => rfl) dX3_copyFrom_57 tw_198 tw_200 tw_199 tw_8 (by decide) (by decide) (by decide) (by decide) (by decide) (Nat.le_of_ble_eq_true rfl) ?_
  show AW _ _ _ _ _ _ _ 60 [.ref 35, .ref 23] [] (lay t ex o (va_up m3 39 (va_cpy (m3 27) (m3 39) 0 0 24))) k _ _
  generalize va_up m3 39 (va_cpy (m3 27) (m3 39) 0 0 24) = m4 at hw ⊢
  refine AW.aload_n (pc := 60) dX3_copyFrom_60 rfl rfl ?_
  refine LW.get (pc := 61) (f := 5) (ci := 3) (T := TX3) ht (by decide) rfl dX3_copyFrom_61 tw_561 rfl (by decide) rfl ?_
  refine AW.iconst (v := 0) (pc := 64) dX3_copyFrom_64 (by decide) ?_
  refine AW.aload_n (pc := 65) dX3_copyFrom_65 rfl rfl ?_
  refine LW.get (pc := 66) (f := 5) (ci := 3) (T := TX3) ht (by decide) rfl dX3_copyFrom_66 tw_561 rfl (by decide) rfl ?_
  refine AW.iconst (v := 0) (pc := 69) dX3_copyFrom_69 (by decide) ?_
  refine AW.bipush (v := 30) (pc := 70) dX3_copyFrom_70 (by decide) ?_
  have hw := hw _ rfl
  refine LW.copyi (pc := 72) ht (by decide) (by decide) rfl (fun _ => rfl) dX3_copyFrom_72 tw_198 tw_200 tw_199 tw_8 (by decide) (by decide) (by decide) (by decide) (by decide) (Nat.le_of_ble_eq_true rfl) ?_
  show AW _ _ _ _ _ _ _ 75 [.ref 35, .ref 23] [] (lay t ex o (va_up m4 40 (va_cpy (m4 28) (m4 40) 0 0 30))) k _ _
  generalize va_up m4 40 (va_cpy (m4 28) (m4 40) 0 0 30) = m5 at hw ⊢
  refine AW.aload_n (pc := 75) dX3_copyFrom_75 rfl rfl ?_
  refine LW.get (pc := 76) (f := 6) (ci := 3) (T := TX3) ht (by decide) rfl dX3_copyFrom_76 tw_563 rfl (by decide) rfl ?_
  refine AW.iconst (v := 0) (pc := 79) dX3_copyFrom_79 (by decide) ?_
  refine AW.aload_n (pc := 80) dX3_copyFrom_80 rfl rfl ?_
  refine LW.get (pc := 81) (f := 6) (ci := 3) (T := TX3) ht (by decide) rfl dX3_copyFrom_81 tw_563 rfl (by decide) rfl ?_
  refine AW.iconst (v := 0) (pc := 84) dX3_copyFrom_84 (by decide) ?_
  refine AW.bipush (v := 30) (pc := 85) dX3_copyFrom_85 (by decide) ?_
  have hw := hw _ rfl
  refine LW.copyi (pc := 87) ht (by decide) (by decide) rfl (fun _ => rfl) dX3_copyFrom_87 tw_198 tw_200 tw_199 tw_8 (by decide) (by decide) (by decide) (by decide) (by decide) (Nat.le_of_ble_eq_true rfl) ?_
  show AW _ _ _ _ _ _ _ 90 [.ref 35, .ref 23] [] (lay t ex o (va_up m5 41 (va_cpy (m5 29) (m5 41) 0 0 30))) k _ _
  generalize va_up m5 41 (va_cpy (m5 29) (m5 41) 0 0 30) = m6 at hw ⊢
  refine AW.aload_n (pc := 90) dX3_copyFrom_90 rfl rfl ?_
  refine LW.get (pc := 91) (f := 7) (ci := 3) (T := TX3) ht (by decide) rfl dX3_copyFrom_91 tw_564 rfl (by decide) rfl ?_
  refine AW.iconst (v := 0) (pc := 94) dX3_copyFrom_94 (by decide) ?_
  refine AW.aload_n (pc := 95) dX3_copyFrom_95 rfl rfl ?_
  refine LW.get (pc := 96) (f := 7) (ci := 3) (T := TX3) ht (by decide) rfl dX3_copyFrom_96 tw_564 rfl (by decide) rfl ?_
  refine AW.iconst (v := 0) (pc := 99) dX3_copyFrom_99 (by decide) ?_
  refine AW.bipush (v := 30) (pc := 100) dX3_copyFrom_100 (by decide) ?_
  have hw := hw _ rfl
  refine LW.copyi (pc := 102) ht (by decide) (by decide) rfl (fun _ => rfl) dX3_copyFrom_102 tw_198 tw_200 tw_199 tw_8 (by decide) (by decide) (by decide) (by decide) (by decide) (Nat.le_of_ble_eq_true rfl) ?_
  show AW _ _ _ _ _ _ _ 105 [.ref 35, .ref 23] [] (lay t ex o (va_up m6 42 (va_cpy (m6 30) (m6 42) 0 0 30))) k _ _
  generalize va_up m6 42 (va_cpy (m6 30) (m6 42) 0 0 30) = m7 at hw ⊢
  refine AW.aload_n (pc := 105) dX3_copyFrom_105 rfl rfl ?_
  refine LW.get (pc := 106) (f := 8) (ci := 3) (T := TX3) ht (by decide) rfl dX3_copyFrom_106 tw_565 rfl (by decide) rfl ?_
  refine AW.iconst (v := 0) (pc := 109) dX3_copyFrom_109 (by decide) ?_
  refine AW.aload_n (pc := 110) dX3_copyFrom_110 rfl rfl ?_
  refine LW.get (pc := 111) (f := 8) (ci := 3) (T := TX3) ht (by decide) rfl dX3_copyFrom_111 tw_565 rfl (by decide) rfl ?_
  refine AW.iconst (v := 0) (pc := 114) dX3_copyFrom_114 (by decide) ?_
  refine AW.bipush (v := 30) (pc := 115) dX3_copyFrom_115 (by decide) ?_
  have hw := hw _ rfl
  refine LW.copyi (pc := 117) ht (by decide) (by decide) rfl (fun _ => rfl) dX3_copyFrom_117 tw_198 tw_200 tw_199 tw_8 (by decide) (by decide) (by decide) (by decide) (by decide) (Nat.le_of_ble_eq_true rfl) ?_
  show AW _ _ _ _ _ _ _ 120 [.ref 35, .ref 23] [] (lay t ex o (va_up m7 43 (va_cpy (m7 31) (m7 43) 0 0 30))) k _ _
  generalize va_up m7 43 (va_cpy (m7 31) (m7 43) 0 0 30) = m8 at hw ⊢
  refine AW.aload_n (pc := 120) dX3_copyFrom_120 rfl rfl ?_
  refine LW.get (pc := 121) (f := 9) (ci := 3) (T := TX3) ht (by decide) rfl dX3_copyFrom_121 tw_566 rfl (by decide) rfl ?_
  refine AW.iconst (v := 0) (pc := 124) dX3_copyFrom_124 (by decide) ?_
  refine AW.aload_n (pc := 125) dX3_copyFrom_125 rfl rfl ?_
  refine LW.get (pc := 126) (f := 9) (ci := 3) (T := TX3) ht (by decide) rfl dX3_copyFrom_126 tw_566 rfl (by decide) rfl ?_
  refine AW.iconst (v := 0) (pc := 129) dX3_copyFrom_129 (by decide) ?_
  refine AW.bipush (v := 40) (pc := 130) dX3_copyFrom_130 (by decide) ?_
  have hw := hw _ rfl
  refine LW.copyi (pc := 132) ht (by decide) (by decide) rfl (fun _ => rfl) dX3_copyFrom_132 tw_198 tw_200 tw_199 tw_8 (by decide) (by decide) (by decide) (by decide) (by decide) (Nat.le_of_ble_eq_true rfl) ?_
  show AW _ _ _ _ _ _ _ 135 [.ref 35, .ref 23] [] (lay t ex o (va_up m8 44 (va_cpy (m8 32) (m8 44) 0 0 40))) k _ _
  generalize va_up m8 44 (va_cpy (m8 32) (m8 44) 0 0 40) = m9 at hw ⊢
  refine AW.aload_n (pc := 135) dX3_copyFrom_135 rfl rfl ?_
  refine LW.get (pc := 136) (f := 10) (ci := 3) (T := TX3) ht (by decide) rfl dX3_copyFrom_136 tw_568 rfl (by decide) rfl ?_
  refine AW.iconst (v := 0) (pc := 139) dX3_copyFrom_139 (by decide) ?_
  refine AW.aload_n (pc := 140) dX3_copyFrom_140 rfl rfl ?_
  refine LW.get (pc := 141) (f := 10) (ci := 3) (T := TX3) ht (by decide) rfl dX3_copyFrom_141 tw_568 rfl (by decide) rfl ?_
  refine AW.iconst (v := 0) (pc := 144) dX3_copyFrom_144 (by decide) ?_
  refine AW.bipush (v := 40) (pc := 145) dX3_copyFrom_145 (by decide) ?_
  have hw := hw _ rfl
  refine LW.copyi (pc := 147) ht (by decide) (by decide) rfl (fun _ => rfl) dX3_copyFrom_147 tw_198 tw_200 tw_199 tw_8 (by decide) (by decide) (by decide) (by decide) (by decide) (Nat.le_of_ble_eq_true rfl) ?_
  show AW _ _ _ _ _ _ _ 150 [.ref 35, .ref 23] [] (lay t ex o (va_up m9 45 (va_cpy (m9 33) (m9 45) 0 0 40))) k _ _
  generalize va_up m9 45 (va_cpy (m9 33) (m9 45) 0 0 40) = m10 at hw ⊢
  refine AW.aload_n (pc := 150) dX3_copyFrom_150 rfl rfl ?_
  refine LW.get (pc := 151) (f := 11) (ci := 3) (T := TX3) ht (by decide) rfl dX3_copyFrom_151 tw_570 rfl (by decide) rfl ?_
  refine AW.iconst (v := 0) (pc := 154) dX3_copyFrom_154 (by decide) ?_
  refine AW.aload_n (pc := 155) dX3_copyFrom_155 rfl rfl ?_
  refine LW.get (pc := 156) (f := 11) (ci := 3) (T := TX3) ht (by decide) rfl dX3_copyFrom_156 tw_570 rfl (by decide) rfl ?_
  refine AW.iconst (v := 0) (pc := 159) dX3_copyFrom_159 (by decide) ?_
  refine AW.bipush (v := 40) (pc := 160) dX3_copyFrom_160 (by decide) ?_
  have hw := hw _ rfl
  refine LW.copyi (pc := 162) ht (by decide) (by decide) rfl (fun _ => rfl) dX3_copyFrom_162 tw_198 tw_200 tw_199 tw_8 (by decide) (by decide) (by decide) (by decide) (by decide) (Nat.le_of_ble_eq_true rfl) ?_
  show AW _ _ _ _ _ _ _ 165 [.ref 35, .ref 23] [] (lay t ex o (va_up m10 46 (va_cpy (m10 34) (m10 46) 0 0 40))) k _ _
  generalize va_up m10 46 (va_cpy (m10 34) (m10 46) 0 0 40) = m11 at hw ⊢
  refine AW.aload_n (pc := 165) dX3_copyFrom_165 rfl rfl ?_
  refine AW.aload_n (pc := 166) dX3_copyFrom_166 rfl rfl ?_
  refine LW.get (pc := 167) (f := 12) (ci := 3) (T := TX3) ht (by decide) rfl dX3_copyFrom_167 tw_572 rfl (by decide) rfl ?_
  have hw := hw _ rfl
  refine LW.put (pc := 170) (f := 12) (ci := 3) (T := TX3) ht (by decide) rfl sp_35_12 dX3_copyFrom_170 tw_572 rfl (by decide) (Nat.le_of_ble_eq_true rfl) rfl ⟨rfl, rfl⟩ ?_
  generalize up2 m11 35 12 (m11 23 12) = m12 at hw ⊢
  refine AW.aload_n (pc := 173) dX3_copyFrom_173 rfl rfl ?_
  refine AW.aload_n (pc := 174) dX3_copyFrom_174 rfl rfl ?_
  refine LW.get (pc := 175) (f := 13) (ci := 3) (T := TX3) ht (by decide) rfl dX3_copyFrom_175 tw_574 rfl (by decide) rfl ?_
  have hw := hw _ rfl
  refine LW.put (pc := 178) (f := 13) (ci := 3) (T := TX3) ht (by decide) rfl sp_35_13 dX3_copyFrom_178 tw_574 rfl (by decide) (Nat.le_of_ble_eq_true rfl) rfl ⟨rfl, rfl⟩ ?_
  generalize up2 m12 35 13 (m12 23 13) = m13 at hw ⊢
  refine AW.aload_n (pc := 181) dX3_copyFrom_181 rfl rfl ?_
  refine AW.aload_n (pc := 182) dX3_copyFrom_182 rfl rfl ?_
  refine LW.get (pc := 183) (f := 14) (ci := 3) (T := TX3) ht (by decide) rfl dX3_copyFrom_183 tw_576 rfl (by decide) rfl ?_
  have hw := hw _ rfl
  refine LW.put (pc := 186) (f := 14) (ci := 3) (T := TX3) ht (by decide) rfl sp_35_14 dX3_copyFrom_186 tw_576 rfl (by decide) (Nat.le_of_ble_eq_true rfl) rfl ⟨rfl, rfl⟩ ?_
  generalize up2 m13 35 14 (m13 23 14) = m14 at hw ⊢
  refine AW.aload_n (pc := 189) dX3_copyFrom_189 rfl rfl ?_
  refine AW.aload_n (pc := 190) dX3_copyFrom_190 rfl rfl ?_
  refine LW.get (pc := 191) (f := 15) (ci := 3) (T := TX3) ht (by decide) rfl dX3_copyFrom_191 tw_577 rfl (by decide) rfl ?_
  have hw := hw _ rfl
  refine LW.put (pc := 194) (f := 15) (ci := 3) (T := TX3) ht (by decide) rfl sp_35_15 dX3_copyFrom_194 tw_577 rfl (by decide) (Nat.le_of_ble_eq_true rfl) rfl ⟨rfl, rfl⟩ ?_
  generalize up2 m14 35 15 (m14 23 15) = m15 at hw ⊢
  refine AW.aload_n (pc := 197) dX3_copyFrom_197 rfl rfl ?_
  refine AW.aload_n (pc := 198) dX3_copyFrom_198 rfl rfl ?_
  refine LW.get (pc := 199) (f := 16) (ci := 3) (T := TX3) ht (by decide) rfl dX3_copyFrom_199 tw_579 rfl (by decide) rfl ?_
  have hw := hw _ rfl
  refine LW.put (pc := 202) (f := 16) (ci := 3) (T := TX3) ht (by decide) rfl sp_35_16 dX3_copyFrom_202 tw_579 rfl (by decide) (Nat.le_of_ble_eq_true rfl) rfl ⟨rfl, rfl⟩ ?_
  generalize up2 m15 35 16 (m15 23 16) = m16 at hw ⊢
  refine AW.aload_n (pc := 205) dX3_copyFrom_205 rfl rfl ?_
  refine AW.aload_n (pc := 206) dX3_copyFrom_206 rfl rfl ?_
  refine LW.get (pc := 207) (f := 17) (ci := 3) (T := TX3) ht (by decide) rfl dX3_copyFrom_207 tw_581 rfl (by decide) rfl ?_
  have hw := hw _ rfl
  refine LW.put (pc := 210) (f := 17) (ci := 3) (T := TX3) ht (by decide) rfl sp_35_17 dX3_copyFrom_210 tw_581 rfl (by decide) (Nat.le_of_ble_eq_true rfl) rfl ⟨rfl, rfl⟩ ?_
  generalize up2 m16 35 17 (m16 23 17) = m17 at hw ⊢
  exact AW.vret (pc := 213) dX3_copyFrom_213 rfl (by omega) (by omega) (hQ _ hw)
set_option maxRecDepth 100000 in
set_option maxHeartbeats 4000000 in
theorem c_R_copyFrom_35 {d k t : Nat} {ex : Hp} {o : Nat → Int64} {K : Mem → Prop} {m : Mem}  (ht : tok t) (hd : 2 ≤ d) (hw : w_R_copyFrom 35  m K) : AM mX3_copyFrom d [.ref 35, .ref 23] (lay t ex o m) k 0 0 (fun oc h' k' => k = k' ∧ ∃ (m' : Mem), oc = .inl none ∧ h' = lay t ex o m' ∧ K m') :=
  AM.intro (μ := mX3_copyFrom) (n := 0) (by decide) rfl rfl rfl (b_R_copyFrom_35 ht hd (by omega) (by omega) (fun _ hK => ⟨rfl, _, rfl, rfl, hK⟩)  hw)
def w_R_linesPending_4 : Nat → Nat → Int32 → Int32 → Mem → (Int32 → Int32 → Mem → Prop) → (Int32 → Mem → Prop) → Prop
  | 0, _, _, _, _, _, _ => False
  | n + 1, r, x1, x2, m, E34, K => (((m 2 11) ≤ x2 → E34 x1 x2 m) ∧ (¬ ((m 2 11) ≤ x2) → vp_in x2 30 ∧ (((m (r + 5) (x2).toNatClampNeg) = (-1 : Int32) → w_R_linesPending_4 n r x1 (x2 + 1) m E34 K) ∧ (¬ ((m (r + 5) (x2).toNatClampNeg) = (-1 : Int32)) → w_R_linesPending_4 n r (x1 + 1) (x2 + 1) m E34 K))))
def w_R_linesPending (r : Nat) (m : Mem) (K : Int32 → Mem → Prop) : Prop :=
  w_R_linesPending_4 31 r (0 : Int32) (0 : Int32) m (fun y3 y4 m5 => K y3 m5) K
set_option maxRecDepth 100000 in
set_option maxHeartbeats 4000000 in
theorem l_R_linesPending_23_4 {Z : Gz} {d k0 mc ms cs ss k t : Nat} {Q : Po} {ex : Hp} {o : Nat → Int64} {K : Int32 → Mem → Prop}  (ht : tok t) (hd : 2 ≤ d) (hcs : cs ≤ mc) (hss : ss ≤ ms) (hQ : ∀ (r : Int32) (m : Mem), K r m → Q (.inl (some (.int r))) (lay t ex o m) k) {E34 : Int32 → Int32 → Mem → Prop} (hE34 : ∀ (x1 : Int32) (x2 : Int32) (m : Mem), E34 x1 x2 m → AW Z mX3_linesPending d k0 mc ms Q 34 [.ref 23, .int x1, .int x2] [] (lay t ex o m) k cs ss) : ∀ (n : Nat) (x1 : Int32) (x2 : Int32) (m : Mem),  w_R_linesPending_4 n 23 x1 x2 m E34 K → AW Z mX3_linesPending d k0 mc ms Q 4 [.ref 23, .int x1, .int x2] [] (lay t ex o m) k cs ss := by
  intro n
  induction n with
  | zero =>
    intros; rename_i hw; exact absurd hw (by simp [w_R_linesPending_4])
  | succ n ih =>
    intro x1 x2 m hw
    unfold w_R_linesPending_4 at hw
    refine AW.iload_n (pc := 4) dX3_linesPending_4 rfl rfl ?_
    refine AW.aload_n (pc := 5) dX3_linesPending_5 rfl rfl ?_
    refine LW.get (pc := 6) (f := 0) (ci := 3) (T := TX3) ht (by decide) rfl dX3_linesPending_6 tw_552 rfl (by decide) rfl ?_
    refine LW.getN (pc := 9) (f := 11) (ci := 1) (T := TX1) ht (by decide) rfl dX3_linesPending_9 tw_474 rfl (by decide) rfl ?_
    refine AW.icmp_ge (pc := 12) (tgt := 34) dX3_linesPending_12 (by decide) (fun c1 => ?_) (fun c1 => ?_)
    · have hw := hw.1 c1
      exact hE34 x1 x2 m hw
    · have hw := hw.2 c1
      refine AW.aload_n (pc := 15) dX3_linesPending_15 rfl rfl ?_
      refine LW.get (pc := 16) (f := 5) (ci := 3) (T := TX3) ht (by decide) rfl dX3_linesPending_16 tw_561 rfl (by decide) rfl ?_
      refine AW.iload_n (pc := 19) dX3_linesPending_19 rfl rfl ?_
      obtain ⟨hin, hw⟩ := hw
      refine LW.iald (pc := 20) (j := x2.toNatClampNeg) ht (by decide) rfl dX3_linesPending_20 hin rfl ?_
      refine AW.iconst (v := -1) (pc := 21) dX3_linesPending_21 (by decide) ?_
      refine AW.icmp_eq (pc := 22) (tgt := 28) dX3_linesPending_22 (by decide) (fun c2 => ?_) (fun c2 => ?_)
      · have hw := hw.1 c2
        refine AW.iinc (v := (x2 + 1)) (L' := [.ref 23, .int x1, .int (x2 + 1)]) (pc := 28) dX3_linesPending_28 rfl rfl (by decide) rfl rfl ?_
        refine AW.goto (pc := 31) (tgt := 4) dX3_linesPending_31 (by decide) ?_
        exact ih x1 (x2 + 1) m hw
      · have hw := hw.2 c2
        refine AW.iinc (v := (x1 + 1)) (L' := [.ref 23, .int (x1 + 1), .int x2]) (pc := 25) dX3_linesPending_25 rfl rfl (by decide) rfl rfl ?_
        refine AW.iinc (v := (x2 + 1)) (L' := [.ref 23, .int (x1 + 1), .int (x2 + 1)]) (pc := 28) dX3_linesPending_28 rfl rfl (by decide) rfl rfl ?_
        refine AW.goto (pc := 31) (tgt := 4) dX3_linesPending_31 (by decide) ?_
        exact ih (x1 + 1) (x2 + 1) m hw
set_option maxRecDepth 100000 in
set_option maxHeartbeats 4000000 in
theorem b_R_linesPending_23 {Z : Gz} {d k0 mc ms cs ss k t : Nat} {Q : Po} {ex : Hp} {o : Nat → Int64} {K : Int32 → Mem → Prop}  (ht : tok t) (hd : 2 ≤ d) (hcs : cs + 0 ≤ mc) (hss : ss + 0 ≤ ms) (hQ : ∀ (r : Int32) (m : Mem), K r m → Q (.inl (some (.int r))) (lay t ex o m) k) {m : Mem}  (hw : w_R_linesPending 23  m K) : AW Z mX3_linesPending d k0 mc ms Q 0 [.ref 23, .null, .null] [] (lay t ex o m) k cs ss := by
  unfold w_R_linesPending at hw
  refine AW.iconst (v := 0) (pc := 0) dX3_linesPending_0 (by decide) ?_
  refine AW.istore_n (L' := [.ref 23, .int (0 : Int32), .null]) (pc := 1) dX3_linesPending_1 rfl (by decide) rfl rfl ?_
  refine AW.iconst (v := 0) (pc := 2) dX3_linesPending_2 (by decide) ?_
  refine AW.istore_n (L' := [.ref 23, .int (0 : Int32), .int (0 : Int32)]) (pc := 3) dX3_linesPending_3 rfl (by decide) rfl rfl ?_
  refine l_R_linesPending_23_4 ht hd (by omega) (by omega) hQ ?_ 31 (0 : Int32) (0 : Int32) m hw
  intro y3 y4 m5 hw
  refine AW.iload_n (pc := 34) dX3_linesPending_34 rfl rfl ?_
  exact AW.iret (pc := 35) dX3_linesPending_35 rfl rfl (by omega) (by omega) (hQ _ _ hw)
set_option maxRecDepth 100000 in
set_option maxHeartbeats 4000000 in
theorem c_R_linesPending_23 {d k t : Nat} {ex : Hp} {o : Nat → Int64} {K : Int32 → Mem → Prop} {m : Mem}  (ht : tok t) (hd : 2 ≤ d) (hw : w_R_linesPending 23  m K) : AM mX3_linesPending d [.ref 23] (lay t ex o m) k 0 0 (fun oc h' k' => k = k' ∧ ∃ (r : Int32) (m' : Mem), oc = .inl (some (.int r)) ∧ h' = lay t ex o m' ∧ K r m') :=
  AM.intro (μ := mX3_linesPending) (n := 2) (by decide) rfl rfl rfl (b_R_linesPending_23 ht hd (by omega) (by omega) (fun _ _ hK => ⟨rfl, _, _, rfl, rfl, hK⟩)  hw)
set_option maxRecDepth 100000 in
set_option maxHeartbeats 4000000 in
theorem l_R_linesPending_35_4 {Z : Gz} {d k0 mc ms cs ss k t : Nat} {Q : Po} {ex : Hp} {o : Nat → Int64} {K : Int32 → Mem → Prop}  (ht : tok t) (hd : 2 ≤ d) (hcs : cs ≤ mc) (hss : ss ≤ ms) (hQ : ∀ (r : Int32) (m : Mem), K r m → Q (.inl (some (.int r))) (lay t ex o m) k) {E34 : Int32 → Int32 → Mem → Prop} (hE34 : ∀ (x1 : Int32) (x2 : Int32) (m : Mem), E34 x1 x2 m → AW Z mX3_linesPending d k0 mc ms Q 34 [.ref 35, .int x1, .int x2] [] (lay t ex o m) k cs ss) : ∀ (n : Nat) (x1 : Int32) (x2 : Int32) (m : Mem),  w_R_linesPending_4 n 35 x1 x2 m E34 K → AW Z mX3_linesPending d k0 mc ms Q 4 [.ref 35, .int x1, .int x2] [] (lay t ex o m) k cs ss := by
  intro n
  induction n with
  | zero =>
    intros; rename_i hw; exact absurd hw (by simp [w_R_linesPending_4])
  | succ n ih =>
    intro x1 x2 m hw
    unfold w_R_linesPending_4 at hw
    refine AW.iload_n (pc := 4) dX3_linesPending_4 rfl rfl ?_
    refine AW.aload_n (pc := 5) dX3_linesPending_5 rfl rfl ?_
    refine LW.get (pc := 6) (f := 0) (ci := 3) (T := TX3) ht (by decide) rfl dX3_linesPending_6 tw_552 rfl (by decide) rfl ?_
    refine LW.getN (pc := 9) (f := 11) (ci := 1) (T := TX1) ht (by decide) rfl dX3_linesPending_9 tw_474 rfl (by decide) rfl ?_
    refine AW.icmp_ge (pc := 12) (tgt := 34) dX3_linesPending_12 (by decide) (fun c1 => ?_) (fun c1 => ?_)
    · have hw := hw.1 c1
      exact hE34 x1 x2 m hw
    · have hw := hw.2 c1
      refine AW.aload_n (pc := 15) dX3_linesPending_15 rfl rfl ?_
      refine LW.get (pc := 16) (f := 5) (ci := 3) (T := TX3) ht (by decide) rfl dX3_linesPending_16 tw_561 rfl (by decide) rfl ?_
      refine AW.iload_n (pc := 19) dX3_linesPending_19 rfl rfl ?_
      obtain ⟨hin, hw⟩ := hw
      refine LW.iald (pc := 20) (j := x2.toNatClampNeg) ht (by decide) rfl dX3_linesPending_20 hin rfl ?_
      refine AW.iconst (v := -1) (pc := 21) dX3_linesPending_21 (by decide) ?_
      refine AW.icmp_eq (pc := 22) (tgt := 28) dX3_linesPending_22 (by decide) (fun c2 => ?_) (fun c2 => ?_)
      · have hw := hw.1 c2
        refine AW.iinc (v := (x2 + 1)) (L' := [.ref 35, .int x1, .int (x2 + 1)]) (pc := 28) dX3_linesPending_28 rfl rfl (by decide) rfl rfl ?_
        refine AW.goto (pc := 31) (tgt := 4) dX3_linesPending_31 (by decide) ?_
        exact ih x1 (x2 + 1) m hw
      · have hw := hw.2 c2
        refine AW.iinc (v := (x1 + 1)) (L' := [.ref 35, .int (x1 + 1), .int x2]) (pc := 25) dX3_linesPending_25 rfl rfl (by decide) rfl rfl ?_
        refine AW.iinc (v := (x2 + 1)) (L' := [.ref 35, .int (x1 + 1), .int (x2 + 1)]) (pc := 28) dX3_linesPending_28 rfl rfl (by decide) rfl rfl ?_
        refine AW.goto (pc := 31) (tgt := 4) dX3_linesPending_31 (by decide) ?_
        exact ih (x1 + 1) (x2 + 1) m hw
set_option maxRecDepth 100000 in
set_option maxHeartbeats 4000000 in
theorem b_R_linesPending_35 {Z : Gz} {d k0 mc ms cs ss k t : Nat} {Q : Po} {ex : Hp} {o : Nat → Int64} {K : Int32 → Mem → Prop}  (ht : tok t) (hd : 2 ≤ d) (hcs : cs + 0 ≤ mc) (hss : ss + 0 ≤ ms) (hQ : ∀ (r : Int32) (m : Mem), K r m → Q (.inl (some (.int r))) (lay t ex o m) k) {m : Mem}  (hw : w_R_linesPending 35  m K) : AW Z mX3_linesPending d k0 mc ms Q 0 [.ref 35, .null, .null] [] (lay t ex o m) k cs ss := by
  unfold w_R_linesPending at hw
  refine AW.iconst (v := 0) (pc := 0) dX3_linesPending_0 (by decide) ?_
  refine AW.istore_n (L' := [.ref 35, .int (0 : Int32), .null]) (pc := 1) dX3_linesPending_1 rfl (by decide) rfl rfl ?_
  refine AW.iconst (v := 0) (pc := 2) dX3_linesPending_2 (by decide) ?_
  refine AW.istore_n (L' := [.ref 35, .int (0 : Int32), .int (0 : Int32)]) (pc := 3) dX3_linesPending_3 rfl (by decide) rfl rfl ?_
  refine l_R_linesPending_35_4 ht hd (by omega) (by omega) hQ ?_ 31 (0 : Int32) (0 : Int32) m hw
  intro y3 y4 m5 hw
  refine AW.iload_n (pc := 34) dX3_linesPending_34 rfl rfl ?_
  exact AW.iret (pc := 35) dX3_linesPending_35 rfl rfl (by omega) (by omega) (hQ _ _ hw)
set_option maxRecDepth 100000 in
set_option maxHeartbeats 4000000 in
theorem c_R_linesPending_35 {d k t : Nat} {ex : Hp} {o : Nat → Int64} {K : Int32 → Mem → Prop} {m : Mem}  (ht : tok t) (hd : 2 ≤ d) (hw : w_R_linesPending 35  m K) : AM mX3_linesPending d [.ref 35] (lay t ex o m) k 0 0 (fun oc h' k' => k = k' ∧ ∃ (r : Int32) (m' : Mem), oc = .inl (some (.int r)) ∧ h' = lay t ex o m' ∧ K r m') :=
  AM.intro (μ := mX3_linesPending) (n := 2) (by decide) rfl rfl rfl (b_R_linesPending_35 ht hd (by omega) (by omega) (fun _ _ hK => ⟨rfl, _, _, rfl, rfl, hK⟩)  hw)
def w_R_nextTime (r : Nat) (m : Mem) (K : Int32 → Mem → Prop) : Prop :=
  w_R_nextLine r (2147483647 : Int32) m (fun r2 m1 => ((¬ (r2 = (-1 : Int32)) → vp_in r2 30 ∧ K (m1 (r + 6) (r2).toNatClampNeg) m1) ∧ (r2 = (-1 : Int32) → K (-1 : Int32) m1)))
set_option maxRecDepth 100000 in
set_option maxHeartbeats 4000000 in
theorem b_R_nextTime_23 {Z : Gz} {d k0 mc ms cs ss k t : Nat} {Q : Po} {ex : Hp} {o : Nat → Int64} {K : Int32 → Mem → Prop}  (ht : tok t) (hd : 4 ≤ d) (hcs : cs + 0 ≤ mc) (hss : ss + 0 ≤ ms) (hQ : ∀ (r : Int32) (m : Mem), K r m → Q (.inl (some (.int r))) (lay t ex o m) k) {m : Mem}  (hw : w_R_nextTime 23  m K) : AW Z mX3_nextTime d k0 mc ms Q 0 [.ref 23, .null] [] (lay t ex o m) k cs ss := by
  unfold w_R_nextTime at hw
  refine AW.aload_n (pc := 0) dX3_nextTime_0 rfl rfl ?_
  refine AW.ldc (pc := 1) dX3_nextTime_1 tw_285 ?_
  refine AW.callV (pc := 3) (S' := []) dX3_nextTime_3 (c_R_nextLine_23 (d := d - 1) ht (by omega) hw) ok_X3_nextLine tw_267 ts_13 tw_265 (fix_pos (by decide)) (lay_at ht (by decide)) (show aw_cl[3]? = some _ from rfl) rfl rfl (by omega) rfl (Nat.le_of_ble_eq_true rfl) (by omega) (by omega) ?_ (fun E h' k' hq => by obtain ⟨rfl, r2, m1, hv, -⟩ := hq; cases hv)
  intro v h' k' hq
  obtain ⟨rfl, r2, m1, hv, rfl, hw⟩ := hq
  cases hv
  show AW _ _ _ _ _ _ _ 6 [.ref 23, .null] [.int r2] (lay t ex o m1) k _ _
  refine AW.istore_n (L' := [.ref 23, .int r2]) (pc := 6) dX3_nextTime_6 rfl (by decide) rfl rfl ?_
  refine AW.iload_n (pc := 7) dX3_nextTime_7 rfl rfl ?_
  refine AW.iconst (v := -1) (pc := 8) dX3_nextTime_8 (by decide) ?_
  refine AW.icmp_ne (pc := 9) (tgt := 16) dX3_nextTime_9 (by decide) (fun c3 => ?_) (fun c3 => ?_)
  · have hw := hw.1 c3
    refine AW.aload_n (pc := 16) dX3_nextTime_16 rfl rfl ?_
    refine LW.get (pc := 17) (f := 6) (ci := 3) (T := TX3) ht (by decide) rfl dX3_nextTime_17 tw_563 rfl (by decide) rfl ?_
    refine AW.iload_n (pc := 20) dX3_nextTime_20 rfl rfl ?_
    obtain ⟨hin, hw⟩ := hw
    refine LW.iald (pc := 21) (j := r2.toNatClampNeg) ht (by decide) rfl dX3_nextTime_21 hin rfl ?_
    exact AW.iret (pc := 22) dX3_nextTime_22 rfl rfl (by omega) (by omega) (hQ _ _ hw)
  · have hw := hw.2 c3
    refine AW.iconst (v := -1) (pc := 12) dX3_nextTime_12 (by decide) ?_
    refine AW.goto (pc := 13) (tgt := 22) dX3_nextTime_13 (by decide) ?_
    exact AW.iret (pc := 22) dX3_nextTime_22 rfl rfl (by omega) (by omega) (hQ _ _ hw)
set_option maxRecDepth 100000 in
set_option maxHeartbeats 4000000 in
theorem c_R_nextTime_23 {d k t : Nat} {ex : Hp} {o : Nat → Int64} {K : Int32 → Mem → Prop} {m : Mem}  (ht : tok t) (hd : 4 ≤ d) (hw : w_R_nextTime 23  m K) : AM mX3_nextTime d [.ref 23] (lay t ex o m) k 0 0 (fun oc h' k' => k = k' ∧ ∃ (r : Int32) (m' : Mem), oc = .inl (some (.int r)) ∧ h' = lay t ex o m' ∧ K r m') :=
  AM.intro (μ := mX3_nextTime) (n := 1) (by decide) rfl rfl rfl (b_R_nextTime_23 ht hd (by omega) (by omega) (fun _ _ hK => ⟨rfl, _, _, rfl, rfl, hK⟩)  hw)
set_option maxRecDepth 100000 in
set_option maxHeartbeats 4000000 in
theorem b_R_nextTime_35 {Z : Gz} {d k0 mc ms cs ss k t : Nat} {Q : Po} {ex : Hp} {o : Nat → Int64} {K : Int32 → Mem → Prop}  (ht : tok t) (hd : 4 ≤ d) (hcs : cs + 0 ≤ mc) (hss : ss + 0 ≤ ms) (hQ : ∀ (r : Int32) (m : Mem), K r m → Q (.inl (some (.int r))) (lay t ex o m) k) {m : Mem}  (hw : w_R_nextTime 35  m K) : AW Z mX3_nextTime d k0 mc ms Q 0 [.ref 35, .null] [] (lay t ex o m) k cs ss := by
  unfold w_R_nextTime at hw
  refine AW.aload_n (pc := 0) dX3_nextTime_0 rfl rfl ?_
  refine AW.ldc (pc := 1) dX3_nextTime_1 tw_285 ?_
  refine AW.callV (pc := 3) (S' := []) dX3_nextTime_3 (c_R_nextLine_35 (d := d - 1) ht (by omega) hw) ok_X3_nextLine tw_267 ts_13 tw_265 (fix_pos (by decide)) (lay_at ht (by decide)) (show aw_cl[3]? = some _ from rfl) rfl rfl (by omega) rfl (Nat.le_of_ble_eq_true rfl) (by omega) (by omega) ?_ (fun E h' k' hq => by obtain ⟨rfl, r2, m1, hv, -⟩ := hq; cases hv)
  intro v h' k' hq
  obtain ⟨rfl, r2, m1, hv, rfl, hw⟩ := hq
  cases hv
  show AW _ _ _ _ _ _ _ 6 [.ref 35, .null] [.int r2] (lay t ex o m1) k _ _
  refine AW.istore_n (L' := [.ref 35, .int r2]) (pc := 6) dX3_nextTime_6 rfl (by decide) rfl rfl ?_
  refine AW.iload_n (pc := 7) dX3_nextTime_7 rfl rfl ?_
  refine AW.iconst (v := -1) (pc := 8) dX3_nextTime_8 (by decide) ?_
  refine AW.icmp_ne (pc := 9) (tgt := 16) dX3_nextTime_9 (by decide) (fun c3 => ?_) (fun c3 => ?_)
  · have hw := hw.1 c3
    refine AW.aload_n (pc := 16) dX3_nextTime_16 rfl rfl ?_
    refine LW.get (pc := 17) (f := 6) (ci := 3) (T := TX3) ht (by decide) rfl dX3_nextTime_17 tw_563 rfl (by decide) rfl ?_
    refine AW.iload_n (pc := 20) dX3_nextTime_20 rfl rfl ?_
    obtain ⟨hin, hw⟩ := hw
    refine LW.iald (pc := 21) (j := r2.toNatClampNeg) ht (by decide) rfl dX3_nextTime_21 hin rfl ?_
    exact AW.iret (pc := 22) dX3_nextTime_22 rfl rfl (by omega) (by omega) (hQ _ _ hw)
  · have hw := hw.2 c3
    refine AW.iconst (v := -1) (pc := 12) dX3_nextTime_12 (by decide) ?_
    refine AW.goto (pc := 13) (tgt := 22) dX3_nextTime_13 (by decide) ?_
    exact AW.iret (pc := 22) dX3_nextTime_22 rfl rfl (by omega) (by omega) (hQ _ _ hw)
set_option maxRecDepth 100000 in
set_option maxHeartbeats 4000000 in
theorem c_R_nextTime_35 {d k t : Nat} {ex : Hp} {o : Nat → Int64} {K : Int32 → Mem → Prop} {m : Mem}  (ht : tok t) (hd : 4 ≤ d) (hw : w_R_nextTime 35  m K) : AM mX3_nextTime d [.ref 35] (lay t ex o m) k 0 0 (fun oc h' k' => k = k' ∧ ∃ (r : Int32) (m' : Mem), oc = .inl (some (.int r)) ∧ h' = lay t ex o m' ∧ K r m') :=
  AM.intro (μ := mX3_nextTime) (n := 1) (by decide) rfl rfl rfl (b_R_nextTime_35 ht hd (by omega) (by omega) (fun _ _ hK => ⟨rfl, _, _, rfl, rfl, hK⟩)  hw)
