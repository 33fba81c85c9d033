/-! printed by wip/tools/gen.py: X0_arrivalOf, X0_arrivalBy, X0_greatest, X0_latestDriven, X0_reckon, X0_wireBehind -/
abbrev mX0_arrivalOf : Mt := (yX0_arrivalOf, cX0_arrivalOf, 2, (some .int), [])
set_option maxRecDepth 20000 in
theorem ok_X0_arrivalOf : aw_mok mX0_arrivalOf 1 := ⟨rfl, tw_133, tw_6, ⟨by decide, by decide⟩, by decide +kernel, by decide⟩
abbrev mX0_arrivalBy : Mt := (yX0_arrivalBy, cX0_arrivalBy, 8, (some .int), [])
set_option maxRecDepth 20000 in
theorem ok_X0_arrivalBy : aw_mok mX0_arrivalBy 4 := ⟨rfl, tw_364, tw_6, ⟨by decide, by decide⟩, by decide +kernel, by decide⟩
abbrev mX0_greatest : Mt := (yX0_greatest, cX0_greatest, 3, (some .int), [])
set_option maxRecDepth 20000 in
theorem ok_X0_greatest : aw_mok mX0_greatest 0 := ⟨rfl, tw_104, tw_6, ⟨by decide, by decide⟩, by decide +kernel, by decide⟩
abbrev mX0_latestDriven : Mt := (yX0_latestDriven, cX0_latestDriven, 5, (some .int), [])
set_option maxRecDepth 20000 in
theorem ok_X0_latestDriven : aw_mok mX0_latestDriven 1 := ⟨rfl, tw_115, tw_6, ⟨by decide, by decide⟩, by decide +kernel, by decide⟩
abbrev mX0_reckon : Mt := (yX0_reckon, cX0_reckon, 10, none, [])
set_option maxRecDepth 20000 in
theorem ok_X0_reckon : aw_mok mX0_reckon 4 := ⟨rfl, tw_359, tw_6, ⟨by decide, by decide⟩, by decide +kernel, by decide⟩
abbrev mX0_wireBehind : Mt := (yX0_wireBehind, cX0_wireBehind, 5, (some .int), [])
set_option maxRecDepth 20000 in
theorem ok_X0_wireBehind : aw_mok mX0_wireBehind 2 := ⟨rfl, tw_119, tw_6, ⟨by decide, by decide⟩, by decide +kernel, by decide⟩
def w_A_arrivalOf (r : Nat) (p1 : Int32) (m : Mem) (K : Int32 → Mem → Prop) : Prop :=
  w_N_isWire p1 m (fun r2 m1 => ((r2 = 0 → K (0 : Int32) m1) ∧ (¬ (r2 = 0) → vp_in p1 24 ∧ K (m1 (r + 1) (p1).toNatClampNeg) m1)))
set_option maxRecDepth 100000 in
set_option maxHeartbeats 4000000 in
theorem b_A_arrivalOf_19 {Z : Gz} {d k0 mc ms cs ss k t : Nat} {Q : Po} {ex : Hp} {o : Nat → Int64} {K : Int32 → Mem → Prop}  (ht : tok t) (hd : 3 ≤ d) (hcs : cs + 0 ≤ mc) (hss : ss + 0 ≤ ms) (hQ : ∀ (r : Int32) (m : Mem), K r m → Q (.inl (some (.int r))) (lay t ex o m) k) {m : Mem} (p1 : Int32) (hw : w_A_arrivalOf 19 p1 m K) : AW Z mX0_arrivalOf d k0 mc ms Q 0 [.ref 19, .int p1] [] (lay t ex o m) k cs ss := by
  unfold w_A_arrivalOf at hw
  refine AW.iload_n (pc := 0) dX0_arrivalOf_0 rfl rfl ?_
  refine AW.callSN (pc := 1) (S' := []) dX0_arrivalOf_1 (c_N_isWire (d := d - 1) ht (by omega) hw) ok_X4_isWire tw_25 tw_134 rfl (by omega) rfl (Nat.le_of_ble_eq_true rfl) (by omega) (by omega) (fun E h' k' hq => by obtain ⟨rfl, r2, m1, hv, -⟩ := hq; cases hv) ?_
  intro v h' k' hq
  obtain ⟨rfl, r2, m1, hv, rfl, hw⟩ := hq
  cases hv
  show AW _ _ _ _ _ _ _ 4 [.ref 19, .int p1] [.int r2] (lay t ex o m1) k _ _
  refine AW.if_eq (pc := 4) (tgt := 16) dX0_arrivalOf_4 (by decide) (fun c3 => ?_) (fun c3 => ?_)
  · have hw := hw.1 c3
    refine AW.iconst (v := 0) (pc := 16) dX0_arrivalOf_16 (by decide) ?_
    exact AW.iret (pc := 17) dX0_arrivalOf_17 rfl rfl (by omega) (by omega) (hQ _ _ hw)
  · have hw := hw.2 c3
    refine AW.aload_n (pc := 7) dX0_arrivalOf_7 rfl rfl ?_
    refine LW.get (pc := 8) (f := 0) (ci := 0) (T := TX0) ht (by decide) rfl dX0_arrivalOf_8 tw_538 rfl (by decide) rfl ?_
    refine AW.iload_n (pc := 11) dX0_arrivalOf_11 rfl rfl ?_
    obtain ⟨hin, hw⟩ := hw
    refine LW.iald (pc := 12) (j := p1.toNatClampNeg) ht (by decide) rfl dX0_arrivalOf_12 hin rfl ?_
    refine AW.goto (pc := 13) (tgt := 17) dX0_arrivalOf_13 (by decide) ?_
    exact AW.iret (pc := 17) dX0_arrivalOf_17 rfl rfl (by omega) (by omega) (hQ _ _ hw)
set_option maxRecDepth 100000 in
set_option maxHeartbeats 4000000 in
theorem c_A_arrivalOf_19 {d k t : Nat} {ex : Hp} {o : Nat → Int64} {K : Int32 → Mem → Prop} {m : Mem} {p1 : Int32} (ht : tok t) (hd : 3 ≤ d) (hw : w_A_arrivalOf 19 p1 m K) : AM mX0_arrivalOf d [.ref 19, .int p1] (lay t ex o m) k 0 0 (fun oc h' k' => k = k' ∧ ∃ (r : Int32) (m' : Mem), oc = .inl (some (.int r)) ∧ h' = lay t ex o m' ∧ K r m') :=
  AM.intro (μ := mX0_arrivalOf) (n := 0) (by decide) rfl rfl rfl (b_A_arrivalOf_19 ht hd (by omega) (by omega) (fun _ _ hK => ⟨rfl, _, _, rfl, rfl, hK⟩) p1 hw)
set_option maxRecDepth 100000 in
set_option maxHeartbeats 4000000 in
theorem b_A_arrivalOf_21 {Z : Gz} {d k0 mc ms cs ss k t : Nat} {Q : Po} {ex : Hp} {o : Nat → Int64} {K : Int32 → Mem → Prop}  (ht : tok t) (hd : 3 ≤ d) (hcs : cs + 0 ≤ mc) (hss : ss + 0 ≤ ms) (hQ : ∀ (r : Int32) (m : Mem), K r m → Q (.inl (some (.int r))) (lay t ex o m) k) {m : Mem} (p1 : Int32) (hw : w_A_arrivalOf 21 p1 m K) : AW Z mX0_arrivalOf d k0 mc ms Q 0 [.ref 21, .int p1] [] (lay t ex o m) k cs ss := by
  unfold w_A_arrivalOf at hw
  refine AW.iload_n (pc := 0) dX0_arrivalOf_0 rfl rfl ?_
  refine AW.callSN (pc := 1) (S' := []) dX0_arrivalOf_1 (c_N_isWire (d := d - 1) ht (by omega) hw) ok_X4_isWire tw_25 tw_134 rfl (by omega) rfl (Nat.le_of_ble_eq_true rfl) (by omega) (by omega) (fun E h' k' hq => by obtain ⟨rfl, r2, m1, hv, -⟩ := hq; cases hv) ?_
  intro v h' k' hq
  obtain ⟨rfl, r2, m1, hv, rfl, hw⟩ := hq
  cases hv
  show AW _ _ _ _ _ _ _ 4 [.ref 21, .int p1] [.int r2] (lay t ex o m1) k _ _
  refine AW.if_eq (pc := 4) (tgt := 16) dX0_arrivalOf_4 (by decide) (fun c3 => ?_) (fun c3 => ?_)
  · have hw := hw.1 c3
    refine AW.iconst (v := 0) (pc := 16) dX0_arrivalOf_16 (by decide) ?_
    exact AW.iret (pc := 17) dX0_arrivalOf_17 rfl rfl (by omega) (by omega) (hQ _ _ hw)
  · have hw := hw.2 c3
    refine AW.aload_n (pc := 7) dX0_arrivalOf_7 rfl rfl ?_
    refine LW.get (pc := 8) (f := 0) (ci := 0) (T := TX0) ht (by decide) rfl dX0_arrivalOf_8 tw_538 rfl (by decide) rfl ?_
    refine AW.iload_n (pc := 11) dX0_arrivalOf_11 rfl rfl ?_
    obtain ⟨hin, hw⟩ := hw
    refine LW.iald (pc := 12) (j := p1.toNatClampNeg) ht (by decide) rfl dX0_arrivalOf_12 hin rfl ?_
    refine AW.goto (pc := 13) (tgt := 17) dX0_arrivalOf_13 (by decide) ?_
    exact AW.iret (pc := 17) dX0_arrivalOf_17 rfl rfl (by omega) (by omega) (hQ _ _ hw)
set_option maxRecDepth 100000 in
set_option maxHeartbeats 4000000 in
theorem c_A_arrivalOf_21 {d k t : Nat} {ex : Hp} {o : Nat → Int64} {K : Int32 → Mem → Prop} {m : Mem} {p1 : Int32} (ht : tok t) (hd : 3 ≤ d) (hw : w_A_arrivalOf 21 p1 m K) : AM mX0_arrivalOf d [.ref 21, .int p1] (lay t ex o m) k 0 0 (fun oc h' k' => k = k' ∧ ∃ (r : Int32) (m' : Mem), oc = .inl (some (.int r)) ∧ h' = lay t ex o m' ∧ K r m') :=
  AM.intro (μ := mX0_arrivalOf) (n := 0) (by decide) rfl rfl rfl (b_A_arrivalOf_21 ht hd (by omega) (by omega) (fun _ _ hK => ⟨rfl, _, _, rfl, rfl, hK⟩) p1 hw)
def w_A_arrivalBy (r : Nat) (p3 : Int32) (p4 : Int32) (m : Mem) (K : Int32 → Mem → Prop) : Prop :=
  ((p3 = (-1 : Int32) → K (0 : Int32) m) ∧ (¬ (p3 = (-1 : Int32)) → vp_in p3 30 ∧ ((¬ ((m 3 (p3).toNatClampNeg) = (8 : Int32)) → vp_in p3 30 ∧ ((¬ ((m 3 (p3).toNatClampNeg) = (9 : Int32)) → vp_in p3 30 ∧ (((m 17 (p3).toNatClampNeg) = 0 → vp_in p3 30 ∧ w_A_arrivalOf r (m 5 (p3).toNatClampNeg) m (fun r6 m5 => vp_in p3 30 ∧ w_A_arrivalOf r (m5 6 (p3).toNatClampNeg) m5 (fun r8 m7 => vp_in p3 30 ∧ w_A_arrivalOf r (m7 7 (p3).toNatClampNeg) m7 (fun r10 m9 => ((r6 = (-2 : Int32) → K (-2 : Int32) m9) ∧ (¬ (r6 = (-2 : Int32)) → ((r8 = (-2 : Int32) → K (-2 : Int32) m9) ∧ (¬ (r8 = (-2 : Int32)) → ((¬ (r10 = (-2 : Int32)) → ((r6 = (-1 : Int32) → K (-1 : Int32) m9) ∧ (¬ (r6 = (-1 : Int32)) → ((r8 = (-1 : Int32) → K (-1 : Int32) m9) ∧ (¬ (r8 = (-1 : Int32)) → ((¬ (r10 = (-1 : Int32)) → K (p4 + (jmax r6 (jmax r8 r10))) m9) ∧ (r10 = (-1 : Int32) → K (-1 : Int32) m9))))))) ∧ (r10 = (-2 : Int32) → K (-2 : Int32) m9)))))))))) ∧ (¬ ((m 17 (p3).toNatClampNeg) = 0) → K (-1 : Int32) m))) ∧ ((m 3 (p3).toNatClampNeg) = (9 : Int32) → K p4 m))) ∧ ((m 3 (p3).toNatClampNeg) = (8 : Int32) → K (0 : Int32) m))))
set_option maxRecDepth 100000 in
set_option maxHeartbeats 4000000 in
theorem b_A_arrivalBy_19 {Z : Gz} {d k0 mc ms cs ss k t : Nat} {Q : Po} {ex : Hp} {o : Nat → Int64} {K : Int32 → Mem → Prop}  (ht : tok t) (hd : 4 ≤ d) (hcs : cs + 0 ≤ mc) (hss : ss + 0 ≤ ms) (hQ : ∀ (r : Int32) (m : Mem), K r m → Q (.inl (some (.int r))) (lay t ex o m) k) {m : Mem} (p3 : Int32) (p4 : Int32) (hw : w_A_arrivalBy 19 p3 p4 m K) : AW Z mX0_arrivalBy d k0 mc ms Q 0 [.ref 19, .ref 2, .ref 14, .int p3, .int p4, .null, .null, .null] [] (lay t ex o m) k cs ss := by
  unfold w_A_arrivalBy at hw
  refine AW.iload_n (pc := 0) dX0_arrivalBy_0 rfl rfl ?_
  refine AW.iconst (v := -1) (pc := 1) dX0_arrivalBy_1 (by decide) ?_
  refine AW.icmp_eq (pc := 2) (tgt := 16) dX0_arrivalBy_2 (by decide) (fun c1 => ?_) (fun c1 => ?_)
  · have hw := hw.1 c1
    refine AW.iconst (v := 0) (pc := 16) dX0_arrivalBy_16 (by decide) ?_
    exact AW.iret (pc := 17) dX0_arrivalBy_17 rfl rfl (by omega) (by omega) (hQ _ _ hw)
  · have hw := hw.2 c1
    refine AW.aload_n (pc := 5) dX0_arrivalBy_5 rfl rfl ?_
    refine LW.getN (pc := 6) (f := 0) (ci := 1) (T := TX1) ht (by decide) rfl dX0_arrivalBy_6 tw_443 rfl (by decide) rfl ?_
    refine AW.iload_n (pc := 9) dX0_arrivalBy_9 rfl rfl ?_
    obtain ⟨hin, hw⟩ := hw
    refine LW.iald (pc := 10) (j := p3.toNatClampNeg) ht (by decide) rfl dX0_arrivalBy_10 hin rfl ?_
    refine AW.bipush (v := 8) (pc := 11) dX0_arrivalBy_11 (by decide) ?_
    refine AW.icmp_ne (pc := 13) (tgt := 18) dX0_arrivalBy_13 (by decide) (fun c2 => ?_) (fun c2 => ?_)
    · have hw := hw.1 c2
      refine AW.aload_n (pc := 18) dX0_arrivalBy_18 rfl rfl ?_
      refine LW.getN (pc := 19) (f := 0) (ci := 1) (T := TX1) ht (by decide) rfl dX0_arrivalBy_19 tw_443 rfl (by decide) rfl ?_
      refine AW.iload_n (pc := 22) dX0_arrivalBy_22 rfl rfl ?_
      obtain ⟨hin, hw⟩ := hw
      refine LW.iald (pc := 23) (j := p3.toNatClampNeg) ht (by decide) rfl dX0_arrivalBy_23 hin rfl ?_
      refine AW.bipush (v := 9) (pc := 24) dX0_arrivalBy_24 (by decide) ?_
      refine AW.icmp_ne (pc := 26) (tgt := 32) dX0_arrivalBy_26 (by decide) (fun c3 => ?_) (fun c3 => ?_)
      · have hw := hw.1 c3
        refine AW.aload_n (pc := 32) dX0_arrivalBy_32 rfl rfl ?_
        refine LW.getN (pc := 33) (f := 2) (ci := 2) (T := TX2) ht (by decide) rfl dX0_arrivalBy_33 tw_513 rfl (by decide) rfl ?_
        refine AW.iload_n (pc := 36) dX0_arrivalBy_36 rfl rfl ?_
        obtain ⟨hin, hw⟩ := hw
        refine LW.zald (pc := 37) (j := p3.toNatClampNeg) ht (by decide) rfl dX0_arrivalBy_37 hin rfl ?_
        refine AW.if_eq (pc := 38) (tgt := 43) dX0_arrivalBy_38 (by decide) (fun c4 => ?_) (fun c4 => ?_)
        · have hw := hw.1 c4
          refine AW.aload_n (pc := 43) dX0_arrivalBy_43 rfl rfl ?_
          refine AW.aload_n (pc := 44) dX0_arrivalBy_44 rfl rfl ?_
          refine LW.getN (pc := 45) (f := 2) (ci := 1) (T := TX1) ht (by decide) rfl dX0_arrivalBy_45 tw_450 rfl (by decide) rfl ?_
          refine AW.iload_n (pc := 48) dX0_arrivalBy_48 rfl rfl ?_
          obtain ⟨hin, hw⟩ := hw
          refine LW.iald (pc := 49) (j := p3.toNatClampNeg) ht (by decide) rfl dX0_arrivalBy_49 hin rfl ?_
          refine AW.callV (pc := 50) (S' := []) dX0_arrivalBy_50 (c_A_arrivalOf_19 (d := d - 1) ht (by omega) hw) ok_X0_arrivalOf tw_131 ts_1 tw_129 (fix_pos (by decide)) (lay_at ht (by decide)) (show aw_cl[0]? = some _ from rfl) rfl rfl (by omega) rfl (Nat.le_of_ble_eq_true rfl) (by omega) (by omega) ?_ (fun E h' k' hq => by obtain ⟨rfl, r6, m5, hv, -⟩ := hq; cases hv)
          intro v h' k' hq
          obtain ⟨rfl, r6, m5, hv, rfl, hw⟩ := hq
          cases hv
          show AW _ _ _ _ _ _ _ 53 [.ref 19, .ref 2, .ref 14, .int p3, .int p4, .null, .null, .null] [.int r6] (lay t ex o m5) k _ _
          refine AW.istore (L' := [.ref 19, .ref 2, .ref 14, .int p3, .int p4, .int r6, .null, .null]) (pc := 53) dX0_arrivalBy_53 (by decide) rfl rfl ?_
          refine AW.aload_n (pc := 55) dX0_arrivalBy_55 rfl rfl ?_
          refine AW.aload_n (pc := 56) dX0_arrivalBy_56 rfl rfl ?_
          refine LW.getN (pc := 57) (f := 3) (ci := 1) (T := TX1) ht (by decide) rfl dX0_arrivalBy_57 tw_453 rfl (by decide) rfl ?_
          refine AW.iload_n (pc := 60) dX0_arrivalBy_60 rfl rfl ?_
          obtain ⟨hin, hw⟩ := hw
          refine LW.iald (pc := 61) (j := p3.toNatClampNeg) ht (by decide) rfl dX0_arrivalBy_61 hin rfl ?_
          refine AW.callV (pc := 62) (S' := []) dX0_arrivalBy_62 (c_A_arrivalOf_19 (d := d - 1) ht (by omega) hw) ok_X0_arrivalOf tw_131 ts_1 tw_129 (fix_pos (by decide)) (lay_at ht (by decide)) (show aw_cl[0]? = some _ from rfl) rfl rfl (by omega) rfl (Nat.le_of_ble_eq_true rfl) (by omega) (by omega) ?_ (fun E h' k' hq => by obtain ⟨rfl, r8, m7, hv, -⟩ := hq; cases hv)
          intro v h' k' hq
          obtain ⟨rfl, r8, m7, hv, rfl, hw⟩ := hq
          cases hv
          show AW _ _ _ _ _ _ _ 65 [.ref 19, .ref 2, .ref 14, .int p3, .int p4, .int r6, .null, .null] [.int r8] (lay t ex o m7) k _ _
          refine AW.istore (L' := [.ref 19, .ref 2, .ref 14, .int p3, .int p4, .int r6, .int r8, .null]) (pc := 65) dX0_arrivalBy_65 (by decide) rfl rfl ?_
          refine AW.aload_n (pc := 67) dX0_arrivalBy_67 rfl rfl ?_
          refine AW.aload_n (pc := 68) dX0_arrivalBy_68 rfl rfl ?_
          refine LW.getN (pc := 69) (f := 4) (ci := 1) (T := TX1) ht (by decide) rfl dX0_arrivalBy_69 tw_456 rfl (by decide) rfl ?_
          refine AW.iload_n (pc := 72) dX0_arrivalBy_72 rfl rfl ?_
          obtain ⟨hin, hw⟩ := hw
          refine LW.iald (pc := 73) (j := p3.toNatClampNeg) ht (by decide) rfl dX0_arrivalBy_73 hin rfl ?_
          refine AW.callV (pc := 74) (S' := []) dX0_arrivalBy_74 (c_A_arrivalOf_19 (d := d - 1) ht (by omega) hw) ok_X0_arrivalOf tw_131 ts_1 tw_129 (fix_pos (by decide)) (lay_at ht (by decide)) (show aw_cl[0]? = some _ from rfl) rfl rfl (by omega) rfl (Nat.le_of_ble_eq_true rfl) (by omega) (by omega) ?_ (fun E h' k' hq => by obtain ⟨rfl, r10, m9, hv, -⟩ := hq; cases hv)
          intro v h' k' hq
          obtain ⟨rfl, r10, m9, hv, rfl, hw⟩ := hq
          cases hv
          show AW _ _ _ _ _ _ _ 77 [.ref 19, .ref 2, .ref 14, .int p3, .int p4, .int r6, .int r8, .null] [.int r10] (lay t ex o m9) k _ _
          refine AW.istore (L' := [.ref 19, .ref 2, .ref 14, .int p3, .int p4, .int r6, .int r8, .int r10]) (pc := 77) dX0_arrivalBy_77 (by decide) rfl rfl ?_
          refine AW.iload (pc := 79) dX0_arrivalBy_79 rfl ?_
          refine AW.bipush (v := -2) (pc := 81) dX0_arrivalBy_81 (by decide) ?_
          refine AW.icmp_eq (pc := 83) (tgt := 100) dX0_arrivalBy_83 (by decide) (fun c11 => ?_) (fun c11 => ?_)
          · have hw := hw.1 c11
            refine AW.bipush (v := -2) (pc := 100) dX0_arrivalBy_100 (by decide) ?_
            exact AW.iret (pc := 102) dX0_arrivalBy_102 rfl rfl (by omega) (by omega) (hQ _ _ hw)
          · have hw := hw.2 c11
            refine AW.iload (pc := 86) dX0_arrivalBy_86 rfl ?_
            refine AW.bipush (v := -2) (pc := 88) dX0_arrivalBy_88 (by decide) ?_
            refine AW.icmp_eq (pc := 90) (tgt := 100) dX0_arrivalBy_90 (by decide) (fun c12 => ?_) (fun c12 => ?_)
            · have hw := hw.1 c12
              refine AW.bipush (v := -2) (pc := 100) dX0_arrivalBy_100 (by decide) ?_
              exact AW.iret (pc := 102) dX0_arrivalBy_102 rfl rfl (by omega) (by omega) (hQ _ _ hw)
            · have hw := hw.2 c12
              refine AW.iload (pc := 93) dX0_arrivalBy_93 rfl ?_
              refine AW.bipush (v := -2) (pc := 95) dX0_arrivalBy_95 (by decide) ?_
              refine AW.icmp_ne (pc := 97) (tgt := 103) dX0_arrivalBy_97 (by decide) (fun c13 => ?_) (fun c13 => ?_)
              · have hw := hw.1 c13
                refine AW.iload (pc := 103) dX0_arrivalBy_103 rfl ?_
                refine AW.iconst (v := -1) (pc := 105) dX0_arrivalBy_105 (by decide) ?_
                refine AW.icmp_eq (pc := 106) (tgt := 121) dX0_arrivalBy_106 (by decide) (fun c14 => ?_) (fun c14 => ?_)
                · have hw := hw.1 c14
                  refine AW.iconst (v := -1) (pc := 121) dX0_arrivalBy_121 (by decide) ?_
                  exact AW.iret (pc := 122) dX0_arrivalBy_122 rfl rfl (by omega) (by omega) (hQ _ _ hw)
                · have hw := hw.2 c14
                  refine AW.iload (pc := 109) dX0_arrivalBy_109 rfl ?_
                  refine AW.iconst (v := -1) (pc := 111) dX0_arrivalBy_111 (by decide) ?_
                  refine AW.icmp_eq (pc := 112) (tgt := 121) dX0_arrivalBy_112 (by decide) (fun c15 => ?_) (fun c15 => ?_)
                  · have hw := hw.1 c15
                    refine AW.iconst (v := -1) (pc := 121) dX0_arrivalBy_121 (by decide) ?_
                    exact AW.iret (pc := 122) dX0_arrivalBy_122 rfl rfl (by omega) (by omega) (hQ _ _ hw)
                  · have hw := hw.2 c15
                    refine AW.iload (pc := 115) dX0_arrivalBy_115 rfl ?_
                    refine AW.iconst (v := -1) (pc := 117) dX0_arrivalBy_117 (by decide) ?_
                    refine AW.icmp_ne (pc := 118) (tgt := 123) dX0_arrivalBy_118 (by decide) (fun c16 => ?_) (fun c16 => ?_)
                    · have hw := hw.1 c16
                      refine AW.iload (pc := 123) dX0_arrivalBy_123 rfl ?_
                      refine AW.iload (pc := 125) dX0_arrivalBy_125 rfl ?_
                      refine AW.iload (pc := 127) dX0_arrivalBy_127 rfl ?_
                      refine AW.iload (pc := 129) dX0_arrivalBy_129 rfl ?_
                      refine AW.mmax (pc := 131) dX0_arrivalBy_131 tw_105 tw_106 tw_14 (Nat.le_of_ble_eq_true rfl) (by omega) (by omega) ?_
                      refine AW.mmax (pc := 134) dX0_arrivalBy_134 tw_105 tw_106 tw_14 (Nat.le_of_ble_eq_true rfl) (by omega) (by omega) ?_
                      refine AW.iadd (pc := 137) dX0_arrivalBy_137 ?_
                      exact AW.iret (pc := 138) dX0_arrivalBy_138 rfl rfl (by omega) (by omega) (hQ _ _ hw)
                    · have hw := hw.2 c16
                      refine AW.iconst (v := -1) (pc := 121) dX0_arrivalBy_121 (by decide) ?_
                      exact AW.iret (pc := 122) dX0_arrivalBy_122 rfl rfl (by omega) (by omega) (hQ _ _ hw)
              · have hw := hw.2 c13
                refine AW.bipush (v := -2) (pc := 100) dX0_arrivalBy_100 (by decide) ?_
                exact AW.iret (pc := 102) dX0_arrivalBy_102 rfl rfl (by omega) (by omega) (hQ _ _ hw)
        · have hw := hw.2 c4
          refine AW.iconst (v := -1) (pc := 41) dX0_arrivalBy_41 (by decide) ?_
          exact AW.iret (pc := 42) dX0_arrivalBy_42 rfl rfl (by omega) (by omega) (hQ _ _ hw)
      · have hw := hw.2 c3
        refine AW.iload (pc := 29) dX0_arrivalBy_29 rfl ?_
        exact AW.iret (pc := 31) dX0_arrivalBy_31 rfl rfl (by omega) (by omega) (hQ _ _ hw)
    · have hw := hw.2 c2
      refine AW.iconst (v := 0) (pc := 16) dX0_arrivalBy_16 (by decide) ?_
      exact AW.iret (pc := 17) dX0_arrivalBy_17 rfl rfl (by omega) (by omega) (hQ _ _ hw)
set_option maxRecDepth 100000 in
set_option maxHeartbeats 4000000 in
theorem c_A_arrivalBy_19 {d k t : Nat} {ex : Hp} {o : Nat → Int64} {K : Int32 → Mem → Prop} {m : Mem} {p3 : Int32} {p4 : Int32} (ht : tok t) (hd : 4 ≤ d) (hw : w_A_arrivalBy 19 p3 p4 m K) : AM mX0_arrivalBy d [.ref 19, .ref 2, .ref 14, .int p3, .int p4] (lay t ex o m) k 0 0 (fun oc h' k' => k = k' ∧ ∃ (r : Int32) (m' : Mem), oc = .inl (some (.int r)) ∧ h' = lay t ex o m' ∧ K r m') :=
  AM.intro (μ := mX0_arrivalBy) (n := 3) (by decide) rfl rfl rfl (b_A_arrivalBy_19 ht hd (by omega) (by omega) (fun _ _ hK => ⟨rfl, _, _, rfl, rfl, hK⟩) p3 p4 hw)
set_option maxRecDepth 100000 in
set_option maxHeartbeats 4000000 in
theorem b_A_arrivalBy_21 {Z : Gz} {d k0 mc ms cs ss k t : Nat} {Q : Po} {ex : Hp} {o : Nat → Int64} {K : Int32 → Mem → Prop}  (ht : tok t) (hd : 4 ≤ d) (hcs : cs + 0 ≤ mc) (hss : ss + 0 ≤ ms) (hQ : ∀ (r : Int32) (m : Mem), K r m → Q (.inl (some (.int r))) (lay t ex o m) k) {m : Mem} (p3 : Int32) (p4 : Int32) (hw : w_A_arrivalBy 21 p3 p4 m K) : AW Z mX0_arrivalBy d k0 mc ms Q 0 [.ref 21, .ref 2, .ref 14, .int p3, .int p4, .null, .null, .null] [] (lay t ex o m) k cs ss := by
  unfold w_A_arrivalBy at hw
  refine AW.iload_n (pc := 0) dX0_arrivalBy_0 rfl rfl ?_
  refine AW.iconst (v := -1) (pc := 1) dX0_arrivalBy_1 (by decide) ?_
  refine AW.icmp_eq (pc := 2) (tgt := 16) dX0_arrivalBy_2 (by decide) (fun c1 => ?_) (fun c1 => ?_)
  · have hw := hw.1 c1
    refine AW.iconst (v := 0) (pc := 16) dX0_arrivalBy_16 (by decide) ?_
    exact AW.iret (pc := 17) dX0_arrivalBy_17 rfl rfl (by omega) (by omega) (hQ _ _ hw)
  · have hw := hw.2 c1
    refine AW.aload_n (pc := 5) dX0_arrivalBy_5 rfl rfl ?_
    refine LW.getN (pc := 6) (f := 0) (ci := 1) (T := TX1) ht (by decide) rfl dX0_arrivalBy_6 tw_443 rfl (by decide) rfl ?_
    refine AW.iload_n (pc := 9) dX0_arrivalBy_9 rfl rfl ?_
    obtain ⟨hin, hw⟩ := hw
    refine LW.iald (pc := 10) (j := p3.toNatClampNeg) ht (by decide) rfl dX0_arrivalBy_10 hin rfl ?_
    refine AW.bipush (v := 8) (pc := 11) dX0_arrivalBy_11 (by decide) ?_
    refine AW.icmp_ne (pc := 13) (tgt := 18) dX0_arrivalBy_13 (by decide) (fun c2 => ?_) (fun c2 => ?_)
    · have hw := hw.1 c2
      refine AW.aload_n (pc := 18) dX0_arrivalBy_18 rfl rfl ?_
      refine LW.getN (pc := 19) (f := 0) (ci := 1) (T := TX1) ht (by decide) rfl dX0_arrivalBy_19 tw_443 rfl (by decide) rfl ?_
      refine AW.iload_n (pc := 22) dX0_arrivalBy_22 rfl rfl ?_
      obtain ⟨hin, hw⟩ := hw
      refine LW.iald (pc := 23) (j := p3.toNatClampNeg) ht (by decide) rfl dX0_arrivalBy_23 hin rfl ?_
      refine AW.bipush (v := 9) (pc := 24) dX0_arrivalBy_24 (by decide) ?_
      refine AW.icmp_ne (pc := 26) (tgt := 32) dX0_arrivalBy_26 (by decide) (fun c3 => ?_) (fun c3 => ?_)
      · have hw := hw.1 c3
        refine AW.aload_n (pc := 32) dX0_arrivalBy_32 rfl rfl ?_
        refine LW.getN (pc := 33) (f := 2) (ci := 2) (T := TX2) ht (by decide) rfl dX0_arrivalBy_33 tw_513 rfl (by decide) rfl ?_
        refine AW.iload_n (pc := 36) dX0_arrivalBy_36 rfl rfl ?_
        obtain ⟨hin, hw⟩ := hw
        refine LW.zald (pc := 37) (j := p3.toNatClampNeg) ht (by decide) rfl dX0_arrivalBy_37 hin rfl ?_
        refine AW.if_eq (pc := 38) (tgt := 43) dX0_arrivalBy_38 (by decide) (fun c4 => ?_) (fun c4 => ?_)
        · have hw := hw.1 c4
          refine AW.aload_n (pc := 43) dX0_arrivalBy_43 rfl rfl ?_
          refine AW.aload_n (pc := 44) dX0_arrivalBy_44 rfl rfl ?_
          refine LW.getN (pc := 45) (f := 2) (ci := 1) (T := TX1) ht (by decide) rfl dX0_arrivalBy_45 tw_450 rfl (by decide) rfl ?_
          refine AW.iload_n (pc := 48) dX0_arrivalBy_48 rfl rfl ?_
          obtain ⟨hin, hw⟩ := hw
          refine LW.iald (pc := 49) (j := p3.toNatClampNeg) ht (by decide) rfl dX0_arrivalBy_49 hin rfl ?_
          refine AW.callV (pc := 50) (S' := []) dX0_arrivalBy_50 (c_A_arrivalOf_21 (d := d - 1) ht (by omega) hw) ok_X0_arrivalOf tw_131 ts_1 tw_129 (fix_pos (by decide)) (lay_at ht (by decide)) (show aw_cl[0]? = some _ from rfl) rfl rfl (by omega) rfl (Nat.le_of_ble_eq_true rfl) (by omega) (by omega) ?_ (fun E h' k' hq => by obtain ⟨rfl, r6, m5, hv, -⟩ := hq; cases hv)
          intro v h' k' hq
          obtain ⟨rfl, r6, m5, hv, rfl, hw⟩ := hq
          cases hv
          show AW _ _ _ _ _ _ _ 53 [.ref 21, .ref 2, .ref 14, .int p3, .int p4, .null, .null, .null] [.int r6] (lay t ex o m5) k _ _
          refine AW.istore (L' := [.ref 21, .ref 2, .ref 14, .int p3, .int p4, .int r6, .null, .null]) (pc := 53) dX0_arrivalBy_53 (by decide) rfl rfl ?_
          refine AW.aload_n (pc := 55) dX0_arrivalBy_55 rfl rfl ?_
          refine AW.aload_n (pc := 56) dX0_arrivalBy_56 rfl rfl ?_
          refine LW.getN (pc := 57) (f := 3) (ci := 1) (T := TX1) ht (by decide) rfl dX0_arrivalBy_57 tw_453 rfl (by decide) rfl ?_
          refine AW.iload_n (pc := 60) dX0_arrivalBy_60 rfl rfl ?_
          obtain ⟨hin, hw⟩ := hw
          refine LW.iald (pc := 61) (j := p3.toNatClampNeg) ht (by decide) rfl dX0_arrivalBy_61 hin rfl ?_
          refine AW.callV (pc := 62) (S' := []) dX0_arrivalBy_62 (c_A_arrivalOf_21 (d := d - 1) ht (by omega) hw) ok_X0_arrivalOf tw_131 ts_1 tw_129 (fix_pos (by decide)) (lay_at ht (by decide)) (show aw_cl[0]? = some _ from rfl) rfl rfl (by omega) rfl (Nat.le_of_ble_eq_true rfl) (by omega) (by omega) ?_ (fun E h' k' hq => by obtain ⟨rfl, r8, m7, hv, -⟩ := hq; cases hv)
          intro v h' k' hq
          obtain ⟨rfl, r8, m7, hv, rfl, hw⟩ := hq
          cases hv
          show AW _ _ _ _ _ _ _ 65 [.ref 21, .ref 2, .ref 14, .int p3, .int p4, .int r6, .null, .null] [.int r8] (lay t ex o m7) k _ _
          refine AW.istore (L' := [.ref 21, .ref 2, .ref 14, .int p3, .int p4, .int r6, .int r8, .null]) (pc := 65) dX0_arrivalBy_65 (by decide) rfl rfl ?_
          refine AW.aload_n (pc := 67) dX0_arrivalBy_67 rfl rfl ?_
          refine AW.aload_n (pc := 68) dX0_arrivalBy_68 rfl rfl ?_
          refine LW.getN (pc := 69) (f := 4) (ci := 1) (T := TX1) ht (by decide) rfl dX0_arrivalBy_69 tw_456 rfl (by decide) rfl ?_
          refine AW.iload_n (pc := 72) dX0_arrivalBy_72 rfl rfl ?_
          obtain ⟨hin, hw⟩ := hw
          refine LW.iald (pc := 73) (j := p3.toNatClampNeg) ht (by decide) rfl dX0_arrivalBy_73 hin rfl ?_
          refine AW.callV (pc := 74) (S' := []) dX0_arrivalBy_74 (c_A_arrivalOf_21 (d := d - 1) ht (by omega) hw) ok_X0_arrivalOf tw_131 ts_1 tw_129 (fix_pos (by decide)) (lay_at ht (by decide)) (show aw_cl[0]? = some _ from rfl) rfl rfl (by omega) rfl (Nat.le_of_ble_eq_true rfl) (by omega) (by omega) ?_ (fun E h' k' hq => by obtain ⟨rfl, r10, m9, hv, -⟩ := hq; cases hv)
          intro v h' k' hq
          obtain ⟨rfl, r10, m9, hv, rfl, hw⟩ := hq
          cases hv
          show AW _ _ _ _ _ _ _ 77 [.ref 21, .ref 2, .ref 14, .int p3, .int p4, .int r6, .int r8, .null] [.int r10] (lay t ex o m9) k _ _
          refine AW.istore (L' := [.ref 21, .ref 2, .ref 14, .int p3, .int p4, .int r6, .int r8, .int r10]) (pc := 77) dX0_arrivalBy_77 (by decide) rfl rfl ?_
          refine AW.iload (pc := 79) dX0_arrivalBy_79 rfl ?_
          refine AW.bipush (v := -2) (pc := 81) dX0_arrivalBy_81 (by decide) ?_
          refine AW.icmp_eq (pc := 83) (tgt := 100) dX0_arrivalBy_83 (by decide) (fun c11 => ?_) (fun c11 => ?_)
          · have hw := hw.1 c11
            refine AW.bipush (v := -2) (pc := 100) dX0_arrivalBy_100 (by decide) ?_
            exact AW.iret (pc := 102) dX0_arrivalBy_102 rfl rfl (by omega) (by omega) (hQ _ _ hw)
          · have hw := hw.2 c11
            refine AW.iload (pc := 86) dX0_arrivalBy_86 rfl ?_
            refine AW.bipush (v := -2) (pc := 88) dX0_arrivalBy_88 (by decide) ?_
            refine AW.icmp_eq (pc := 90) (tgt := 100) dX0_arrivalBy_90 (by decide) (fun c12 => ?_) (fun c12 => ?_)
            · have hw := hw.1 c12
              refine AW.bipush (v := -2) (pc := 100) dX0_arrivalBy_100 (by decide) ?_
              exact AW.iret (pc := 102) dX0_arrivalBy_102 rfl rfl (by omega) (by omega) (hQ _ _ hw)
            · have hw := hw.2 c12
              refine AW.iload (pc := 93) dX0_arrivalBy_93 rfl ?_
              refine AW.bipush (v := -2) (pc := 95) dX0_arrivalBy_95 (by decide) ?_
              refine AW.icmp_ne (pc := 97) (tgt := 103) dX0_arrivalBy_97 (by decide) (fun c13 => ?_) (fun c13 => ?_)
              · have hw := hw.1 c13
                refine AW.iload (pc := 103) dX0_arrivalBy_103 rfl ?_
                refine AW.iconst (v := -1) (pc := 105) dX0_arrivalBy_105 (by decide) ?_
                refine AW.icmp_eq (pc := 106) (tgt := 121) dX0_arrivalBy_106 (by decide) (fun c14 => ?_) (fun c14 => ?_)
                · have hw := hw.1 c14
                  refine AW.iconst (v := -1) (pc := 121) dX0_arrivalBy_121 (by decide) ?_
                  exact AW.iret (pc := 122) dX0_arrivalBy_122 rfl rfl (by omega) (by omega) (hQ _ _ hw)
                · have hw := hw.2 c14
                  refine AW.iload (pc := 109) dX0_arrivalBy_109 rfl ?_
                  refine AW.iconst (v := -1) (pc := 111) dX0_arrivalBy_111 (by decide) ?_
                  refine AW.icmp_eq (pc := 112) (tgt := 121) dX0_arrivalBy_112 (by decide) (fun c15 => ?_) (fun c15 => ?_)
                  · have hw := hw.1 c15
                    refine AW.iconst (v := -1) (pc := 121) dX0_arrivalBy_121 (by decide) ?_
                    exact AW.iret (pc := 122) dX0_arrivalBy_122 rfl rfl (by omega) (by omega) (hQ _ _ hw)
                  · have hw := hw.2 c15
                    refine AW.iload (pc := 115) dX0_arrivalBy_115 rfl ?_
                    refine AW.iconst (v := -1) (pc := 117) dX0_arrivalBy_117 (by decide) ?_
                    refine AW.icmp_ne (pc := 118) (tgt := 123) dX0_arrivalBy_118 (by decide) (fun c16 => ?_) (fun c16 => ?_)
                    · have hw := hw.1 c16
                      refine AW.iload (pc := 123) dX0_arrivalBy_123 rfl ?_
                      refine AW.iload (pc := 125) dX0_arrivalBy_125 rfl ?_
                      refine AW.iload (pc := 127) dX0_arrivalBy_127 rfl ?_
                      refine AW.iload (pc := 129) dX0_arrivalBy_129 rfl ?_
                      refine AW.mmax (pc := 131) dX0_arrivalBy_131 tw_105 tw_106 tw_14 (Nat.le_of_ble_eq_true rfl) (by omega) (by omega) ?_
                      refine AW.mmax (pc := 134) dX0_arrivalBy_134 tw_105 tw_106 tw_14 (Nat.le_of_ble_eq_true rfl) (by omega) (by omega) ?_
                      refine AW.iadd (pc := 137) dX0_arrivalBy_137 ?_
                      exact AW.iret (pc := 138) dX0_arrivalBy_138 rfl rfl (by omega) (by omega) (hQ _ _ hw)
                    · have hw := hw.2 c16
                      refine AW.iconst (v := -1) (pc := 121) dX0_arrivalBy_121 (by decide) ?_
                      exact AW.iret (pc := 122) dX0_arrivalBy_122 rfl rfl (by omega) (by omega) (hQ _ _ hw)
              · have hw := hw.2 c13
                refine AW.bipush (v := -2) (pc := 100) dX0_arrivalBy_100 (by decide) ?_
                exact AW.iret (pc := 102) dX0_arrivalBy_102 rfl rfl (by omega) (by omega) (hQ _ _ hw)
        · have hw := hw.2 c4
          refine AW.iconst (v := -1) (pc := 41) dX0_arrivalBy_41 (by decide) ?_
          exact AW.iret (pc := 42) dX0_arrivalBy_42 rfl rfl (by omega) (by omega) (hQ _ _ hw)
      · have hw := hw.2 c3
        refine AW.iload (pc := 29) dX0_arrivalBy_29 rfl ?_
        exact AW.iret (pc := 31) dX0_arrivalBy_31 rfl rfl (by omega) (by omega) (hQ _ _ hw)
    · have hw := hw.2 c2
      refine AW.iconst (v := 0) (pc := 16) dX0_arrivalBy_16 (by decide) ?_
      exact AW.iret (pc := 17) dX0_arrivalBy_17 rfl rfl (by omega) (by omega) (hQ _ _ hw)
set_option maxRecDepth 100000 in
set_option maxHeartbeats 4000000 in
theorem c_A_arrivalBy_21 {d k t : Nat} {ex : Hp} {o : Nat → Int64} {K : Int32 → Mem → Prop} {m : Mem} {p3 : Int32} {p4 : Int32} (ht : tok t) (hd : 4 ≤ d) (hw : w_A_arrivalBy 21 p3 p4 m K) : AM mX0_arrivalBy d [.ref 21, .ref 2, .ref 14, .int p3, .int p4] (lay t ex o m) k 0 0 (fun oc h' k' => k = k' ∧ ∃ (r : Int32) (m' : Mem), oc = .inl (some (.int r)) ∧ h' = lay t ex o m' ∧ K r m') :=
  AM.intro (μ := mX0_arrivalBy) (n := 3) (by decide) rfl rfl rfl (b_A_arrivalBy_21 ht hd (by omega) (by omega) (fun _ _ hK => ⟨rfl, _, _, rfl, rfl, hK⟩) p3 p4 hw)
def w_A_greatest_4 : Nat → Nat → Int32 → Int32 → Mem → (Int32 → Int32 → Mem → Prop) → (Int32 → Mem → Prop) → Prop
  | 0, _, _, _, _, _, _ => False
  | n + 1, r, x1, x2, m, E27, K => (((24 : Int32) ≤ x2 → E27 x1 x2 m) ∧ (¬ ((24 : Int32) ≤ x2) → vp_in x2 24 ∧ w_A_greatest_4 n r (jmax x1 (m (r + 1) (x2).toNatClampNeg)) (x2 + 1) m E27 K))
def w_A_greatest (r : Nat) (m : Mem) (K : Int32 → Mem → Prop) : Prop :=
  w_A_greatest_4 25 r (0 : Int32) (0 : Int32) m (fun y2 y3 m4 => K y2 m4) K
set_option maxRecDepth 100000 in
set_option maxHeartbeats 4000000 in
theorem l_A_greatest_19_4 {Z : Gz} {d k0 mc ms cs ss k t : Nat} {Q : Po} {ex : Hp} {o : Nat → Int64} {K : Int32 → Mem → Prop}  (ht : tok t) (hd : 3 ≤ d) (hcs : cs ≤ mc) (hss : ss ≤ ms) (hQ : ∀ (r : Int32) (m : Mem), K r m → Q (.inl (some (.int r))) (lay t ex o m) k) {E27 : Int32 → Int32 → Mem → Prop} (hE27 : ∀ (x1 : Int32) (x2 : Int32) (m : Mem), E27 x1 x2 m → AW Z mX0_greatest d k0 mc ms Q 27 [.ref 19, .int x1, .int x2] [] (lay t ex o m) k cs ss) : ∀ (n : Nat) (x1 : Int32) (x2 : Int32) (m : Mem),  w_A_greatest_4 n 19 x1 x2 m E27 K → AW Z mX0_greatest d k0 mc ms Q 4 [.ref 19, .int x1, .int x2] [] (lay t ex o m) k cs ss := by
  intro n
  induction n with
  | zero =>
    intros; rename_i hw; exact absurd hw (by simp [w_A_greatest_4])
  | succ n ih =>
    intro x1 x2 m hw
    unfold w_A_greatest_4 at hw
    refine AW.iload_n (pc := 4) dX0_greatest_4 rfl rfl ?_
    refine AW.bipush (v := 24) (pc := 5) dX0_greatest_5 (by decide) ?_
    refine AW.icmp_ge (pc := 7) (tgt := 27) dX0_greatest_7 (by decide) (fun c1 => ?_) (fun c1 => ?_)
    · have hw := hw.1 c1
      exact hE27 x1 x2 m hw
    · have hw := hw.2 c1
      refine AW.iload_n (pc := 10) dX0_greatest_10 rfl rfl ?_
      refine AW.aload_n (pc := 11) dX0_greatest_11 rfl rfl ?_
      refine LW.get (pc := 12) (f := 0) (ci := 0) (T := TX0) ht (by decide) rfl dX0_greatest_12 tw_538 rfl (by decide) rfl ?_
      refine AW.iload_n (pc := 15) dX0_greatest_15 rfl rfl ?_
      obtain ⟨hin, hw⟩ := hw
      refine LW.iald (pc := 16) (j := x2.toNatClampNeg) ht (by decide) rfl dX0_greatest_16 hin rfl ?_
      refine AW.mmax (pc := 17) dX0_greatest_17 tw_105 tw_106 tw_14 (Nat.le_of_ble_eq_true rfl) (by omega) (by omega) ?_
      refine AW.istore_n (L' := [.ref 19, .int (jmax x1 (m 20 (x2).toNatClampNeg)), .int x2]) (pc := 20) dX0_greatest_20 rfl (by decide) rfl rfl ?_
      refine AW.iinc (v := (x2 + 1)) (L' := [.ref 19, .int (jmax x1 (m 20 (x2).toNatClampNeg)), .int (x2 + 1)]) (pc := 21) dX0_greatest_21 rfl rfl (by decide) rfl rfl ?_
      refine AW.goto (pc := 24) (tgt := 4) dX0_greatest_24 (by decide) ?_
      exact ih (jmax x1 (m 20 (x2).toNatClampNeg)) (x2 + 1) m hw
set_option maxRecDepth 100000 in
set_option maxHeartbeats 4000000 in
theorem b_A_greatest_19 {Z : Gz} {d k0 mc ms cs ss k t : Nat} {Q : Po} {ex : Hp} {o : Nat → Int64} {K : Int32 → Mem → Prop}  (ht : tok t) (hd : 3 ≤ d) (hcs : cs + 0 ≤ mc) (hss : ss + 0 ≤ ms) (hQ : ∀ (r : Int32) (m : Mem), K r m → Q (.inl (some (.int r))) (lay t ex o m) k) {m : Mem}  (hw : w_A_greatest 19  m K) : AW Z mX0_greatest d k0 mc ms Q 0 [.ref 19, .null, .null] [] (lay t ex o m) k cs ss := by
  unfold w_A_greatest at hw
  refine AW.iconst (v := 0) (pc := 0) dX0_greatest_0 (by decide) ?_
  refine AW.istore_n (L' := [.ref 19, .int (0 : Int32), .null]) (pc := 1) dX0_greatest_1 rfl (by decide) rfl rfl ?_
  refine AW.iconst (v := 0) (pc := 2) dX0_greatest_2 (by decide) ?_
  refine AW.istore_n (L' := [.ref 19, .int (0 : Int32), .int (0 : Int32)]) (pc := 3) dX0_greatest_3 rfl (by decide) rfl rfl ?_
  refine l_A_greatest_19_4 ht hd (by omega) (by omega) hQ ?_ 25 (0 : Int32) (0 : Int32) m hw
  intro y2 y3 m4 hw
  refine AW.iload_n (pc := 27) dX0_greatest_27 rfl rfl ?_
  exact AW.iret (pc := 28) dX0_greatest_28 rfl rfl (by omega) (by omega) (hQ _ _ hw)
set_option maxRecDepth 100000 in
set_option maxHeartbeats 4000000 in
theorem c_A_greatest_19 {d k t : Nat} {ex : Hp} {o : Nat → Int64} {K : Int32 → Mem → Prop} {m : Mem}  (ht : tok t) (hd : 3 ≤ d) (hw : w_A_greatest 19  m K) : AM mX0_greatest d [.ref 19] (lay t ex o m) k 0 0 (fun oc h' k' => k = k' ∧ ∃ (r : Int32) (m' : Mem), oc = .inl (some (.int r)) ∧ h' = lay t ex o m' ∧ K r m') :=
  AM.intro (μ := mX0_greatest) (n := 2) (by decide) rfl rfl rfl (b_A_greatest_19 ht hd (by omega) (by omega) (fun _ _ hK => ⟨rfl, _, _, rfl, rfl, hK⟩)  hw)
set_option maxRecDepth 100000 in
set_option maxHeartbeats 4000000 in
theorem l_A_greatest_21_4 {Z : Gz} {d k0 mc ms cs ss k t : Nat} {Q : Po} {ex : Hp} {o : Nat → Int64} {K : Int32 → Mem → Prop}  (ht : tok t) (hd : 3 ≤ d) (hcs : cs ≤ mc) (hss : ss ≤ ms) (hQ : ∀ (r : Int32) (m : Mem), K r m → Q (.inl (some (.int r))) (lay t ex o m) k) {E27 : Int32 → Int32 → Mem → Prop} (hE27 : ∀ (x1 : Int32) (x2 : Int32) (m : Mem), E27 x1 x2 m → AW Z mX0_greatest d k0 mc ms Q 27 [.ref 21, .int x1, .int x2] [] (lay t ex o m) k cs ss) : ∀ (n : Nat) (x1 : Int32) (x2 : Int32) (m : Mem),  w_A_greatest_4 n 21 x1 x2 m E27 K → AW Z mX0_greatest d k0 mc ms Q 4 [.ref 21, .int x1, .int x2] [] (lay t ex o m) k cs ss := by
  intro n
  induction n with
  | zero =>
    intros; rename_i hw; exact absurd hw (by simp [w_A_greatest_4])
  | succ n ih =>
    intro x1 x2 m hw
    unfold w_A_greatest_4 at hw
    refine AW.iload_n (pc := 4) dX0_greatest_4 rfl rfl ?_
    refine AW.bipush (v := 24) (pc := 5) dX0_greatest_5 (by decide) ?_
    refine AW.icmp_ge (pc := 7) (tgt := 27) dX0_greatest_7 (by decide) (fun c1 => ?_) (fun c1 => ?_)
    · have hw := hw.1 c1
      exact hE27 x1 x2 m hw
    · have hw := hw.2 c1
      refine AW.iload_n (pc := 10) dX0_greatest_10 rfl rfl ?_
      refine AW.aload_n (pc := 11) dX0_greatest_11 rfl rfl ?_
      refine LW.get (pc := 12) (f := 0) (ci := 0) (T := TX0) ht (by decide) rfl dX0_greatest_12 tw_538 rfl (by decide) rfl ?_
      refine AW.iload_n (pc := 15) dX0_greatest_15 rfl rfl ?_
      obtain ⟨hin, hw⟩ := hw
      refine LW.iald (pc := 16) (j := x2.toNatClampNeg) ht (by decide) rfl dX0_greatest_16 hin rfl ?_
      refine AW.mmax (pc := 17) dX0_greatest_17 tw_105 tw_106 tw_14 (Nat.le_of_ble_eq_true rfl) (by omega) (by omega) ?_
      refine AW.istore_n (L' := [.ref 21, .int (jmax x1 (m 22 (x2).toNatClampNeg)), .int x2]) (pc := 20) dX0_greatest_20 rfl (by decide) rfl rfl ?_
      refine AW.iinc (v := (x2 + 1)) (L' := [.ref 21, .int (jmax x1 (m 22 (x2).toNatClampNeg)), .int (x2 + 1)]) (pc := 21) dX0_greatest_21 rfl rfl (by decide) rfl rfl ?_
      refine AW.goto (pc := 24) (tgt := 4) dX0_greatest_24 (by decide) ?_
      exact ih (jmax x1 (m 22 (x2).toNatClampNeg)) (x2 + 1) m hw
set_option maxRecDepth 100000 in
set_option maxHeartbeats 4000000 in
theorem b_A_greatest_21 {Z : Gz} {d k0 mc ms cs ss k t : Nat} {Q : Po} {ex : Hp} {o : Nat → Int64} {K : Int32 → Mem → Prop}  (ht : tok t) (hd : 3 ≤ d) (hcs : cs + 0 ≤ mc) (hss : ss + 0 ≤ ms) (hQ : ∀ (r : Int32) (m : Mem), K r m → Q (.inl (some (.int r))) (lay t ex o m) k) {m : Mem}  (hw : w_A_greatest 21  m K) : AW Z mX0_greatest d k0 mc ms Q 0 [.ref 21, .null, .null] [] (lay t ex o m) k cs ss := by
  unfold w_A_greatest at hw
  refine AW.iconst (v := 0) (pc := 0) dX0_greatest_0 (by decide) ?_
  refine AW.istore_n (L' := [.ref 21, .int (0 : Int32), .null]) (pc := 1) dX0_greatest_1 rfl (by decide) rfl rfl ?_
  refine AW.iconst (v := 0) (pc := 2) dX0_greatest_2 (by decide) ?_
  refine AW.istore_n (L' := [.ref 21, .int (0 : Int32), .int (0 : Int32)]) (pc := 3) dX0_greatest_3 rfl (by decide) rfl rfl ?_
  refine l_A_greatest_21_4 ht hd (by omega) (by omega) hQ ?_ 25 (0 : Int32) (0 : Int32) m hw
  intro y2 y3 m4 hw
  refine AW.iload_n (pc := 27) dX0_greatest_27 rfl rfl ?_
  exact AW.iret (pc := 28) dX0_greatest_28 rfl rfl (by omega) (by omega) (hQ _ _ hw)
set_option maxRecDepth 100000 in
set_option maxHeartbeats 4000000 in
theorem c_A_greatest_21 {d k t : Nat} {ex : Hp} {o : Nat → Int64} {K : Int32 → Mem → Prop} {m : Mem}  (ht : tok t) (hd : 3 ≤ d) (hw : w_A_greatest 21  m K) : AM mX0_greatest d [.ref 21] (lay t ex o m) k 0 0 (fun oc h' k' => k = k' ∧ ∃ (r : Int32) (m' : Mem), oc = .inl (some (.int r)) ∧ h' = lay t ex o m' ∧ K r m') :=
  AM.intro (μ := mX0_greatest) (n := 2) (by decide) rfl rfl rfl (b_A_greatest_21 ht hd (by omega) (by omega) (fun _ _ hK => ⟨rfl, _, _, rfl, rfl, hK⟩)  hw)
def w_A_latestDriven_7 : Nat → Nat → Int32 → Int32 → Int32 → Mem → (Int32 → Int32 → Int32 → Mem → Prop) → (Int32 → Mem → Prop) → Prop
  | 0, _, _, _, _, _, _, _ => False
  | n + 1, r, x2, x3, x4, m, E52, K => (((24 : Int32) ≤ x4 → E52 x2 x3 x4 m) ∧ (¬ ((24 : Int32) ≤ x4) → vp_in x4 24 ∧ (((m 12 (x4).toNatClampNeg) ≤ 0 → w_A_latestDriven_7 n r x2 x3 (x4 + 1) m E52 K) ∧ (¬ ((m 12 (x4).toNatClampNeg) ≤ 0) → vp_in x4 24 ∧ (((m (r + 1) (x4).toNatClampNeg) ≤ x3 → w_A_latestDriven_7 n r x2 x3 (x4 + 1) m E52 K) ∧ (¬ ((m (r + 1) (x4).toNatClampNeg) ≤ x3) → vp_in x4 24 ∧ w_A_latestDriven_7 n r x4 (m (r + 1) (x4).toNatClampNeg) (x4 + 1) m E52 K))))))
def w_A_latestDriven (r : Nat) (m : Mem) (K : Int32 → Mem → Prop) : Prop :=
  w_A_latestDriven_7 25 r (-1 : Int32) (-1 : Int32) (0 : Int32) m (fun y4 y5 y6 m7 => K y4 m7) K
set_option maxRecDepth 100000 in
set_option maxHeartbeats 4000000 in
theorem l_A_latestDriven_19_7 {Z : Gz} {d k0 mc ms cs ss k t : Nat} {Q : Po} {ex : Hp} {o : Nat → Int64} {K : Int32 → Mem → Prop}  (ht : tok t) (hd : 2 ≤ d) (hcs : cs ≤ mc) (hss : ss ≤ ms) (hQ : ∀ (r : Int32) (m : Mem), K r m → Q (.inl (some (.int r))) (lay t ex o m) k) {E52 : Int32 → Int32 → Int32 → Mem → Prop} (hE52 : ∀ (x2 : Int32) (x3 : Int32) (x4 : Int32) (m : Mem), E52 x2 x3 x4 m → AW Z mX0_latestDriven d k0 mc ms Q 52 [.ref 19, .ref 2, .int x2, .int x3, .int x4] [] (lay t ex o m) k cs ss) : ∀ (n : Nat) (x2 : Int32) (x3 : Int32) (x4 : Int32) (m : Mem),  w_A_latestDriven_7 n 19 x2 x3 x4 m E52 K → AW Z mX0_latestDriven d k0 mc ms Q 7 [.ref 19, .ref 2, .int x2, .int x3, .int x4] [] (lay t ex o m) k cs ss := by
  intro n
  induction n with
  | zero =>
    intros; rename_i hw; exact absurd hw (by simp [w_A_latestDriven_7])
  | succ n ih =>
    intro x2 x3 x4 m hw
    unfold w_A_latestDriven_7 at hw
    refine AW.iload (pc := 7) dX0_latestDriven_7 rfl ?_
    refine AW.bipush (v := 24) (pc := 9) dX0_latestDriven_9 (by decide) ?_
    refine AW.icmp_ge (pc := 11) (tgt := 52) dX0_latestDriven_11 (by decide) (fun c1 => ?_) (fun c1 => ?_)
    · have hw := hw.1 c1
      exact hE52 x2 x3 x4 m hw
    · have hw := hw.2 c1
      refine AW.aload_n (pc := 14) dX0_latestDriven_14 rfl rfl ?_
      refine LW.getN (pc := 15) (f := 9) (ci := 1) (T := TX1) ht (by decide) rfl dX0_latestDriven_15 tw_470 rfl (by decide) rfl ?_
      refine AW.iload (pc := 18) dX0_latestDriven_18 rfl ?_
      obtain ⟨hin, hw⟩ := hw
      refine LW.iald (pc := 20) (j := x4.toNatClampNeg) ht (by decide) rfl dX0_latestDriven_20 hin rfl ?_
      refine AW.if_le (pc := 21) (tgt := 46) dX0_latestDriven_21 (by decide) (fun c2 => ?_) (fun c2 => ?_)
      · have hw := hw.1 c2
        refine AW.iinc (v := (x4 + 1)) (L' := [.ref 19, .ref 2, .int x2, .int x3, .int (x4 + 1)]) (pc := 46) dX0_latestDriven_46 rfl rfl (by decide) rfl rfl ?_
        refine AW.goto (pc := 49) (tgt := 7) dX0_latestDriven_49 (by decide) ?_
        exact ih x2 x3 (x4 + 1) m hw
      · have hw := hw.2 c2
        refine AW.aload_n (pc := 24) dX0_latestDriven_24 rfl rfl ?_
        refine LW.get (pc := 25) (f := 0) (ci := 0) (T := TX0) ht (by decide) rfl dX0_latestDriven_25 tw_538 rfl (by decide) rfl ?_
        refine AW.iload (pc := 28) dX0_latestDriven_28 rfl ?_
        obtain ⟨hin, hw⟩ := hw
        refine LW.iald (pc := 30) (j := x4.toNatClampNeg) ht (by decide) rfl dX0_latestDriven_30 hin rfl ?_
        refine AW.iload_n (pc := 31) dX0_latestDriven_31 rfl rfl ?_
        refine AW.icmp_le (pc := 32) (tgt := 46) dX0_latestDriven_32 (by decide) (fun c3 => ?_) (fun c3 => ?_)
        · have hw := hw.1 c3
          refine AW.iinc (v := (x4 + 1)) (L' := [.ref 19, .ref 2, .int x2, .int x3, .int (x4 + 1)]) (pc := 46) dX0_latestDriven_46 rfl rfl (by decide) rfl rfl ?_
          refine AW.goto (pc := 49) (tgt := 7) dX0_latestDriven_49 (by decide) ?_
          exact ih x2 x3 (x4 + 1) m hw
        · have hw := hw.2 c3
          refine AW.iload (pc := 35) dX0_latestDriven_35 rfl ?_
          refine AW.istore_n (L' := [.ref 19, .ref 2, .int x4, .int x3, .int x4]) (pc := 37) dX0_latestDriven_37 rfl (by decide) rfl rfl ?_
          refine AW.aload_n (pc := 38) dX0_latestDriven_38 rfl rfl ?_
          refine LW.get (pc := 39) (f := 0) (ci := 0) (T := TX0) ht (by decide) rfl dX0_latestDriven_39 tw_538 rfl (by decide) rfl ?_
          refine AW.iload (pc := 42) dX0_latestDriven_42 rfl ?_
          obtain ⟨hin, hw⟩ := hw
          refine LW.iald (pc := 44) (j := x4.toNatClampNeg) ht (by decide) rfl dX0_latestDriven_44 hin rfl ?_
          refine AW.istore_n (L' := [.ref 19, .ref 2, .int x4, .int (m 20 (x4).toNatClampNeg), .int x4]) (pc := 45) dX0_latestDriven_45 rfl (by decide) rfl rfl ?_
          refine AW.iinc (v := (x4 + 1)) (L' := [.ref 19, .ref 2, .int x4, .int (m 20 (x4).toNatClampNeg), .int (x4 + 1)]) (pc := 46) dX0_latestDriven_46 rfl rfl (by decide) rfl rfl ?_
          refine AW.goto (pc := 49) (tgt := 7) dX0_latestDriven_49 (by decide) ?_
          exact ih x4 (m 20 (x4).toNatClampNeg) (x4 + 1) m hw
set_option maxRecDepth 100000 in
set_option maxHeartbeats 4000000 in
theorem b_A_latestDriven_19 {Z : Gz} {d k0 mc ms cs ss k t : Nat} {Q : Po} {ex : Hp} {o : Nat → Int64} {K : Int32 → Mem → Prop}  (ht : tok t) (hd : 2 ≤ d) (hcs : cs + 0 ≤ mc) (hss : ss + 0 ≤ ms) (hQ : ∀ (r : Int32) (m : Mem), K r m → Q (.inl (some (.int r))) (lay t ex o m) k) {m : Mem}  (hw : w_A_latestDriven 19  m K) : AW Z mX0_latestDriven d k0 mc ms Q 0 [.ref 19, .ref 2, .null, .null, .null] [] (lay t ex o m) k cs ss := by
  unfold w_A_latestDriven at hw
  refine AW.iconst (v := -1) (pc := 0) dX0_latestDriven_0 (by decide) ?_
  refine AW.istore_n (L' := [.ref 19, .ref 2, .int (-1 : Int32), .null, .null]) (pc := 1) dX0_latestDriven_1 rfl (by decide) rfl rfl ?_
  refine AW.iconst (v := -1) (pc := 2) dX0_latestDriven_2 (by decide) ?_
  refine AW.istore_n (L' := [.ref 19, .ref 2, .int (-1 : Int32), .int (-1 : Int32), .null]) (pc := 3) dX0_latestDriven_3 rfl (by decide) rfl rfl ?_
  refine AW.iconst (v := 0) (pc := 4) dX0_latestDriven_4 (by decide) ?_
  refine AW.istore (L' := [.ref 19, .ref 2, .int (-1 : Int32), .int (-1 : Int32), .int (0 : Int32)]) (pc := 5) dX0_latestDriven_5 (by decide) rfl rfl ?_
  refine l_A_latestDriven_19_7 ht hd (by omega) (by omega) hQ ?_ 25 (-1 : Int32) (-1 : Int32) (0 : Int32) m hw
  intro y4 y5 y6 m7 hw
  refine AW.iload_n (pc := 52) dX0_latestDriven_52 rfl rfl ?_
  exact AW.iret (pc := 53) dX0_latestDriven_53 rfl rfl (by omega) (by omega) (hQ _ _ hw)
set_option maxRecDepth 100000 in
set_option maxHeartbeats 4000000 in
theorem c_A_latestDriven_19 {d k t : Nat} {ex : Hp} {o : Nat → Int64} {K : Int32 → Mem → Prop} {m : Mem}  (ht : tok t) (hd : 2 ≤ d) (hw : w_A_latestDriven 19  m K) : AM mX0_latestDriven d [.ref 19, .ref 2] (lay t ex o m) k 0 0 (fun oc h' k' => k = k' ∧ ∃ (r : Int32) (m' : Mem), oc = .inl (some (.int r)) ∧ h' = lay t ex o m' ∧ K r m') :=
  AM.intro (μ := mX0_latestDriven) (n := 3) (by decide) rfl rfl rfl (b_A_latestDriven_19 ht hd (by omega) (by omega) (fun _ _ hK => ⟨rfl, _, _, rfl, rfl, hK⟩)  hw)
set_option maxRecDepth 100000 in
set_option maxHeartbeats 4000000 in
theorem l_A_latestDriven_21_7 {Z : Gz} {d k0 mc ms cs ss k t : Nat} {Q : Po} {ex : Hp} {o : Nat → Int64} {K : Int32 → Mem → Prop}  (ht : tok t) (hd : 2 ≤ d) (hcs : cs ≤ mc) (hss : ss ≤ ms) (hQ : ∀ (r : Int32) (m : Mem), K r m → Q (.inl (some (.int r))) (lay t ex o m) k) {E52 : Int32 → Int32 → Int32 → Mem → Prop} (hE52 : ∀ (x2 : Int32) (x3 : Int32) (x4 : Int32) (m : Mem), E52 x2 x3 x4 m → AW Z mX0_latestDriven d k0 mc ms Q 52 [.ref 21, .ref 2, .int x2, .int x3, .int x4] [] (lay t ex o m) k cs ss) : ∀ (n : Nat) (x2 : Int32) (x3 : Int32) (x4 : Int32) (m : Mem),  w_A_latestDriven_7 n 21 x2 x3 x4 m E52 K → AW Z mX0_latestDriven d k0 mc ms Q 7 [.ref 21, .ref 2, .int x2, .int x3, .int x4] [] (lay t ex o m) k cs ss := by
  intro n
  induction n with
  | zero =>
    intros; rename_i hw; exact absurd hw (by simp [w_A_latestDriven_7])
  | succ n ih =>
    intro x2 x3 x4 m hw
    unfold w_A_latestDriven_7 at hw
    refine AW.iload (pc := 7) dX0_latestDriven_7 rfl ?_
    refine AW.bipush (v := 24) (pc := 9) dX0_latestDriven_9 (by decide) ?_
    refine AW.icmp_ge (pc := 11) (tgt := 52) dX0_latestDriven_11 (by decide) (fun c1 => ?_) (fun c1 => ?_)
    · have hw := hw.1 c1
      exact hE52 x2 x3 x4 m hw
    · have hw := hw.2 c1
      refine AW.aload_n (pc := 14) dX0_latestDriven_14 rfl rfl ?_
      refine LW.getN (pc := 15) (f := 9) (ci := 1) (T := TX1) ht (by decide) rfl dX0_latestDriven_15 tw_470 rfl (by decide) rfl ?_
      refine AW.iload (pc := 18) dX0_latestDriven_18 rfl ?_
      obtain ⟨hin, hw⟩ := hw
      refine LW.iald (pc := 20) (j := x4.toNatClampNeg) ht (by decide) rfl dX0_latestDriven_20 hin rfl ?_
      refine AW.if_le (pc := 21) (tgt := 46) dX0_latestDriven_21 (by decide) (fun c2 => ?_) (fun c2 => ?_)
      · have hw := hw.1 c2
        refine AW.iinc (v := (x4 + 1)) (L' := [.ref 21, .ref 2, .int x2, .int x3, .int (x4 + 1)]) (pc := 46) dX0_latestDriven_46 rfl rfl (by decide) rfl rfl ?_
        refine AW.goto (pc := 49) (tgt := 7) dX0_latestDriven_49 (by decide) ?_
        exact ih x2 x3 (x4 + 1) m hw
      · have hw := hw.2 c2
        refine AW.aload_n (pc := 24) dX0_latestDriven_24 rfl rfl ?_
        refine LW.get (pc := 25) (f := 0) (ci := 0) (T := TX0) ht (by decide) rfl dX0_latestDriven_25 tw_538 rfl (by decide) rfl ?_
        refine AW.iload (pc := 28) dX0_latestDriven_28 rfl ?_
        obtain ⟨hin, hw⟩ := hw
        refine LW.iald (pc := 30) (j := x4.toNatClampNeg) ht (by decide) rfl dX0_latestDriven_30 hin rfl ?_
        refine AW.iload_n (pc := 31) dX0_latestDriven_31 rfl rfl ?_
        refine AW.icmp_le (pc := 32) (tgt := 46) dX0_latestDriven_32 (by decide) (fun c3 => ?_) (fun c3 => ?_)
        · have hw := hw.1 c3
          refine AW.iinc (v := (x4 + 1)) (L' := [.ref 21, .ref 2, .int x2, .int x3, .int (x4 + 1)]) (pc := 46) dX0_latestDriven_46 rfl rfl (by decide) rfl rfl ?_
          refine AW.goto (pc := 49) (tgt := 7) dX0_latestDriven_49 (by decide) ?_
          exact ih x2 x3 (x4 + 1) m hw
        · have hw := hw.2 c3
          refine AW.iload (pc := 35) dX0_latestDriven_35 rfl ?_
          refine AW.istore_n (L' := [.ref 21, .ref 2, .int x4, .int x3, .int x4]) (pc := 37) dX0_latestDriven_37 rfl (by decide) rfl rfl ?_
          refine AW.aload_n (pc := 38) dX0_latestDriven_38 rfl rfl ?_
          refine LW.get (pc := 39) (f := 0) (ci := 0) (T := TX0) ht (by decide) rfl dX0_latestDriven_39 tw_538 rfl (by decide) rfl ?_
          refine AW.iload (pc := 42) dX0_latestDriven_42 rfl ?_
          obtain ⟨hin, hw⟩ := hw
          refine LW.iald (pc := 44) (j := x4.toNatClampNeg) ht (by decide) rfl dX0_latestDriven_44 hin rfl ?_
          refine AW.istore_n (L' := [.ref 21, .ref 2, .int x4, .int (m 22 (x4).toNatClampNeg), .int x4]) (pc := 45) dX0_latestDriven_45 rfl (by decide) rfl rfl ?_
          refine AW.iinc (v := (x4 + 1)) (L' := [.ref 21, .ref 2, .int x4, .int (m 22 (x4).toNatClampNeg), .int (x4 + 1)]) (pc := 46) dX0_latestDriven_46 rfl rfl (by decide) rfl rfl ?_
          refine AW.goto (pc := 49) (tgt := 7) dX0_latestDriven_49 (by decide) ?_
          exact ih x4 (m 22 (x4).toNatClampNeg) (x4 + 1) m hw
set_option maxRecDepth 100000 in
set_option maxHeartbeats 4000000 in
theorem b_A_latestDriven_21 {Z : Gz} {d k0 mc ms cs ss k t : Nat} {Q : Po} {ex : Hp} {o : Nat → Int64} {K : Int32 → Mem → Prop}  (ht : tok t) (hd : 2 ≤ d) (hcs : cs + 0 ≤ mc) (hss : ss + 0 ≤ ms) (hQ : ∀ (r : Int32) (m : Mem), K r m → Q (.inl (some (.int r))) (lay t ex o m) k) {m : Mem}  (hw : w_A_latestDriven 21  m K) : AW Z mX0_latestDriven d k0 mc ms Q 0 [.ref 21, .ref 2, .null, .null, .null] [] (lay t ex o m) k cs ss := by
  unfold w_A_latestDriven at hw
  refine AW.iconst (v := -1) (pc := 0) dX0_latestDriven_0 (by decide) ?_
  refine AW.istore_n (L' := [.ref 21, .ref 2, .int (-1 : Int32), .null, .null]) (pc := 1) dX0_latestDriven_1 rfl (by decide) rfl rfl ?_
  refine AW.iconst (v := -1) (pc := 2) dX0_latestDriven_2 (by decide) ?_
  refine AW.istore_n (L' := [.ref 21, .ref 2, .int (-1 : Int32), .int (-1 : Int32), .null]) (pc := 3) dX0_latestDriven_3 rfl (by decide) rfl rfl ?_
  refine AW.iconst (v := 0) (pc := 4) dX0_latestDriven_4 (by decide) ?_
  refine AW.istore (L' := [.ref 21, .ref 2, .int (-1 : Int32), .int (-1 : Int32), .int (0 : Int32)]) (pc := 5) dX0_latestDriven_5 (by decide) rfl rfl ?_
  refine l_A_latestDriven_21_7 ht hd (by omega) (by omega) hQ ?_ 25 (-1 : Int32) (-1 : Int32) (0 : Int32) m hw
  intro y4 y5 y6 m7 hw
  refine AW.iload_n (pc := 52) dX0_latestDriven_52 rfl rfl ?_
  exact AW.iret (pc := 53) dX0_latestDriven_53 rfl rfl (by omega) (by omega) (hQ _ _ hw)
set_option maxRecDepth 100000 in
set_option maxHeartbeats 4000000 in
theorem c_A_latestDriven_21 {d k t : Nat} {ex : Hp} {o : Nat → Int64} {K : Int32 → Mem → Prop} {m : Mem}  (ht : tok t) (hd : 2 ≤ d) (hw : w_A_latestDriven 21  m K) : AM mX0_latestDriven d [.ref 21, .ref 2] (lay t ex o m) k 0 0 (fun oc h' k' => k = k' ∧ ∃ (r : Int32) (m' : Mem), oc = .inl (some (.int r)) ∧ h' = lay t ex o m' ∧ K r m') :=
  AM.intro (μ := mX0_latestDriven) (n := 3) (by decide) rfl rfl rfl (b_A_latestDriven_21 ht hd (by omega) (by omega) (fun _ _ hK => ⟨rfl, _, _, rfl, rfl, hK⟩)  hw)
def w_A_reckon_33 : Nat → Nat → Int32 → Int32 → Int32 → Int32 → Int32 → Mem → (Int32 → Int32 → Int32 → Int32 → Int32 → Mem → Prop) → (Mem → Prop) → Prop
  | 0, _, _, _, _, _, _, _, _, _ => False
  | n + 1, r, x3, x4, x5, x6, x7, m, E116, K => (((24 : Int32) ≤ x7 → E116 x3 x4 x5 x6 x7 m) ∧ (¬ ((24 : Int32) ≤ x7) → vp_in x7 24 ∧ ((¬ ((m (r + 1) (x7).toNatClampNeg) = (-2 : Int32)) → w_A_reckon_33 n r x3 x4 x5 x6 (x7 + 1) m E116 K) ∧ ((m (r + 1) (x7).toNatClampNeg) = (-2 : Int32) → w_C_firstLineOf x7 m (fun r7 m6 => (∀ J10 : Int32 → Mem → Prop, (∀ (v8 : Int32) (m9 : Mem), (w_A_arrivalBy r r7 v8 m9 (fun r14 m13 => vp_in x7 24 ∧ ∀ m15 : Mem, m15 = up2 m13 (r + 1) (x7.toNatClampNeg) r14 → w_A_reckon_33 n r x3 x4 (1 : Int32) x6 (x7 + 1) m15 E116 K)) → J10 v8 m9) → ((¬ (r7 = (-1 : Int32)) → ((¬ (r7 = x3) → vp_in r7 30 ∧ J10 (m6 8 (r7).toNatClampNeg) m6) ∧ (r7 = x3 → J10 x4 m6))) ∧ (r7 = (-1 : Int32) → J10 (0 : Int32) m6))))))))
def w_A_reckon_15 : Nat → Nat → Int32 → Int32 → Int32 → Int32 → Mem → (Int32 → Int32 → Int32 → Int32 → Mem → Prop) → (Mem → Prop) → Prop
  | 0, _, _, _, _, _, _, _, _ => False
  | n + 1, r, x3, x4, x5, x6, m, E122, K => ((x5 = 0 → E122 x3 x4 x5 x6 m) ∧ (¬ (x5 = 0) → (((24 : Int32) ≤ x6 → E122 x3 x4 x5 x6 m) ∧ (¬ ((24 : Int32) ≤ x6) → w_A_reckon_33 25 r x3 x4 (0 : Int32) x6 (0 : Int32) m (fun y16 y17 y18 y19 y20 m21 => w_A_reckon_15 n r y16 y17 y18 (y19 + 1) m21 E122 K) K))))
def w_A_reckon (r : Nat) (p3 : Int32) (p4 : Int32) (m : Mem) (K : Mem → Prop) : Prop :=
  ∀ m1 : Mem, m1 = va_up m (r + 1) (jfill (m (r + 1)) 24 (-2 : Int32)) → w_A_reckon_15 25 r p3 p4 (1 : Int32) (0 : Int32) m1 (fun y22 y23 y24 y25 m26 => K m26) K
set_option maxRecDepth 100000 in
set_option maxHeartbeats 4000000 in
theorem l_A_reckon_19_33 {Z : Gz} {d k0 mc ms cs ss k t : Nat} {Q : Po} {ex : Hp} {o : Nat → Int64} {K : Mem → Prop}  (ht : tok t) (hd : 5 ≤ d) (hcs : cs ≤ mc) (hss : ss ≤ ms) (hQ : ∀ (m : Mem), K m → Q (.inl none) (lay t ex o m) k) {E116 : Int32 → Int32 → Int32 → Int32 → Int32 → Mem → Prop} (hE116 : ∀ (x3 : Int32) (x4 : Int32) (x5 : Int32) (x6 : Int32) (x7 : Int32) (m : Mem), E116 x3 x4 x5 x6 x7 m → AW Z mX0_reckon d k0 mc ms Q 116 [.ref 19, .ref 2, .ref 14, .int x3, .int x4, .int x5, .int x6, .int x7, .null, .null] [] (lay t ex o m) k cs ss) : ∀ (n : Nat) (x3 : Int32) (x4 : Int32) (x5 : Int32) (x6 : Int32) (x7 : Int32) (m : Mem),  w_A_reckon_33 n 19 x3 x4 x5 x6 x7 m E116 K → AW Z mX0_reckon d k0 mc ms Q 33 [.ref 19, .ref 2, .ref 14, .int x3, .int x4, .int x5, .int x6, .int x7, .null, .null] [] (lay t ex o m) k cs ss := by
  intro n
  induction n with
  | zero =>
    intros; rename_i hw; exact absurd hw (by simp [w_A_reckon_33])
  | succ n ih =>
    intro x3 x4 x5 x6 x7 m hw
    unfold w_A_reckon_33 at hw
    refine AW.iload (pc := 33) dX0_reckon_33 rfl ?_
    refine AW.bipush (v := 24) (pc := 35) dX0_reckon_35 (by decide) ?_
    refine AW.icmp_ge (pc := 37) (tgt := 116) dX0_reckon_37 (by decide) (fun c4 => ?_) (fun c4 => ?_)
    · have hw := hw.1 c4
      exact hE116 x3 x4 x5 x6 x7 m hw
    · have hw := hw.2 c4
      refine AW.aload_n (pc := 40) dX0_reckon_40 rfl rfl ?_
      refine LW.get (pc := 41) (f := 0) (ci := 0) (T := TX0) ht (by decide) rfl dX0_reckon_41 tw_538 rfl (by decide) rfl ?_
      refine AW.iload (pc := 44) dX0_reckon_44 rfl ?_
      obtain ⟨hin, hw⟩ := hw
      refine LW.iald (pc := 46) (j := x7.toNatClampNeg) ht (by decide) rfl dX0_reckon_46 hin rfl ?_
      refine AW.bipush (v := -2) (pc := 47) dX0_reckon_47 (by decide) ?_
      refine AW.icmp_ne (pc := 49) (tgt := 110) dX0_reckon_49 (by decide) (fun c5 => ?_) (fun c5 => ?_)
      · have hw := hw.1 c5
        refine AW.iinc (v := (x7 + 1)) (L' := [.ref 19, .ref 2, .ref 14, .int x3, .int x4, .int x5, .int x6, .int (x7 + 1), .null, .null]) (pc := 110) dX0_reckon_110 rfl rfl (by decide) rfl rfl ?_
        refine AW.goto (pc := 113) (tgt := 33) dX0_reckon_113 (by decide) ?_
        exact ih x3 x4 x5 x6 (x7 + 1) m hw
      · have hw := hw.2 c5
        refine AW.aload_n (pc := 52) dX0_reckon_52 rfl rfl ?_
        refine AW.iload (pc := 53) dX0_reckon_53 rfl ?_
        refine AW.callV (pc := 55) (S' := []) dX0_reckon_55 (c_C_firstLineOf (d := d - 1) ht (by omega) hw) ok_X1_firstLineOf tw_121 tw_122 tw_120 (fix_pos (by decide)) (lay_at ht (by decide)) (show aw_cl[1]? = some _ from rfl) rfl rfl (by omega) rfl (Nat.le_of_ble_eq_true rfl) (by omega) (by omega) ?_ (fun E h' k' hq => by obtain ⟨rfl, r7, m6, hv, -⟩ := hq; cases hv)
        intro v h' k' hq
        obtain ⟨rfl, r7, m6, hv, rfl, hw⟩ := hq
        cases hv
        show AW _ _ _ _ _ _ _ 58 [.ref 19, .ref 2, .ref 14, .int x3, .int x4, .int x5, .int x6, .int x7, .null, .null] [.int r7] (lay t ex o m6) k _ _
        refine AW.istore (L' := [.ref 19, .ref 2, .ref 14, .int x3, .int x4, .int x5, .int x6, .int x7, .int r7, .null]) (pc := 58) dX0_reckon_58 (by decide) rfl rfl ?_
        refine AW.iload (pc := 60) dX0_reckon_60 rfl ?_
        refine AW.iconst (v := -1) (pc := 62) dX0_reckon_62 (by decide) ?_
        have hw := hw (fun v8 m9 => AW Z mX0_reckon d k0 mc ms Q 88 [.ref 19, .ref 2, .ref 14, .int x3, .int x4, .int x5, .int x6, .int x7, .int r7, .null] [.int v8] (lay t ex o m9) k (cs) (ss)) (by
            intro v8 m9 hw
            refine AW.istore (L' := [.ref 19, .ref 2, .ref 14, .int x3, .int x4, .int x5, .int x6, .int x7, .int r7, .int v8]) (pc := 88) dX0_reckon_88 (by decide) rfl rfl ?_
            refine AW.aload_n (pc := 90) dX0_reckon_90 rfl rfl ?_
            refine LW.get (pc := 91) (f := 0) (ci := 0) (T := TX0) ht (by decide) rfl dX0_reckon_91 tw_538 rfl (by decide) rfl ?_
            refine AW.iload (pc := 94) dX0_reckon_94 rfl ?_
            refine AW.aload_n (pc := 96) dX0_reckon_96 rfl rfl ?_
            refine AW.aload_n (pc := 97) dX0_reckon_97 rfl rfl ?_
            refine AW.aload_n (pc := 98) dX0_reckon_98 rfl rfl ?_
            refine AW.iload (pc := 99) dX0_reckon_99 rfl ?_
            refine AW.iload (pc := 101) dX0_reckon_101 rfl ?_
            refine AW.callV (pc := 103) (S' := [.int x7, .ref 20]) dX0_reckon_103 (c_A_arrivalBy_19 (d := d - 1) ht (by omega) hw) ok_X0_arrivalBy tw_363 ts_19 tw_361 (fix_pos (by decide)) (lay_at ht (by decide)) (show aw_cl[0]? = some _ from rfl) rfl rfl (by omega) rfl (Nat.le_of_ble_eq_true rfl) (by omega) (by omega) ?_ (fun E h' k' hq => by obtain ⟨rfl, r14, m13, hv, -⟩ := hq; cases hv)
            intro v h' k' hq
            obtain ⟨rfl, r14, m13, hv, rfl, hw⟩ := hq
            cases hv
            show AW _ _ _ _ _ _ _ 106 [.ref 19, .ref 2, .ref 14, .int x3, .int x4, .int x5, .int x6, .int x7, .int r7, .int v8] [.int r14, .int x7, .ref 20] (lay t ex o m13) k _ _
            obtain ⟨hin, hw⟩ := hw
            have hw := hw _ rfl
            refine LW.iast (pc := 106) (j := x7.toNatClampNeg) ht (by decide) (fun _ => rfl) dX0_reckon_106 hin rfl ?_
            generalize up2 m13 20 (x7.toNatClampNeg) r14 = m15 at hw ⊢
            refine AW.iconst (v := 1) (pc := 107) dX0_reckon_107 (by decide) ?_
            refine AW.istore (L' := [.ref 19, .ref 2, .ref 14, .int x3, .int x4, .int (1 : Int32), .int x6, .int x7, .int r7, .int v8]) (pc := 108) dX0_reckon_108 (by decide) rfl rfl ?_
            refine AW.iinc (v := (x7 + 1)) (L' := [.ref 19, .ref 2, .ref 14, .int x3, .int x4, .int (1 : Int32), .int x6, .int (x7 + 1), .int r7, .int v8]) (pc := 110) dX0_reckon_110 rfl rfl (by decide) rfl rfl ?_
            refine AW.goto (pc := 113) (tgt := 33) dX0_reckon_113 (by decide) ?_
            refine AW.locals (L' := [.ref 19, .ref 2, .ref 14, .int x3, .int x4, .int (1 : Int32), .int x6, .int (x7 + 1), .null, .null]) (aw_fewer_same (aw_fewer_same (aw_fewer_same (aw_fewer_same (aw_fewer_same (aw_fewer_same (aw_fewer_same (aw_fewer_same (aw_fewer_null (aw_fewer_null aw_fewer_nil)))))))))) ?_
            exact ih x3 x4 (1 : Int32) x6 (x7 + 1) m15 hw)
        refine AW.icmp_ne (pc := 63) (tgt := 70) dX0_reckon_63 (by decide) (fun c11 => ?_) (fun c11 => ?_)
        · have hw := hw.1 c11
          refine AW.iload (pc := 70) dX0_reckon_70 rfl ?_
          refine AW.iload_n (pc := 72) dX0_reckon_72 rfl rfl ?_
          refine AW.icmp_ne (pc := 73) (tgt := 81) dX0_reckon_73 (by decide) (fun c12 => ?_) (fun c12 => ?_)
          · have hw := hw.1 c12
            refine AW.aload_n (pc := 81) dX0_reckon_81 rfl rfl ?_
            refine LW.getN (pc := 82) (f := 5) (ci := 1) (T := TX1) ht (by decide) rfl dX0_reckon_82 tw_459 rfl (by decide) rfl ?_
            refine AW.iload (pc := 85) dX0_reckon_85 rfl ?_
            obtain ⟨hin, hw⟩ := hw
            refine LW.iald (pc := 87) (j := r7.toNatClampNeg) ht (by decide) rfl dX0_reckon_87 hin rfl ?_
            exact hw
          · have hw := hw.2 c12
            refine AW.iload (pc := 76) dX0_reckon_76 rfl ?_
            refine AW.goto (pc := 78) (tgt := 88) dX0_reckon_78 (by decide) ?_
            exact hw
        · have hw := hw.2 c11
          refine AW.iconst (v := 0) (pc := 66) dX0_reckon_66 (by decide) ?_
          refine AW.goto (pc := 67) (tgt := 88) dX0_reckon_67 (by decide) ?_
          exact hw
set_option maxRecDepth 100000 in
set_option maxHeartbeats 4000000 in
theorem l_A_reckon_19_15 {Z : Gz} {d k0 mc ms cs ss k t : Nat} {Q : Po} {ex : Hp} {o : Nat → Int64} {K : Mem → Prop}  (ht : tok t) (hd : 5 ≤ d) (hcs : cs ≤ mc) (hss : ss ≤ ms) (hQ : ∀ (m : Mem), K m → Q (.inl none) (lay t ex o m) k) {E122 : Int32 → Int32 → Int32 → Int32 → Mem → Prop} (hE122 : ∀ (x3 : Int32) (x4 : Int32) (x5 : Int32) (x6 : Int32) (m : Mem), E122 x3 x4 x5 x6 m → AW Z mX0_reckon d k0 mc ms Q 122 [.ref 19, .ref 2, .ref 14, .int x3, .int x4, .int x5, .int x6, .null, .null, .null] [] (lay t ex o m) k cs ss) : ∀ (n : Nat) (x3 : Int32) (x4 : Int32) (x5 : Int32) (x6 : Int32) (m : Mem),  w_A_reckon_15 n 19 x3 x4 x5 x6 m E122 K → AW Z mX0_reckon d k0 mc ms Q 15 [.ref 19, .ref 2, .ref 14, .int x3, .int x4, .int x5, .int x6, .null, .null, .null] [] (lay t ex o m) k cs ss := by
  intro n
  induction n with
  | zero =>
    intros; rename_i hw; exact absurd hw (by simp [w_A_reckon_15])
  | succ n ih =>
    intro x3 x4 x5 x6 m hw
    unfold w_A_reckon_15 at hw
    refine AW.iload (pc := 15) dX0_reckon_15 rfl ?_
    refine AW.if_eq (pc := 17) (tgt := 122) dX0_reckon_17 (by decide) (fun c2 => ?_) (fun c2 => ?_)
    · have hw := hw.1 c2
      exact hE122 x3 x4 x5 x6 m hw
    · have hw := hw.2 c2
      refine AW.iload (pc := 20) dX0_reckon_20 rfl ?_
      refine AW.bipush (v := 24) (pc := 22) dX0_reckon_22 (by decide) ?_
      refine AW.icmp_ge (pc := 24) (tgt := 122) dX0_reckon_24 (by decide) (fun c3 => ?_) (fun c3 => ?_)
      · have hw := hw.1 c3
        exact hE122 x3 x4 x5 x6 m hw
      · have hw := hw.2 c3
        refine AW.iconst (v := 0) (pc := 27) dX0_reckon_27 (by decide) ?_
        refine AW.istore (L' := [.ref 19, .ref 2, .ref 14, .int x3, .int x4, .int (0 : Int32), .int x6, .null, .null, .null]) (pc := 28) dX0_reckon_28 (by decide) rfl rfl ?_
        refine AW.iconst (v := 0) (pc := 30) dX0_reckon_30 (by decide) ?_
        refine AW.istore (L' := [.ref 19, .ref 2, .ref 14, .int x3, .int x4, .int (0 : Int32), .int x6, .int (0 : Int32), .null, .null]) (pc := 31) dX0_reckon_31 (by decide) rfl rfl ?_
        refine l_A_reckon_19_33 ht hd (by omega) (by omega) hQ ?_ 25 x3 x4 (0 : Int32) x6 (0 : Int32) m hw
        intro y16 y17 y18 y19 y20 m21 hw
        refine AW.iinc (v := (y19 + 1)) (L' := [.ref 19, .ref 2, .ref 14, .int y16, .int y17, .int y18, .int (y19 + 1), .int y20, .null, .null]) (pc := 116) dX0_reckon_116 rfl rfl (by decide) rfl rfl ?_
        refine AW.goto (pc := 119) (tgt := 15) dX0_reckon_119 (by decide) ?_
        refine AW.locals (L' := [.ref 19, .ref 2, .ref 14, .int y16, .int y17, .int y18, .int (y19 + 1), .null, .null, .null]) (aw_fewer_same (aw_fewer_same (aw_fewer_same (aw_fewer_same (aw_fewer_same (aw_fewer_same (aw_fewer_same (aw_fewer_null (aw_fewer_null (aw_fewer_null aw_fewer_nil)))))))))) ?_
        exact ih y16 y17 y18 (y19 + 1) m21 hw
set_option maxRecDepth 100000 in
set_option maxHeartbeats 4000000 in
theorem b_A_reckon_19 {Z : Gz} {d k0 mc ms cs ss k t : Nat} {Q : Po} {ex : Hp} {o : Nat → Int64} {K : Mem → Prop}  (ht : tok t) (hd : 5 ≤ d) (hcs : cs + 0 ≤ mc) (hss : ss + 0 ≤ ms) (hQ : ∀ (m : Mem), K m → Q (.inl none) (lay t ex o m) k) {m : Mem} (p3 : Int32) (p4 : Int32) (hw : w_A_reckon 19 p3 p4 m K) : AW Z mX0_reckon d k0 mc ms Q 0 [.ref 19, .ref 2, .ref 14, .int p3, .int p4, .null, .null, .null, .null, .null] [] (lay t ex o m) k cs ss := by
  unfold w_A_reckon at hw
  refine AW.aload_n (pc := 0) dX0_reckon_0 rfl rfl ?_
  refine LW.get (pc := 1) (f := 0) (ci := 0) (T := TX0) ht (by decide) rfl dX0_reckon_1 tw_538 rfl (by decide) rfl ?_
  refine AW.bipush (v := -2) (pc := 4) dX0_reckon_4 (by decide) ?_
  have hw := hw _ rfl
  refine AW.callS (pc := 6) (S' := []) dX0_reckon_6 (c_J_fill (i := 20) (n := 24) (d := d - 1) ht (by omega) (by decide) (by decide) (fun _ => rfl)) ok_J7_fill_53178 tw_196 tw_360 rfl (by omega) rfl (Nat.le_of_ble_eq_true rfl) (by omega) (by omega) ?_ (fun E h' k' hq => by obtain ⟨hv, -⟩ := hq; cases hv)
  intro v h' k' hq
  obtain ⟨hv, rfl, rfl⟩ := hq
  cases hv
  show AW _ _ _ _ _ _ _ 9 [.ref 19, .ref 2, .ref 14, .int p3, .int p4, .null, .null, .null, .null, .null] [] (lay t ex o (va_up m 20 (jfill (m 20) 24 (-2 : Int32)))) k _ _
  generalize va_up m 20 (jfill (m 20) 24 (-2 : Int32)) = m1 at hw ⊢
  refine AW.iconst (v := 1) (pc := 9) dX0_reckon_9 (by decide) ?_
  refine AW.istore (L' := [.ref 19, .ref 2, .ref 14, .int p3, .int p4, .int (1 : Int32), .null, .null, .null, .null]) (pc := 10) dX0_reckon_10 (by decide) rfl rfl ?_
  refine AW.iconst (v := 0) (pc := 12) dX0_reckon_12 (by decide) ?_
  refine AW.istore (L' := [.ref 19, .ref 2, .ref 14, .int p3, .int p4, .int (1 : Int32), .int (0 : Int32), .null, .null, .null]) (pc := 13) dX0_reckon_13 (by decide) rfl rfl ?_
  refine l_A_reckon_19_15 ht hd (by omega) (by omega) hQ ?_ 25 p3 p4 (1 : Int32) (0 : Int32) m1 hw
  intro y22 y23 y24 y25 m26 hw
  exact AW.vret (pc := 122) dX0_reckon_122 rfl (by omega) (by omega) (hQ _ hw)
set_option maxRecDepth 100000 in
set_option maxHeartbeats 4000000 in
theorem c_A_reckon_19 {d k t : Nat} {ex : Hp} {o : Nat → Int64} {K : Mem → Prop} {m : Mem} {p3 : Int32} {p4 : Int32} (ht : tok t) (hd : 5 ≤ d) (hw : w_A_reckon 19 p3 p4 m K) : AM mX0_reckon d [.ref 19, .ref 2, .ref 14, .int p3, .int p4] (lay t ex o m) k 0 0 (fun oc h' k' => k = k' ∧ ∃ (m' : Mem), oc = .inl none ∧ h' = lay t ex o m' ∧ K m') :=
  AM.intro (μ := mX0_reckon) (n := 5) (by decide) rfl rfl rfl (b_A_reckon_19 ht hd (by omega) (by omega) (fun _ hK => ⟨rfl, _, rfl, rfl, hK⟩) p3 p4 hw)
set_option maxRecDepth 100000 in
set_option maxHeartbeats 4000000 in
theorem l_A_reckon_21_33 {Z : Gz} {d k0 mc ms cs ss k t : Nat} {Q : Po} {ex : Hp} {o : Nat → Int64} {K : Mem → Prop}  (ht : tok t) (hd : 5 ≤ d) (hcs : cs ≤ mc) (hss : ss ≤ ms) (hQ : ∀ (m : Mem), K m → Q (.inl none) (lay t ex o m) k) {E116 : Int32 → Int32 → Int32 → Int32 → Int32 → Mem → Prop} (hE116 : ∀ (x3 : Int32) (x4 : Int32) (x5 : Int32) (x6 : Int32) (x7 : Int32) (m : Mem), E116 x3 x4 x5 x6 x7 m → AW Z mX0_reckon d k0 mc ms Q 116 [.ref 21, .ref 2, .ref 14, .int x3, .int x4, .int x5, .int x6, .int x7, .null, .null] [] (lay t ex o m) k cs ss) : ∀ (n : Nat) (x3 : Int32) (x4 : Int32) (x5 : Int32) (x6 : Int32) (x7 : Int32) (m : Mem),  w_A_reckon_33 n 21 x3 x4 x5 x6 x7 m E116 K → AW Z mX0_reckon d k0 mc ms Q 33 [.ref 21, .ref 2, .ref 14, .int x3, .int x4, .int x5, .int x6, .int x7, .null, .null] [] (lay t ex o m) k cs ss := by
  intro n
  induction n with
  | zero =>
    intros; rename_i hw; exact absurd hw (by simp [w_A_reckon_33])
  | succ n ih =>
    intro x3 x4 x5 x6 x7 m hw
    unfold w_A_reckon_33 at hw
    refine AW.iload (pc := 33) dX0_reckon_33 rfl ?_
    refine AW.bipush (v := 24) (pc := 35) dX0_reckon_35 (by decide) ?_
    refine AW.icmp_ge (pc := 37) (tgt := 116) dX0_reckon_37 (by decide) (fun c4 => ?_) (fun c4 => ?_)
    · have hw := hw.1 c4
      exact hE116 x3 x4 x5 x6 x7 m hw
    · have hw := hw.2 c4
      refine AW.aload_n (pc := 40) dX0_reckon_40 rfl rfl ?_
      refine LW.get (pc := 41) (f := 0) (ci := 0) (T := TX0) ht (by decide) rfl dX0_reckon_41 tw_538 rfl (by decide) rfl ?_
      refine AW.iload (pc := 44) dX0_reckon_44 rfl ?_
      obtain ⟨hin, hw⟩ := hw
      refine LW.iald (pc := 46) (j := x7.toNatClampNeg) ht (by decide) rfl dX0_reckon_46 hin rfl ?_
      refine AW.bipush (v := -2) (pc := 47) dX0_reckon_47 (by decide) ?_
      refine AW.icmp_ne (pc := 49) (tgt := 110) dX0_reckon_49 (by decide) (fun c5 => ?_) (fun c5 => ?_)
      · have hw := hw.1 c5
        refine AW.iinc (v := (x7 + 1)) (L' := [.ref 21, .ref 2, .ref 14, .int x3, .int x4, .int x5, .int x6, .int (x7 + 1), .null, .null]) (pc := 110) dX0_reckon_110 rfl rfl (by decide) rfl rfl ?_
        refine AW.goto (pc := 113) (tgt := 33) dX0_reckon_113 (by decide) ?_
        exact ih x3 x4 x5 x6 (x7 + 1) m hw
      · have hw := hw.2 c5
        refine AW.aload_n (pc := 52) dX0_reckon_52 rfl rfl ?_
        refine AW.iload (pc := 53) dX0_reckon_53 rfl ?_
        refine AW.callV (pc := 55) (S' := []) dX0_reckon_55 (c_C_firstLineOf (d := d - 1) ht (by omega) hw) ok_X1_firstLineOf tw_121 tw_122 tw_120 (fix_pos (by decide)) (lay_at ht (by decide)) (show aw_cl[1]? = some _ from rfl) rfl rfl (by omega) rfl (Nat.le_of_ble_eq_true rfl) (by omega) (by omega) ?_ (fun E h' k' hq => by obtain ⟨rfl, r7, m6, hv, -⟩ := hq; cases hv)
        intro v h' k' hq
        obtain ⟨rfl, r7, m6, hv, rfl, hw⟩ := hq
        cases hv
        show AW _ _ _ _ _ _ _ 58 [.ref 21, .ref 2, .ref 14, .int x3, .int x4, .int x5, .int x6, .int x7, .null, .null] [.int r7] (lay t ex o m6) k _ _
        refine AW.istore (L' := [.ref 21, .ref 2, .ref 14, .int x3, .int x4, .int x5, .int x6, .int x7, .int r7, .null]) (pc := 58) dX0_reckon_58 (by decide) rfl rfl ?_
        refine AW.iload (pc := 60) dX0_reckon_60 rfl ?_
        refine AW.iconst (v := -1) (pc := 62) dX0_reckon_62 (by decide) ?_
        have hw := hw (fun v8 m9 => AW Z mX0_reckon d k0 mc ms Q 88 [.ref 21, .ref 2, .ref 14, .int x3, .int x4, .int x5, .int x6, .int x7, .int r7, .null] [.int v8] (lay t ex o m9) k (cs) (ss)) (by
            intro v8 m9 hw
            refine AW.istore (L' := [.ref 21, .ref 2, .ref 14, .int x3, .int x4, .int x5, .int x6, .int x7, .int r7, .int v8]) (pc := 88) dX0_reckon_88 (by decide) rfl rfl ?_
            refine AW.aload_n (pc := 90) dX0_reckon_90 rfl rfl ?_
            refine LW.get (pc := 91) (f := 0) (ci := 0) (T := TX0) ht (by decide) rfl dX0_reckon_91 tw_538 rfl (by decide) rfl ?_
            refine AW.iload (pc := 94) dX0_reckon_94 rfl ?_
            refine AW.aload_n (pc := 96) dX0_reckon_96 rfl rfl ?_
            refine AW.aload_n (pc := 97) dX0_reckon_97 rfl rfl ?_
            refine AW.aload_n (pc := 98) dX0_reckon_98 rfl rfl ?_
            refine AW.iload (pc := 99) dX0_reckon_99 rfl ?_
            refine AW.iload (pc := 101) dX0_reckon_101 rfl ?_
            refine AW.callV (pc := 103) (S' := [.int x7, .ref 22]) dX0_reckon_103 (c_A_arrivalBy_21 (d := d - 1) ht (by omega) hw) ok_X0_arrivalBy tw_363 ts_19 tw_361 (fix_pos (by decide)) (lay_at ht (by decide)) (show aw_cl[0]? = some _ from rfl) rfl rfl (by omega) rfl (Nat.le_of_ble_eq_true rfl) (by omega) (by omega) ?_ (fun E h' k' hq => by obtain ⟨rfl, r14, m13, hv, -⟩ := hq; cases hv)
            intro v h' k' hq
            obtain ⟨rfl, r14, m13, hv, rfl, hw⟩ := hq
            cases hv
            show AW _ _ _ _ _ _ _ 106 [.ref 21, .ref 2, .ref 14, .int x3, .int x4, .int x5, .int x6, .int x7, .int r7, .int v8] [.int r14, .int x7, .ref 22] (lay t ex o m13) k _ _
            obtain ⟨hin, hw⟩ := hw
            have hw := hw _ rfl
            refine LW.iast (pc := 106) (j := x7.toNatClampNeg) ht (by decide) (fun _ => rfl) dX0_reckon_106 hin rfl ?_
            generalize up2 m13 22 (x7.toNatClampNeg) r14 = m15 at hw ⊢
            refine AW.iconst (v := 1) (pc := 107) dX0_reckon_107 (by decide) ?_
            refine AW.istore (L' := [.ref 21, .ref 2, .ref 14, .int x3, .int x4, .int (1 : Int32), .int x6, .int x7, .int r7, .int v8]) (pc := 108) dX0_reckon_108 (by decide) rfl rfl ?_
            refine AW.iinc (v := (x7 + 1)) (L' := [.ref 21, .ref 2, .ref 14, .int x3, .int x4, .int (1 : Int32), .int x6, .int (x7 + 1), .int r7, .int v8]) (pc := 110) dX0_reckon_110 rfl rfl (by decide) rfl rfl ?_
            refine AW.goto (pc := 113) (tgt := 33) dX0_reckon_113 (by decide) ?_
            refine AW.locals (L' := [.ref 21, .ref 2, .ref 14, .int x3, .int x4, .int (1 : Int32), .int x6, .int (x7 + 1), .null, .null]) (aw_fewer_same (aw_fewer_same (aw_fewer_same (aw_fewer_same (aw_fewer_same (aw_fewer_same (aw_fewer_same (aw_fewer_same (aw_fewer_null (aw_fewer_null aw_fewer_nil)))))))))) ?_
            exact ih x3 x4 (1 : Int32) x6 (x7 + 1) m15 hw)
        refine AW.icmp_ne (pc := 63) (tgt := 70) dX0_reckon_63 (by decide) (fun c11 => ?_) (fun c11 => ?_)
        · have hw := hw.1 c11
          refine AW.iload (pc := 70) dX0_reckon_70 rfl ?_
          refine AW.iload_n (pc := 72) dX0_reckon_72 rfl rfl ?_
          refine AW.icmp_ne (pc := 73) (tgt := 81) dX0_reckon_73 (by decide) (fun c12 => ?_) (fun c12 => ?_)
          · have hw := hw.1 c12
            refine AW.aload_n (pc := 81) dX0_reckon_81 rfl rfl ?_
            refine LW.getN (pc := 82) (f := 5) (ci := 1) (T := TX1) ht (by decide) rfl dX0_reckon_82 tw_459 rfl (by decide) rfl ?_
            refine AW.iload (pc := 85) dX0_reckon_85 rfl ?_
            obtain ⟨hin, hw⟩ := hw
            refine LW.iald (pc := 87) (j := r7.toNatClampNeg) ht (by decide) rfl dX0_reckon_87 hin rfl ?_
            exact hw
          · have hw := hw.2 c12
            refine AW.iload (pc := 76) dX0_reckon_76 rfl ?_
            refine AW.goto (pc := 78) (tgt := 88) dX0_reckon_78 (by decide) ?_
            exact hw
        · have hw := hw.2 c11
          refine AW.iconst (v := 0) (pc := 66) dX0_reckon_66 (by decide) ?_
          refine AW.goto (pc := 67) (tgt := 88) dX0_reckon_67 (by decide) ?_
          exact hw
set_option maxRecDepth 100000 in
set_option maxHeartbeats 4000000 in
theorem l_A_reckon_21_15 {Z : Gz} {d k0 mc ms cs ss k t : Nat} {Q : Po} {ex : Hp} {o : Nat → Int64} {K : Mem → Prop}  (ht : tok t) (hd : 5 ≤ d) (hcs : cs ≤ mc) (hss : ss ≤ ms) (hQ : ∀ (m : Mem), K m → Q (.inl none) (lay t ex o m) k) {E122 : Int32 → Int32 → Int32 → Int32 → Mem → Prop} (hE122 : ∀ (x3 : Int32) (x4 : Int32) (x5 : Int32) (x6 : Int32) (m : Mem), E122 x3 x4 x5 x6 m → AW Z mX0_reckon d k0 mc ms Q 122 [.ref 21, .ref 2, .ref 14, .int x3, .int x4, .int x5, .int x6, .null, .null, .null] [] (lay t ex o m) k cs ss) : ∀ (n : Nat) (x3 : Int32) (x4 : Int32) (x5 : Int32) (x6 : Int32) (m : Mem),  w_A_reckon_15 n 21 x3 x4 x5 x6 m E122 K → AW Z mX0_reckon d k0 mc ms Q 15 [.ref 21, .ref 2, .ref 14, .int x3, .int x4, .int x5, .int x6, .null, .null, .null] [] (lay t ex o m) k cs ss := by
  intro n
  induction n with
  | zero =>
    intros; rename_i hw; exact absurd hw (by simp [w_A_reckon_15])
  | succ n ih =>
    intro x3 x4 x5 x6 m hw
    unfold w_A_reckon_15 at hw
    refine AW.iload (pc := 15) dX0_reckon_15 rfl ?_
    refine AW.if_eq (pc := 17) (tgt := 122) dX0_reckon_17 (by decide) (fun c2 => ?_) (fun c2 => ?_)
    · have hw := hw.1 c2
      exact hE122 x3 x4 x5 x6 m hw
    · have hw := hw.2 c2
      refine AW.iload (pc := 20) dX0_reckon_20 rfl ?_
      refine AW.bipush (v := 24) (pc := 22) dX0_reckon_22 (by decide) ?_
      refine AW.icmp_ge (pc := 24) (tgt := 122) dX0_reckon_24 (by decide) (fun c3 => ?_) (fun c3 => ?_)
      · have hw := hw.1 c3
        exact hE122 x3 x4 x5 x6 m hw
      · have hw := hw.2 c3
        refine AW.iconst (v := 0) (pc := 27) dX0_reckon_27 (by decide) ?_
        refine AW.istore (L' := [.ref 21, .ref 2, .ref 14, .int x3, .int x4, .int (0 : Int32), .int x6, .null, .null, .null]) (pc := 28) dX0_reckon_28 (by decide) rfl rfl ?_
        refine AW.iconst (v := 0) (pc := 30) dX0_reckon_30 (by decide) ?_
        refine AW.istore (L' := [.ref 21, .ref 2, .ref 14, .int x3, .int x4, .int (0 : Int32), .int x6, .int (0 : Int32), .null, .null]) (pc := 31) dX0_reckon_31 (by decide) rfl rfl ?_
        refine l_A_reckon_21_33 ht hd (by omega) (by omega) hQ ?_ 25 x3 x4 (0 : Int32) x6 (0 : Int32) m hw
        intro y16 y17 y18 y19 y20 m21 hw
        refine AW.iinc (v := (y19 + 1)) (L' := [.ref 21, .ref 2, .ref 14, .int y16, .int y17, .int y18, .int (y19 + 1), .int y20, .null, .null]) (pc := 116) dX0_reckon_116 rfl rfl (by decide) rfl rfl ?_
        refine AW.goto (pc := 119) (tgt := 15) dX0_reckon_119 (by decide) ?_
        refine AW.locals (L' := [.ref 21, .ref 2, .ref 14, .int y16, .int y17, .int y18, .int (y19 + 1), .null, .null, .null]) (aw_fewer_same (aw_fewer_same (aw_fewer_same (aw_fewer_same (aw_fewer_same (aw_fewer_same (aw_fewer_same (aw_fewer_null (aw_fewer_null (aw_fewer_null aw_fewer_nil)))))))))) ?_
        exact ih y16 y17 y18 (y19 + 1) m21 hw
set_option maxRecDepth 100000 in
set_option maxHeartbeats 4000000 in
theorem b_A_reckon_21 {Z : Gz} {d k0 mc ms cs ss k t : Nat} {Q : Po} {ex : Hp} {o : Nat → Int64} {K : Mem → Prop}  (ht : tok t) (hd : 5 ≤ d) (hcs : cs + 0 ≤ mc) (hss : ss + 0 ≤ ms) (hQ : ∀ (m : Mem), K m → Q (.inl none) (lay t ex o m) k) {m : Mem} (p3 : Int32) (p4 : Int32) (hw : w_A_reckon 21 p3 p4 m K) : AW Z mX0_reckon d k0 mc ms Q 0 [.ref 21, .ref 2, .ref 14, .int p3, .int p4, .null, .null, .null, .null, .null] [] (lay t ex o m) k cs ss := by
  unfold w_A_reckon at hw
  refine AW.aload_n (pc := 0) dX0_reckon_0 rfl rfl ?_
  refine LW.get (pc := 1) (f := 0) (ci := 0) (T := TX0) ht (by decide) rfl dX0_reckon_1 tw_538 rfl (by decide) rfl ?_
  refine AW.bipush (v := -2) (pc := 4) dX0_reckon_4 (by decide) ?_
  have hw := hw _ rfl
  refine AW.callS (pc := 6) (S' := []) dX0_reckon_6 (c_J_fill (i := 22) (n := 24) (d := d - 1) ht (by omega) (by decide) (by decide) (fun _ => rfl)) ok_J7_fill_53178 tw_196 tw_360 rfl (by omega) rfl (Nat.le_of_ble_eq_true rfl) (by omega) (by omega) ?_ (fun E h' k' hq => by obtain ⟨hv, -⟩ := hq; cases hv)
  intro v h' k' hq
  obtain ⟨hv, rfl, rfl⟩ := hq
  cases hv
  show AW _ _ _ _ _ _ _ 9 [.ref 21, .ref 2, .ref 14, .int p3, .int p4, .null, .null, .null, .null, .null] [] (lay t ex o (va_up m 22 (jfill (m 22) 24 (-2 : Int32)))) k _ _
  generalize va_up m 22 (jfill (m 22) 24 (-2 : Int32)) = m1 at hw ⊢
  refine AW.iconst (v := 1) (pc := 9) dX0_reckon_9 (by decide) ?_
  refine AW.istore (L' := [.ref 21, .ref 2, .ref 14, .int p3, .int p4, .int (1 : Int32), .null, .null, .null, .null]) (pc := 10) dX0_reckon_10 (by decide) rfl rfl ?_
  refine AW.iconst (v := 0) (pc := 12) dX0_reckon_12 (by decide) ?_
  refine AW.istore (L' := [.ref 21, .ref 2, .ref 14, .int p3, .int p4, .int (1 : Int32), .int (0 : Int32), .null, .null, .null]) (pc := 13) dX0_reckon_13 (by decide) rfl rfl ?_
  refine l_A_reckon_21_15 ht hd (by omega) (by omega) hQ ?_ 25 p3 p4 (1 : Int32) (0 : Int32) m1 hw
  intro y22 y23 y24 y25 m26 hw
  exact AW.vret (pc := 122) dX0_reckon_122 rfl (by omega) (by omega) (hQ _ hw)
set_option maxRecDepth 100000 in
set_option maxHeartbeats 4000000 in
theorem c_A_reckon_21 {d k t : Nat} {ex : Hp} {o : Nat → Int64} {K : Mem → Prop} {m : Mem} {p3 : Int32} {p4 : Int32} (ht : tok t) (hd : 5 ≤ d) (hw : w_A_reckon 21 p3 p4 m K) : AM mX0_reckon d [.ref 21, .ref 2, .ref 14, .int p3, .int p4] (lay t ex o m) k 0 0 (fun oc h' k' => k = k' ∧ ∃ (m' : Mem), oc = .inl none ∧ h' = lay t ex o m' ∧ K m') :=
  AM.intro (μ := mX0_reckon) (n := 5) (by decide) rfl rfl rfl (b_A_reckon_21 ht hd (by omega) (by omega) (fun _ hK => ⟨rfl, _, rfl, rfl, hK⟩) p3 p4 hw)
def w_A_wireBehind (r : Nat) (p2 : Int32) (m : Mem) (K : Int32 → Mem → Prop) : Prop :=
  w_C_firstLineOf p2 m (fun r2 m1 => ((r2 = (-1 : Int32) → K (-1 : Int32) m1) ∧ (¬ (r2 = (-1 : Int32)) → w_C_isGate r2 m1 (fun r5 m4 => ((¬ (r5 = 0) → vp_in r2 30 ∧ vp_in r2 30 ∧ w_A_arrivalOf r (m4 6 (r2).toNatClampNeg) m4 (fun r8 m7 => w_A_arrivalOf r (m4 5 (r2).toNatClampNeg) m7 (fun r10 m9 => (∀ J13 : Int32 → Mem → Prop, (∀ (v11 : Int32) (m12 : Mem), (vp_in r2 30 ∧ w_A_arrivalOf r (m12 7 (r2).toNatClampNeg) m12 (fun r16 m15 => w_A_arrivalOf r v11 m15 (fun r18 m17 => ((r16 ≤ r18 → K v11 m17) ∧ (¬ (r16 ≤ r18) → vp_in r2 30 ∧ K (m17 7 (r2).toNatClampNeg) m17))))) → J13 v11 m12) → ((r8 ≤ r10 → J13 (m4 5 (r2).toNatClampNeg) m9) ∧ (¬ (r8 ≤ r10) → vp_in r2 30 ∧ J13 (m9 6 (r2).toNatClampNeg) m9)))))) ∧ (r5 = 0 → K (-1 : Int32) m4))))))
set_option maxRecDepth 100000 in
set_option maxHeartbeats 4000000 in
theorem b_A_wireBehind_19 {Z : Gz} {d k0 mc ms cs ss k t : Nat} {Q : Po} {ex : Hp} {o : Nat → Int64} {K : Int32 → Mem → Prop}  (ht : tok t) (hd : 4 ≤ d) (hcs : cs + 0 ≤ mc) (hss : ss + 0 ≤ ms) (hQ : ∀ (r : Int32) (m : Mem), K r m → Q (.inl (some (.int r))) (lay t ex o m) k) {m : Mem} (p2 : Int32) (hw : w_A_wireBehind 19 p2 m K) : AW Z mX0_wireBehind d k0 mc ms Q 0 [.ref 19, .ref 2, .int p2, .null, .null] [] (lay t ex o m) k cs ss := by
  unfold w_A_wireBehind at hw
  refine AW.aload_n (pc := 0) dX0_wireBehind_0 rfl rfl ?_
  refine AW.iload_n (pc := 1) dX0_wireBehind_1 rfl rfl ?_
  refine AW.callV (pc := 2) (S' := []) dX0_wireBehind_2 (c_C_firstLineOf (d := d - 1) ht (by omega) hw) ok_X1_firstLineOf tw_121 tw_122 tw_120 (fix_pos (by decide)) (lay_at ht (by decide)) (show aw_cl[1]? = some _ from rfl) rfl rfl (by omega) rfl (Nat.le_of_ble_eq_true rfl) (by omega) (by omega) ?_ (fun E h' k' hq => by obtain ⟨rfl, r2, m1, hv, -⟩ := hq; cases hv)
  intro v h' k' hq
  obtain ⟨rfl, r2, m1, hv, rfl, hw⟩ := hq
  cases hv
  show AW _ _ _ _ _ _ _ 5 [.ref 19, .ref 2, .int p2, .null, .null] [.int r2] (lay t ex o m1) k _ _
  refine AW.istore_n (L' := [.ref 19, .ref 2, .int p2, .int r2, .null]) (pc := 5) dX0_wireBehind_5 rfl (by decide) rfl rfl ?_
  refine AW.iload_n (pc := 6) dX0_wireBehind_6 rfl rfl ?_
  refine AW.iconst (v := -1) (pc := 7) dX0_wireBehind_7 (by decide) ?_
  refine AW.icmp_eq (pc := 8) (tgt := 19) dX0_wireBehind_8 (by decide) (fun c3 => ?_) (fun c3 => ?_)
  · have hw := hw.1 c3
    refine AW.iconst (v := -1) (pc := 19) dX0_wireBehind_19 (by decide) ?_
    exact AW.iret (pc := 20) dX0_wireBehind_20 rfl rfl (by omega) (by omega) (hQ _ _ hw)
  · have hw := hw.2 c3
    refine AW.aload_n (pc := 11) dX0_wireBehind_11 rfl rfl ?_
    refine AW.iload_n (pc := 12) dX0_wireBehind_12 rfl rfl ?_
    refine AW.callV (pc := 13) (S' := []) dX0_wireBehind_13 (c_C_isGate (d := d - 1) ht (by omega) hw) ok_X1_isGate tw_126 tw_127 tw_125 (fix_pos (by decide)) (lay_at ht (by decide)) (show aw_cl[1]? = some _ from rfl) rfl rfl (by omega) rfl (Nat.le_of_ble_eq_true rfl) (by omega) (by omega) ?_ (fun E h' k' hq => by obtain ⟨rfl, r5, m4, hv, -⟩ := hq; cases hv)
    intro v h' k' hq
    obtain ⟨rfl, r5, m4, hv, rfl, hw⟩ := hq
    cases hv
    show AW _ _ _ _ _ _ _ 16 [.ref 19, .ref 2, .int p2, .int r2, .null] [.int r5] (lay t ex o m4) k _ _
    refine AW.if_ne (pc := 16) (tgt := 21) dX0_wireBehind_16 (by decide) (fun c6 => ?_) (fun c6 => ?_)
    · have hw := hw.1 c6
      refine AW.aload_n (pc := 21) dX0_wireBehind_21 rfl rfl ?_
      refine LW.getN (pc := 22) (f := 2) (ci := 1) (T := TX1) ht (by decide) rfl dX0_wireBehind_22 tw_450 rfl (by decide) rfl ?_
      refine AW.iload_n (pc := 25) dX0_wireBehind_25 rfl rfl ?_
      obtain ⟨hin, hw⟩ := hw
      refine LW.iald (pc := 26) (j := r2.toNatClampNeg) ht (by decide) rfl dX0_wireBehind_26 hin rfl ?_
      refine AW.istore (L' := [.ref 19, .ref 2, .int p2, .int r2, .int (m4 5 (r2).toNatClampNeg)]) (pc := 27) dX0_wireBehind_27 (by decide) rfl rfl ?_
      refine AW.aload_n (pc := 29) dX0_wireBehind_29 rfl rfl ?_
      refine AW.aload_n (pc := 30) dX0_wireBehind_30 rfl rfl ?_
      refine LW.getN (pc := 31) (f := 3) (ci := 1) (T := TX1) ht (by decide) rfl dX0_wireBehind_31 tw_453 rfl (by decide) rfl ?_
      refine AW.iload_n (pc := 34) dX0_wireBehind_34 rfl rfl ?_
      obtain ⟨hin, hw⟩ := hw
      refine LW.iald (pc := 35) (j := r2.toNatClampNeg) ht (by decide) rfl dX0_wireBehind_35 hin rfl ?_
      refine AW.callV (pc := 36) (S' := []) dX0_wireBehind_36 (c_A_arrivalOf_19 (d := d - 1) ht (by omega) hw) ok_X0_arrivalOf tw_131 ts_1 tw_129 (fix_pos (by decide)) (lay_at ht (by decide)) (show aw_cl[0]? = some _ from rfl) rfl rfl (by omega) rfl (Nat.le_of_ble_eq_true rfl) (by omega) (by omega) ?_ (fun E h' k' hq => by obtain ⟨rfl, r8, m7, hv, -⟩ := hq; cases hv)
      intro v h' k' hq
      obtain ⟨rfl, r8, m7, hv, rfl, hw⟩ := hq
      cases hv
      show AW _ _ _ _ _ _ _ 39 [.ref 19, .ref 2, .int p2, .int r2, .int (m4 5 (r2).toNatClampNeg)] [.int r8] (lay t ex o m7) k _ _
      refine AW.aload_n (pc := 39) dX0_wireBehind_39 rfl rfl ?_
      refine AW.iload (pc := 40) dX0_wireBehind_40 rfl ?_
      refine AW.callV (pc := 42) (S' := [.int r8]) dX0_wireBehind_42 (c_A_arrivalOf_19 (d := d - 1) ht (by omega) hw) ok_X0_arrivalOf tw_131 ts_1 tw_129 (fix_pos (by decide)) (lay_at ht (by decide)) (show aw_cl[0]? = some _ from rfl) rfl rfl (by omega) rfl (Nat.le_of_ble_eq_true rfl) (by omega) (by omega) ?_ (fun E h' k' hq => by obtain ⟨rfl, r10, m9, hv, -⟩ := hq; cases hv)
      intro v h' k' hq
      obtain ⟨rfl, r10, m9, hv, rfl, hw⟩ := hq
      cases hv
      show AW _ _ _ _ _ _ _ 45 [.ref 19, .ref 2, .int p2, .int r2, .int (m4 5 (r2).toNatClampNeg)] [.int r10, .int r8] (lay t ex o m9) k _ _
      have hw := hw (fun v11 m12 => AW Z mX0_wireBehind d k0 mc ms Q 56 [.ref 19, .ref 2, .int p2, .int r2, .int v11] [] (lay t ex o m12) k (cs) (ss)) (by
          intro v11 m12 hw
          refine AW.aload_n (pc := 56) dX0_wireBehind_56 rfl rfl ?_
          refine AW.aload_n (pc := 57) dX0_wireBehind_57 rfl rfl ?_
          refine LW.getN (pc := 58) (f := 4) (ci := 1) (T := TX1) ht (by decide) rfl dX0_wireBehind_58 tw_456 rfl (by decide) rfl ?_
          refine AW.iload_n (pc := 61) dX0_wireBehind_61 rfl rfl ?_
          obtain ⟨hin, hw⟩ := hw
          refine LW.iald (pc := 62) (j := r2.toNatClampNeg) ht (by decide) rfl dX0_wireBehind_62 hin rfl ?_
          refine AW.callV (pc := 63) (S' := []) dX0_wireBehind_63 (c_A_arrivalOf_19 (d := d - 1) ht (by omega) hw) ok_X0_arrivalOf tw_131 ts_1 tw_129 (fix_pos (by decide)) (lay_at ht (by decide)) (show aw_cl[0]? = some _ from rfl) rfl rfl (by omega) rfl (Nat.le_of_ble_eq_true rfl) (by omega) (by omega) ?_ (fun E h' k' hq => by obtain ⟨rfl, r16, m15, hv, -⟩ := hq; cases hv)
          intro v h' k' hq
          obtain ⟨rfl, r16, m15, hv, rfl, hw⟩ := hq
          cases hv
          show AW _ _ _ _ _ _ _ 66 [.ref 19, .ref 2, .int p2, .int r2, .int v11] [.int r16] (lay t ex o m15) k _ _
          refine AW.aload_n (pc := 66) dX0_wireBehind_66 rfl rfl ?_
          refine AW.iload (pc := 67) dX0_wireBehind_67 rfl ?_
          refine AW.callV (pc := 69) (S' := [.int r16]) dX0_wireBehind_69 (c_A_arrivalOf_19 (d := d - 1) ht (by omega) hw) ok_X0_arrivalOf tw_131 ts_1 tw_129 (fix_pos (by decide)) (lay_at ht (by decide)) (show aw_cl[0]? = some _ from rfl) rfl rfl (by omega) rfl (Nat.le_of_ble_eq_true rfl) (by omega) (by omega) ?_ (fun E h' k' hq => by obtain ⟨rfl, r18, m17, hv, -⟩ := hq; cases hv)
          intro v h' k' hq
          obtain ⟨rfl, r18, m17, hv, rfl, hw⟩ := hq
          cases hv
          show AW _ _ _ _ _ _ _ 72 [.ref 19, .ref 2, .int p2, .int r2, .int v11] [.int r18, .int r16] (lay t ex o m17) k _ _
          refine AW.icmp_le (pc := 72) (tgt := 83) dX0_wireBehind_72 (by decide) (fun c19 => ?_) (fun c19 => ?_)
          · have hw := hw.1 c19
            refine AW.iload (pc := 83) dX0_wireBehind_83 rfl ?_
            exact AW.iret (pc := 85) dX0_wireBehind_85 rfl rfl (by omega) (by omega) (hQ _ _ hw)
          · have hw := hw.2 c19
            refine AW.aload_n (pc := 75) dX0_wireBehind_75 rfl rfl ?_
            refine LW.getN (pc := 76) (f := 4) (ci := 1) (T := TX1) ht (by decide) rfl dX0_wireBehind_76 tw_456 rfl (by decide) rfl ?_
            refine AW.iload_n (pc := 79) dX0_wireBehind_79 rfl rfl ?_
            obtain ⟨hin, hw⟩ := hw
            refine LW.iald (pc := 80) (j := r2.toNatClampNeg) ht (by decide) rfl dX0_wireBehind_80 hin rfl ?_
            refine AW.istore (L' := [.ref 19, .ref 2, .int p2, .int r2, .int (m17 7 (r2).toNatClampNeg)]) (pc := 81) dX0_wireBehind_81 (by decide) rfl rfl ?_
            refine AW.iload (pc := 83) dX0_wireBehind_83 rfl ?_
            exact AW.iret (pc := 85) dX0_wireBehind_85 rfl rfl (by omega) (by omega) (hQ _ _ hw))
      refine AW.icmp_le (pc := 45) (tgt := 56) dX0_wireBehind_45 (by decide) (fun c14 => ?_) (fun c14 => ?_)
      · have hw := hw.1 c14
        exact hw
      · have hw := hw.2 c14
        refine AW.aload_n (pc := 48) dX0_wireBehind_48 rfl rfl ?_
        refine LW.getN (pc := 49) (f := 3) (ci := 1) (T := TX1) ht (by decide) rfl dX0_wireBehind_49 tw_453 rfl (by decide) rfl ?_
        refine AW.iload_n (pc := 52) dX0_wireBehind_52 rfl rfl ?_
        obtain ⟨hin, hw⟩ := hw
        refine LW.iald (pc := 53) (j := r2.toNatClampNeg) ht (by decide) rfl dX0_wireBehind_53 hin rfl ?_
        refine AW.istore (L' := [.ref 19, .ref 2, .int p2, .int r2, .int (m9 6 (r2).toNatClampNeg)]) (pc := 54) dX0_wireBehind_54 (by decide) rfl rfl ?_
        exact hw
    · have hw := hw.2 c6
      refine AW.iconst (v := -1) (pc := 19) dX0_wireBehind_19 (by decide) ?_
      exact AW.iret (pc := 20) dX0_wireBehind_20 rfl rfl (by omega) (by omega) (hQ _ _ hw)
set_option maxRecDepth 100000 in
set_option maxHeartbeats 4000000 in
theorem c_A_wireBehind_19 {d k t : Nat} {ex : Hp} {o : Nat → Int64} {K : Int32 → Mem → Prop} {m : Mem} {p2 : Int32} (ht : tok t) (hd : 4 ≤ d) (hw : w_A_wireBehind 19 p2 m K) : AM mX0_wireBehind d [.ref 19, .ref 2, .int p2] (lay t ex o m) k 0 0 (fun oc h' k' => k = k' ∧ ∃ (r : Int32) (m' : Mem), oc = .inl (some (.int r)) ∧ h' = lay t ex o m' ∧ K r m') :=
  AM.intro (μ := mX0_wireBehind) (n := 2) (by decide) rfl rfl rfl (b_A_wireBehind_19 ht hd (by omega) (by omega) (fun _ _ hK => ⟨rfl, _, _, rfl, rfl, hK⟩) p2 hw)
set_option maxRecDepth 100000 in
set_option maxHeartbeats 4000000 in
theorem b_A_wireBehind_21 {Z : Gz} {d k0 mc ms cs ss k t : Nat} {Q : Po} {ex : Hp} {o : Nat → Int64} {K : Int32 → Mem → Prop}  (ht : tok t) (hd : 4 ≤ d) (hcs : cs + 0 ≤ mc) (hss : ss + 0 ≤ ms) (hQ : ∀ (r : Int32) (m : Mem), K r m → Q (.inl (some (.int r))) (lay t ex o m) k) {m : Mem} (p2 : Int32) (hw : w_A_wireBehind 21 p2 m K) : AW Z mX0_wireBehind d k0 mc ms Q 0 [.ref 21, .ref 2, .int p2, .null, .null] [] (lay t ex o m) k cs ss := by
  unfold w_A_wireBehind at hw
  refine AW.aload_n (pc := 0) dX0_wireBehind_0 rfl rfl ?_
  refine AW.iload_n (pc := 1) dX0_wireBehind_1 rfl rfl ?_
  refine AW.callV (pc := 2) (S' := []) dX0_wireBehind_2 (c_C_firstLineOf (d := d - 1) ht (by omega) hw) ok_X1_firstLineOf tw_121 tw_122 tw_120 (fix_pos (by decide)) (lay_at ht (by decide)) (show aw_cl[1]? = some _ from rfl) rfl rfl (by omega) rfl (Nat.le_of_ble_eq_true rfl) (by omega) (by omega) ?_ (fun E h' k' hq => by obtain ⟨rfl, r2, m1, hv, -⟩ := hq; cases hv)
  intro v h' k' hq
  obtain ⟨rfl, r2, m1, hv, rfl, hw⟩ := hq
  cases hv
  show AW _ _ _ _ _ _ _ 5 [.ref 21, .ref 2, .int p2, .null, .null] [.int r2] (lay t ex o m1) k _ _
  refine AW.istore_n (L' := [.ref 21, .ref 2, .int p2, .int r2, .null]) (pc := 5) dX0_wireBehind_5 rfl (by decide) rfl rfl ?_
  refine AW.iload_n (pc := 6) dX0_wireBehind_6 rfl rfl ?_
  refine AW.iconst (v := -1) (pc := 7) dX0_wireBehind_7 (by decide) ?_
  refine AW.icmp_eq (pc := 8) (tgt := 19) dX0_wireBehind_8 (by decide) (fun c3 => ?_) (fun c3 => ?_)
  · have hw := hw.1 c3
    refine AW.iconst (v := -1) (pc := 19) dX0_wireBehind_19 (by decide) ?_
    exact AW.iret (pc := 20) dX0_wireBehind_20 rfl rfl (by omega) (by omega) (hQ _ _ hw)
  · have hw := hw.2 c3
    refine AW.aload_n (pc := 11) dX0_wireBehind_11 rfl rfl ?_
    refine AW.iload_n (pc := 12) dX0_wireBehind_12 rfl rfl ?_
    refine AW.callV (pc := 13) (S' := []) dX0_wireBehind_13 (c_C_isGate (d := d - 1) ht (by omega) hw) ok_X1_isGate tw_126 tw_127 tw_125 (fix_pos (by decide)) (lay_at ht (by decide)) (show aw_cl[1]? = some _ from rfl) rfl rfl (by omega) rfl (Nat.le_of_ble_eq_true rfl) (by omega) (by omega) ?_ (fun E h' k' hq => by obtain ⟨rfl, r5, m4, hv, -⟩ := hq; cases hv)
    intro v h' k' hq
    obtain ⟨rfl, r5, m4, hv, rfl, hw⟩ := hq
    cases hv
    show AW _ _ _ _ _ _ _ 16 [.ref 21, .ref 2, .int p2, .int r2, .null] [.int r5] (lay t ex o m4) k _ _
    refine AW.if_ne (pc := 16) (tgt := 21) dX0_wireBehind_16 (by decide) (fun c6 => ?_) (fun c6 => ?_)
    · have hw := hw.1 c6
      refine AW.aload_n (pc := 21) dX0_wireBehind_21 rfl rfl ?_
      refine LW.getN (pc := 22) (f := 2) (ci := 1) (T := TX1) ht (by decide) rfl dX0_wireBehind_22 tw_450 rfl (by decide) rfl ?_
      refine AW.iload_n (pc := 25) dX0_wireBehind_25 rfl rfl ?_
      obtain ⟨hin, hw⟩ := hw
      refine LW.iald (pc := 26) (j := r2.toNatClampNeg) ht (by decide) rfl dX0_wireBehind_26 hin rfl ?_
      refine AW.istore (L' := [.ref 21, .ref 2, .int p2, .int r2, .int (m4 5 (r2).toNatClampNeg)]) (pc := 27) dX0_wireBehind_27 (by decide) rfl rfl ?_
      refine AW.aload_n (pc := 29) dX0_wireBehind_29 rfl rfl ?_
      refine AW.aload_n (pc := 30) dX0_wireBehind_30 rfl rfl ?_
      refine LW.getN (pc := 31) (f := 3) (ci := 1) (T := TX1) ht (by decide) rfl dX0_wireBehind_31 tw_453 rfl (by decide) rfl ?_
      refine AW.iload_n (pc := 34) dX0_wireBehind_34 rfl rfl ?_
      obtain ⟨hin, hw⟩ := hw
      refine LW.iald (pc := 35) (j := r2.toNatClampNeg) ht (by decide) rfl dX0_wireBehind_35 hin rfl ?_
      refine AW.callV (pc := 36) (S' := []) dX0_wireBehind_36 (c_A_arrivalOf_21 (d := d - 1) ht (by omega) hw) ok_X0_arrivalOf tw_131 ts_1 tw_129 (fix_pos (by decide)) (lay_at ht (by decide)) (show aw_cl[0]? = some _ from rfl) rfl rfl (by omega) rfl (Nat.le_of_ble_eq_true rfl) (by omega) (by omega) ?_ (fun E h' k' hq => by obtain ⟨rfl, r8, m7, hv, -⟩ := hq; cases hv)
      intro v h' k' hq
      obtain ⟨rfl, r8, m7, hv, rfl, hw⟩ := hq
      cases hv
      show AW _ _ _ _ _ _ _ 39 [.ref 21, .ref 2, .int p2, .int r2, .int (m4 5 (r2).toNatClampNeg)] [.int r8] (lay t ex o m7) k _ _
      refine AW.aload_n (pc := 39) dX0_wireBehind_39 rfl rfl ?_
      refine AW.iload (pc := 40) dX0_wireBehind_40 rfl ?_
      refine AW.callV (pc := 42) (S' := [.int r8]) dX0_wireBehind_42 (c_A_arrivalOf_21 (d := d - 1) ht (by omega) hw) ok_X0_arrivalOf tw_131 ts_1 tw_129 (fix_pos (by decide)) (lay_at ht (by decide)) (show aw_cl[0]? = some _ from rfl) rfl rfl (by omega) rfl (Nat.le_of_ble_eq_true rfl) (by omega) (by omega) ?_ (fun E h' k' hq => by obtain ⟨rfl, r10, m9, hv, -⟩ := hq; cases hv)
      intro v h' k' hq
      obtain ⟨rfl, r10, m9, hv, rfl, hw⟩ := hq
      cases hv
      show AW _ _ _ _ _ _ _ 45 [.ref 21, .ref 2, .int p2, .int r2, .int (m4 5 (r2).toNatClampNeg)] [.int r10, .int r8] (lay t ex o m9) k _ _
      have hw := hw (fun v11 m12 => AW Z mX0_wireBehind d k0 mc ms Q 56 [.ref 21, .ref 2, .int p2, .int r2, .int v11] [] (lay t ex o m12) k (cs) (ss)) (by
          intro v11 m12 hw
          refine AW.aload_n (pc := 56) dX0_wireBehind_56 rfl rfl ?_
          refine AW.aload_n (pc := 57) dX0_wireBehind_57 rfl rfl ?_
          refine LW.getN (pc := 58) (f := 4) (ci := 1) (T := TX1) ht (by decide) rfl dX0_wireBehind_58 tw_456 rfl (by decide) rfl ?_
          refine AW.iload_n (pc := 61) dX0_wireBehind_61 rfl rfl ?_
          obtain ⟨hin, hw⟩ := hw
          refine LW.iald (pc := 62) (j := r2.toNatClampNeg) ht (by decide) rfl dX0_wireBehind_62 hin rfl ?_
          refine AW.callV (pc := 63) (S' := []) dX0_wireBehind_63 (c_A_arrivalOf_21 (d := d - 1) ht (by omega) hw) ok_X0_arrivalOf tw_131 ts_1 tw_129 (fix_pos (by decide)) (lay_at ht (by decide)) (show aw_cl[0]? = some _ from rfl) rfl rfl (by omega) rfl (Nat.le_of_ble_eq_true rfl) (by omega) (by omega) ?_ (fun E h' k' hq => by obtain ⟨rfl, r16, m15, hv, -⟩ := hq; cases hv)
          intro v h' k' hq
          obtain ⟨rfl, r16, m15, hv, rfl, hw⟩ := hq
          cases hv
          show AW _ _ _ _ _ _ _ 66 [.ref 21, .ref 2, .int p2, .int r2, .int v11] [.int r16] (lay t ex o m15) k _ _
          refine AW.aload_n (pc := 66) dX0_wireBehind_66 rfl rfl ?_
          refine AW.iload (pc := 67) dX0_wireBehind_67 rfl ?_
          refine AW.callV (pc := 69) (S' := [.int r16]) dX0_wireBehind_69 (c_A_arrivalOf_21 (d := d - 1) ht (by omega) hw) ok_X0_arrivalOf tw_131 ts_1 tw_129 (fix_pos (by decide)) (lay_at ht (by decide)) (show aw_cl[0]? = some _ from rfl) rfl rfl (by omega) rfl (Nat.le_of_ble_eq_true rfl) (by omega) (by omega) ?_ (fun E h' k' hq => by obtain ⟨rfl, r18, m17, hv, -⟩ := hq; cases hv)
          intro v h' k' hq
          obtain ⟨rfl, r18, m17, hv, rfl, hw⟩ := hq
          cases hv
          show AW _ _ _ _ _ _ _ 72 [.ref 21, .ref 2, .int p2, .int r2, .int v11] [.int r18, .int r16] (lay t ex o m17) k _ _
          refine AW.icmp_le (pc := 72) (tgt := 83) dX0_wireBehind_72 (by decide) (fun c19 => ?_) (fun c19 => ?_)
          · have hw := hw.1 c19
            refine AW.iload (pc := 83) dX0_wireBehind_83 rfl ?_
            exact AW.iret (pc := 85) dX0_wireBehind_85 rfl rfl (by omega) (by omega) (hQ _ _ hw)
          · have hw := hw.2 c19
            refine AW.aload_n (pc := 75) dX0_wireBehind_75 rfl rfl ?_
            refine LW.getN (pc := 76) (f := 4) (ci := 1) (T := TX1) ht (by decide) rfl dX0_wireBehind_76 tw_456 rfl (by decide) rfl ?_
            refine AW.iload_n (pc := 79) dX0_wireBehind_79 rfl rfl ?_
            obtain ⟨hin, hw⟩ := hw
            refine LW.iald (pc := 80) (j := r2.toNatClampNeg) ht (by decide) rfl dX0_wireBehind_80 hin rfl ?_
            refine AW.istore (L' := [.ref 21, .ref 2, .int p2, .int r2, .int (m17 7 (r2).toNatClampNeg)]) (pc := 81) dX0_wireBehind_81 (by decide) rfl rfl ?_
            refine AW.iload (pc := 83) dX0_wireBehind_83 rfl ?_
            exact AW.iret (pc := 85) dX0_wireBehind_85 rfl rfl (by omega) (by omega) (hQ _ _ hw))
      refine AW.icmp_le (pc := 45) (tgt := 56) dX0_wireBehind_45 (by decide) (fun c14 => ?_) (fun c14 => ?_)
      · have hw := hw.1 c14
        exact hw
      · have hw := hw.2 c14
        refine AW.aload_n (pc := 48) dX0_wireBehind_48 rfl rfl ?_
        refine LW.getN (pc := 49) (f := 3) (ci := 1) (T := TX1) ht (by decide) rfl dX0_wireBehind_49 tw_453 rfl (by decide) rfl ?_
        refine AW.iload_n (pc := 52) dX0_wireBehind_52 rfl rfl ?_
        obtain ⟨hin, hw⟩ := hw
        refine LW.iald (pc := 53) (j := r2.toNatClampNeg) ht (by decide) rfl dX0_wireBehind_53 hin rfl ?_
        refine AW.istore (L' := [.ref 21, .ref 2, .int p2, .int r2, .int (m9 6 (r2).toNatClampNeg)]) (pc := 54) dX0_wireBehind_54 (by decide) rfl rfl ?_
        exact hw
    · have hw := hw.2 c6
      refine AW.iconst (v := -1) (pc := 19) dX0_wireBehind_19 (by decide) ?_
      exact AW.iret (pc := 20) dX0_wireBehind_20 rfl rfl (by omega) (by omega) (hQ _ _ hw)
set_option maxRecDepth 100000 in
set_option maxHeartbeats 4000000 in
theorem c_A_wireBehind_21 {d k t : Nat} {ex : Hp} {o : Nat → Int64} {K : Int32 → Mem → Prop} {m : Mem} {p2 : Int32} (ht : tok t) (hd : 4 ≤ d) (hw : w_A_wireBehind 21 p2 m K) : AM mX0_wireBehind d [.ref 21, .ref 2, .int p2] (lay t ex o m) k 0 0 (fun oc h' k' => k = k' ∧ ∃ (r : Int32) (m' : Mem), oc = .inl (some (.int r)) ∧ h' = lay t ex o m' ∧ K r m') :=
  AM.intro (μ := mX0_wireBehind) (n := 2) (by decide) rfl rfl rfl (b_A_wireBehind_21 ht hd (by omega) (by omega) (fun _ _ hK => ⟨rfl, _, _, rfl, rfl, hK⟩) p2 hw)
