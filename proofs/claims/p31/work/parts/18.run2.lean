/-! printed by wip/tools/gen.py: X3_askGate, X3_rise, X3_askRegister, X3_change, X3_begin, X3_letCome, X3_noteHazardsOfGates, X3_comeToRest, X3_put -/
abbrev mX3_askGate : Mt := (yX3_askGate, cX3_askGate, 3, none, [])
set_option maxRecDepth 20000 in
theorem ok_X3_askGate : aw_mok mX3_askGate 1 := ⟨rfl, tw_237, tw_7, ⟨by decide, by decide⟩, by decide +kernel, by decide⟩
abbrev mX3_rise : Mt := (yX3_rise, cX3_rise, 4, none, [])
set_option maxRecDepth 20000 in
theorem ok_X3_rise : aw_mok mX3_rise 1 := ⟨rfl, tw_225, tw_7, ⟨by decide, by decide⟩, by decide +kernel, by decide⟩
abbrev mX3_askRegister : Mt := (yX3_askRegister, cX3_askRegister, 7, none, [])
set_option maxRecDepth 20000 in
theorem ok_X3_askRegister : aw_mok mX3_askRegister 3 := ⟨rfl, tw_213, tw_7, ⟨by decide, by decide⟩, by decide +kernel, by decide⟩
abbrev mX3_change : Mt := (yX3_change, cX3_change, 5, none, [])
set_option maxRecDepth 20000 in
theorem ok_X3_change : aw_mok mX3_change 2 := ⟨rfl, tw_204, tw_7, ⟨by decide, by decide⟩, by decide +kernel, by decide⟩
abbrev mX3_begin : Mt := (yX3_begin, cX3_begin, 2, none, [])
set_option maxRecDepth 20000 in
theorem ok_X3_begin : aw_mok mX3_begin 0 := ⟨rfl, tw_797, tw_7, ⟨by decide, by decide⟩, by decide +kernel, by decide⟩
abbrev mX3_letCome : Mt := (yX3_letCome, cX3_letCome, 6, (some .int), [])
set_option maxRecDepth 20000 in
theorem ok_X3_letCome : aw_mok mX3_letCome 1 := ⟨rfl, tw_264, tw_7, ⟨by decide, by decide⟩, by decide +kernel, by decide⟩
abbrev mX3_noteHazardsOfGates : Mt := (yX3_noteHazardsOfGates, cX3_noteHazardsOfGates, 3, none, [])
set_option maxRecDepth 20000 in
theorem ok_X3_noteHazardsOfGates : aw_mok mX3_noteHazardsOfGates 0 := ⟨rfl, tw_290, tw_7, ⟨by decide, by decide⟩, by decide +kernel, by decide⟩
abbrev mX3_comeToRest : Mt := (yX3_comeToRest, cX3_comeToRest, 2, (some .int), [])
set_option maxRecDepth 20000 in
theorem ok_X3_comeToRest : aw_mok mX3_comeToRest 0 := ⟨rfl, tw_284, tw_7, ⟨by decide, by decide⟩, by decide +kernel, by decide⟩
abbrev mX3_put : Mt := (yX3_put, cX3_put, 3, none, [])
set_option maxRecDepth 20000 in
theorem ok_X3_put : aw_mok mX3_put 2 := ⟨rfl, tw_189, tw_7, ⟨by decide, by decide⟩, by decide +kernel, by decide⟩
def w_R_askGate (r : Nat) (p1 : Int32) (m : Mem) (K : Mem → Prop) : Prop :=
  vp_in p1 30 ∧ vp_in p1 30 ∧ w_R_valueOf r (m 5 (p1).toNatClampNeg) m (fun r2 m1 => vp_in p1 30 ∧ w_R_valueOf r (m1 6 (p1).toNatClampNeg) m1 (fun r4 m3 => vp_in p1 30 ∧ w_R_valueOf r (m3 7 (p1).toNatClampNeg) m3 (fun r6 m5 => w_R_worked (m 3 (p1).toNatClampNeg) r2 r4 r6 m5 (fun r8 m7 => vp_in p1 30 ∧ (∀ J10 : Mem → Prop, (∀  (m9 : Mem), (vp_in p1 30 ∧ ((¬ ((m9 (r + 5) (p1).toNatClampNeg) = (-1 : Int32)) → K m9) ∧ ((m9 (r + 5) (p1).toNatClampNeg) = (-1 : Int32) → vp_in p1 30 ∧ w_R_valueOf r (m9 4 (p1).toNatClampNeg) m9 (fun r17 m16 => ((r8 = r17 → K m16) ∧ (¬ (r8 = r17) → w_R_makePending r p1 r8 m16 (fun m19 => K m19))))))) → J10 m9) → (((m7 (r + 5) (p1).toNatClampNeg) = (-1 : Int32) → J10  m7) ∧ (¬ ((m7 (r + 5) (p1).toNatClampNeg) = (-1 : Int32)) → vp_in p1 30 ∧ (((m7 (r + 5) (p1).toNatClampNeg) = r8 → J10  m7) ∧ (¬ ((m7 (r + 5) (p1).toNatClampNeg) = r8) → vp_in p1 30 ∧ ∀ m13 : Mem, m13 = up2 m7 (r + 5) (p1.toNatClampNeg) (-1 : Int32) → ∀ m14 : Mem, m14 = up2 m13 r 15 ((m13 r 15) + (1 : Int32)) → J10  m14)))))))))
set_option maxRecDepth 100000 in
set_option maxHeartbeats 4000000 in
theorem b_R_askGate_23 {Z : Gz} {d k0 mc ms cs ss k t : Nat} {Q : Po} {ex : Hp} {o : Nat → Int64} {K : Mem → Prop}  (ht : tok t) (hd : 4 ≤ d) (hcs : cs + 0 ≤ mc) (hss : ss + 0 ≤ ms) (hQ : ∀ (m : Mem), K m → Q (.inl none) (lay t ex o m) k) {m : Mem} (p1 : Int32) (hw : w_R_askGate 23 p1 m K) : AW Z mX3_askGate d k0 mc ms Q 0 [.ref 23, .int p1, .null] [] (lay t ex o m) k cs ss := by
  unfold w_R_askGate at hw
  refine AW.aload_n (pc := 0) dX3_askGate_0 rfl rfl ?_
  refine LW.get (pc := 1) (f := 0) (ci := 3) (T := TX3) ht (by decide) rfl dX3_askGate_1 tw_552 rfl (by decide) rfl ?_
  refine LW.getN (pc := 4) (f := 0) (ci := 1) (T := TX1) ht (by decide) rfl dX3_askGate_4 tw_444 rfl (by decide) rfl ?_
  refine AW.iload_n (pc := 7) dX3_askGate_7 rfl rfl ?_
  obtain ⟨hin, hw⟩ := hw
  refine LW.iald (pc := 8) (j := p1.toNatClampNeg) ht (by decide) rfl dX3_askGate_8 hin rfl ?_
  refine AW.aload_n (pc := 9) dX3_askGate_9 rfl rfl ?_
  refine AW.aload_n (pc := 10) dX3_askGate_10 rfl rfl ?_
  refine LW.get (pc := 11) (f := 0) (ci := 3) (T := TX3) ht (by decide) rfl dX3_askGate_11 tw_552 rfl (by decide) rfl ?_
  refine LW.getN (pc := 14) (f := 2) (ci := 1) (T := TX1) ht (by decide) rfl dX3_askGate_14 tw_451 rfl (by decide) rfl ?_
  refine AW.iload_n (pc := 17) dX3_askGate_17 rfl rfl ?_
  obtain ⟨hin, hw⟩ := hw
  refine LW.iald (pc := 18) (j := p1.toNatClampNeg) ht (by decide) rfl dX3_askGate_18 hin rfl ?_
  refine AW.callV (pc := 19) (S' := [.int (m 3 (p1).toNatClampNeg)]) dX3_askGate_19 (c_R_valueOf_23 (d := d - 1) ht (by omega) hw) ok_X3_valueOf tw_216 ts_7 tw_214 (fix_pos (by decide)) (lay_at ht (by decide)) (show aw_cl[3]? = some _ from rfl) rfl rfl (by omega) rfl (Nat.le_of_ble_eq_true rfl) (by omega) (by omega) ?_ (fun E h' k' hq => by obtain ⟨rfl, r2, m1, hv, -⟩ := hq; cases hv)
  intro v h' k' hq
  obtain ⟨rfl, r2, m1, hv, rfl, hw⟩ := hq
  cases hv
  show AW _ _ _ _ _ _ _ 22 [.ref 23, .int p1, .null] [.int r2, .int (m 3 (p1).toNatClampNeg)] (lay t ex o m1) k _ _
  refine AW.aload_n (pc := 22) dX3_askGate_22 rfl rfl ?_
  refine AW.aload_n (pc := 23) dX3_askGate_23 rfl rfl ?_
  refine LW.get (pc := 24) (f := 0) (ci := 3) (T := TX3) ht (by decide) rfl dX3_askGate_24 tw_552 rfl (by decide) rfl ?_
  refine LW.getN (pc := 27) (f := 3) (ci := 1) (T := TX1) ht (by decide) rfl dX3_askGate_27 tw_454 rfl (by decide) rfl ?_
  refine AW.iload_n (pc := 30) dX3_askGate_30 rfl rfl ?_
  obtain ⟨hin, hw⟩ := hw
  refine LW.iald (pc := 31) (j := p1.toNatClampNeg) ht (by decide) rfl dX3_askGate_31 hin rfl ?_
  refine AW.callV (pc := 32) (S' := [.int r2, .int (m 3 (p1).toNatClampNeg)]) dX3_askGate_32 (c_R_valueOf_23 (d := d - 1) ht (by omega) hw) ok_X3_valueOf tw_216 ts_7 tw_214 (fix_pos (by decide)) (lay_at ht (by decide)) (show aw_cl[3]? = some _ from rfl) rfl rfl (by omega) rfl (Nat.le_of_ble_eq_true rfl) (by omega) (by omega) ?_ (fun E h' k' hq => by obtain ⟨rfl, r4, m3, hv, -⟩ := hq; cases hv)
  intro v h' k' hq
  obtain ⟨rfl, r4, m3, hv, rfl, hw⟩ := hq
  cases hv
  show AW _ _ _ _ _ _ _ 35 [.ref 23, .int p1, .null] [.int r4, .int r2, .int (m 3 (p1).toNatClampNeg)] (lay t ex o m3) k _ _
  refine AW.aload_n (pc := 35) dX3_askGate_35 rfl rfl ?_
  refine AW.aload_n (pc := 36) dX3_askGate_36 rfl rfl ?_
  refine LW.get (pc := 37) (f := 0) (ci := 3) (T := TX3) ht (by decide) rfl dX3_askGate_37 tw_552 rfl (by decide) rfl ?_
  refine LW.getN (pc := 40) (f := 4) (ci := 1) (T := TX1) ht (by decide) rfl dX3_askGate_40 tw_457 rfl (by decide) rfl ?_
  refine AW.iload_n (pc := 43) dX3_askGate_43 rfl rfl ?_
  obtain ⟨hin, hw⟩ := hw
  refine LW.iald (pc := 44) (j := p1.toNatClampNeg) ht (by decide) rfl dX3_askGate_44 hin rfl ?_
  refine AW.callV (pc := 45) (S' := [.int r4, .int r2, .int (m 3 (p1).toNatClampNeg)]) dX3_askGate_45 (c_R_valueOf_23 (d := d - 1) ht (by omega) hw) ok_X3_valueOf tw_216 ts_7 tw_214 (fix_pos (by decide)) (lay_at ht (by decide)) (show aw_cl[3]? = some _ from rfl) rfl rfl (by omega) rfl (Nat.le_of_ble_eq_true rfl) (by omega) (by omega) ?_ (fun E h' k' hq => by obtain ⟨rfl, r6, m5, hv, -⟩ := hq; cases hv)
  intro v h' k' hq
  obtain ⟨rfl, r6, m5, hv, rfl, hw⟩ := hq
  cases hv
  show AW _ _ _ _ _ _ _ 48 [.ref 23, .int p1, .null] [.int r6, .int r4, .int r2, .int (m 3 (p1).toNatClampNeg)] (lay t ex o m5) k _ _
  refine AW.callS (pc := 48) (S' := []) dX3_askGate_48 (c_R_worked (d := d - 1) ht (by omega) hw) ok_X3_worked tw_239 tw_238 rfl (by omega) rfl (Nat.le_of_ble_eq_true rfl) (by omega) (by omega) ?_ (fun E h' k' hq => by obtain ⟨rfl, r8, m7, hv, -⟩ := hq; cases hv)
  intro v h' k' hq
  obtain ⟨rfl, r8, m7, hv, rfl, hw⟩ := hq
  cases hv
  show AW _ _ _ _ _ _ _ 51 [.ref 23, .int p1, .null] [.int r8] (lay t ex o m7) k _ _
  refine AW.istore_n (L' := [.ref 23, .int p1, .int r8]) (pc := 51) dX3_askGate_51 rfl (by decide) rfl rfl ?_
  refine AW.aload_n (pc := 52) dX3_askGate_52 rfl rfl ?_
  refine LW.get (pc := 53) (f := 5) (ci := 3) (T := TX3) ht (by decide) rfl dX3_askGate_53 tw_561 rfl (by decide) rfl ?_
  refine AW.iload_n (pc := 56) dX3_askGate_56 rfl rfl ?_
  obtain ⟨hin, hw⟩ := hw
  refine LW.iald (pc := 57) (j := p1.toNatClampNeg) ht (by decide) rfl dX3_askGate_57 hin rfl ?_
  refine AW.iconst (v := -1) (pc := 58) dX3_askGate_58 (by decide) ?_
  have hw := hw (fun m9 => AW Z mX3_askGate d k0 mc ms Q 89 [.ref 23, .int p1, .int r8] [] (lay t ex o m9) k (cs) (ss)) (by
      intro m9 hw
      refine AW.aload_n (pc := 89) dX3_askGate_89 rfl rfl ?_
      refine LW.get (pc := 90) (f := 5) (ci := 3) (T := TX3) ht (by decide) rfl dX3_askGate_90 tw_561 rfl (by decide) rfl ?_
      refine AW.iload_n (pc := 93) dX3_askGate_93 rfl rfl ?_
      obtain ⟨hin, hw⟩ := hw
      refine LW.iald (pc := 94) (j := p1.toNatClampNeg) ht (by decide) rfl dX3_askGate_94 hin rfl ?_
      refine AW.iconst (v := -1) (pc := 95) dX3_askGate_95 (by decide) ?_
      refine AW.icmp_ne (pc := 96) (tgt := 122) dX3_askGate_96 (by decide) (fun c15 => ?_) (fun c15 => ?_)
      · have hw := hw.1 c15
        exact AW.vret (pc := 122) dX3_askGate_122 rfl (by omega) (by omega) (hQ _ hw)
      · have hw := hw.2 c15
        refine AW.iload_n (pc := 99) dX3_askGate_99 rfl rfl ?_
        refine AW.aload_n (pc := 100) dX3_askGate_100 rfl rfl ?_
        refine AW.aload_n (pc := 101) dX3_askGate_101 rfl rfl ?_
        refine LW.get (pc := 102) (f := 0) (ci := 3) (T := TX3) ht (by decide) rfl dX3_askGate_102 tw_552 rfl (by decide) rfl ?_
        refine LW.getN (pc := 105) (f := 1) (ci := 1) (T := TX1) ht (by decide) rfl dX3_askGate_105 tw_448 rfl (by decide) rfl ?_
        refine AW.iload_n (pc := 108) dX3_askGate_108 rfl rfl ?_
        obtain ⟨hin, hw⟩ := hw
        refine LW.iald (pc := 109) (j := p1.toNatClampNeg) ht (by decide) rfl dX3_askGate_109 hin rfl ?_
        refine AW.callV (pc := 110) (S' := [.int r8]) dX3_askGate_110 (c_R_valueOf_23 (d := d - 1) ht (by omega) hw) ok_X3_valueOf tw_216 ts_7 tw_214 (fix_pos (by decide)) (lay_at ht (by decide)) (show aw_cl[3]? = some _ from rfl) rfl rfl (by omega) rfl (Nat.le_of_ble_eq_true rfl) (by omega) (by omega) ?_ (fun E h' k' hq => by obtain ⟨rfl, r17, m16, hv, -⟩ := hq; cases hv)
        intro v h' k' hq
        obtain ⟨rfl, r17, m16, hv, rfl, hw⟩ := hq
        cases hv
        show AW _ _ _ _ _ _ _ 113 [.ref 23, .int p1, .int r8] [.int r17, .int r8] (lay t ex o m16) k _ _
        refine AW.icmp_eq (pc := 113) (tgt := 122) dX3_askGate_113 (by decide) (fun c18 => ?_) (fun c18 => ?_)
        · have hw := hw.1 c18
          exact AW.vret (pc := 122) dX3_askGate_122 rfl (by omega) (by omega) (hQ _ hw)
        · have hw := hw.2 c18
          refine AW.aload_n (pc := 116) dX3_askGate_116 rfl rfl ?_
          refine AW.iload_n (pc := 117) dX3_askGate_117 rfl rfl ?_
          refine AW.iload_n (pc := 118) dX3_askGate_118 rfl rfl ?_
          refine AW.callV (pc := 119) (S' := []) dX3_askGate_119 (c_R_makePending_23 (d := d - 1) ht (by omega) hw) ok_X3_makePending tw_220 ts_8 tw_218 (fix_pos (by decide)) (lay_at ht (by decide)) (show aw_cl[3]? = some _ from rfl) rfl rfl (by omega) rfl (Nat.le_of_ble_eq_true rfl) (by omega) (by omega) ?_ (fun E h' k' hq => by obtain ⟨rfl, m19, hv, -⟩ := hq; cases hv)
          intro v h' k' hq
          obtain ⟨rfl, m19, hv, rfl, hw⟩ := hq
          cases hv
          show AW _ _ _ _ _ _ _ 122 [.ref 23, .int p1, .int r8] [] (lay t ex o m19) k _ _
          exact AW.vret (pc := 122) dX3_askGate_122 rfl (by omega) (by omega) (hQ _ hw))
  refine AW.icmp_eq (pc := 59) (tgt := 89) dX3_askGate_59 (by decide) (fun c11 => ?_) (fun c11 => ?_)
  · have hw := hw.1 c11
    exact hw
  · have hw := hw.2 c11
    refine AW.aload_n (pc := 62) dX3_askGate_62 rfl rfl ?_
    refine LW.get (pc := 63) (f := 5) (ci := 3) (T := TX3) ht (by decide) rfl dX3_askGate_63 tw_561 rfl (by decide) rfl ?_
    refine AW.iload_n (pc := 66) dX3_askGate_66 rfl rfl ?_
    obtain ⟨hin, hw⟩ := hw
    refine LW.iald (pc := 67) (j := p1.toNatClampNeg) ht (by decide) rfl dX3_askGate_67 hin rfl ?_
    refine AW.iload_n (pc := 68) dX3_askGate_68 rfl rfl ?_
    refine AW.icmp_eq (pc := 69) (tgt := 89) dX3_askGate_69 (by decide) (fun c12 => ?_) (fun c12 => ?_)
    · have hw := hw.1 c12
      exact hw
    · have hw := hw.2 c12
      refine AW.aload_n (pc := 72) dX3_askGate_72 rfl rfl ?_
      refine LW.get (pc := 73) (f := 5) (ci := 3) (T := TX3) ht (by decide) rfl dX3_askGate_73 tw_561 rfl (by decide) rfl ?_
      refine AW.iload_n (pc := 76) dX3_askGate_76 rfl rfl ?_
      refine AW.iconst (v := -1) (pc := 77) dX3_askGate_77 (by decide) ?_
      obtain ⟨hin, hw⟩ := hw
      have hw := hw _ rfl
      refine LW.iast (pc := 78) (j := p1.toNatClampNeg) ht (by decide) (fun _ => rfl) dX3_askGate_78 hin rfl ?_
      generalize up2 m7 28 (p1.toNatClampNeg) (-1 : Int32) = m13 at hw ⊢
      refine AW.aload_n (pc := 79) dX3_askGate_79 rfl rfl ?_
      refine AW.dup (pc := 80) dX3_askGate_80 rfl ?_
      refine LW.get (pc := 81) (f := 15) (ci := 3) (T := TX3) ht (by decide) rfl dX3_askGate_81 tw_577 rfl (by decide) rfl ?_
      refine AW.iconst (v := 1) (pc := 84) dX3_askGate_84 (by decide) ?_
      refine AW.iadd (pc := 85) dX3_askGate_85 ?_
      have hw := hw _ rfl
      refine LW.put (pc := 86) (f := 15) (ci := 3) (T := TX3) ht (by decide) rfl sp_23_15 dX3_askGate_86 tw_577 rfl (by decide) (Nat.le_of_ble_eq_true rfl) rfl ⟨rfl, rfl⟩ ?_
      generalize up2 m13 23 15 ((m13 23 15) + (1 : Int32)) = m14 at hw ⊢
      exact hw
set_option maxRecDepth 100000 in
set_option maxHeartbeats 4000000 in
theorem c_R_askGate_23 {d k t : Nat} {ex : Hp} {o : Nat → Int64} {K : Mem → Prop} {m : Mem} {p1 : Int32} (ht : tok t) (hd : 4 ≤ d) (hw : w_R_askGate 23 p1 m K) : AM mX3_askGate d [.ref 23, .int p1] (lay t ex o m) k 0 0 (fun oc h' k' => k = k' ∧ ∃ (m' : Mem), oc = .inl none ∧ h' = lay t ex o m' ∧ K m') :=
  AM.intro (μ := mX3_askGate) (n := 1) (by decide) rfl rfl rfl (b_R_askGate_23 ht hd (by omega) (by omega) (fun _ hK => ⟨rfl, _, rfl, rfl, hK⟩) p1 hw)
set_option maxRecDepth 100000 in
set_option maxHeartbeats 4000000 in
theorem b_R_askGate_35 {Z : Gz} {d k0 mc ms cs ss k t : Nat} {Q : Po} {ex : Hp} {o : Nat → Int64} {K : Mem → Prop}  (ht : tok t) (hd : 4 ≤ d) (hcs : cs + 0 ≤ mc) (hss : ss + 0 ≤ ms) (hQ : ∀ (m : Mem), K m → Q (.inl none) (lay t ex o m) k) {m : Mem} (p1 : Int32) (hw : w_R_askGate 35 p1 m K) : AW Z mX3_askGate d k0 mc ms Q 0 [.ref 35, .int p1, .null] [] (lay t ex o m) k cs ss := by
  unfold w_R_askGate at hw
  refine AW.aload_n (pc := 0) dX3_askGate_0 rfl rfl ?_
  refine LW.get (pc := 1) (f := 0) (ci := 3) (T := TX3) ht (by decide) rfl dX3_askGate_1 tw_552 rfl (by decide) rfl ?_
  refine LW.getN (pc := 4) (f := 0) (ci := 1) (T := TX1) ht (by decide) rfl dX3_askGate_4 tw_444 rfl (by decide) rfl ?_
  refine AW.iload_n (pc := 7) dX3_askGate_7 rfl rfl ?_
  obtain ⟨hin, hw⟩ := hw
  refine LW.iald (pc := 8) (j := p1.toNatClampNeg) ht (by decide) rfl dX3_askGate_8 hin rfl ?_
  refine AW.aload_n (pc := 9) dX3_askGate_9 rfl rfl ?_
  refine AW.aload_n (pc := 10) dX3_askGate_10 rfl rfl ?_
  refine LW.get (pc := 11) (f := 0) (ci := 3) (T := TX3) ht (by decide) rfl dX3_askGate_11 tw_552 rfl (by decide) rfl ?_
  refine LW.getN (pc := 14) (f := 2) (ci := 1) (T := TX1) ht (by decide) rfl dX3_askGate_14 tw_451 rfl (by decide) rfl ?_
  refine AW.iload_n (pc := 17) dX3_askGate_17 rfl rfl ?_
  obtain ⟨hin, hw⟩ := hw
  refine LW.iald (pc := 18) (j := p1.toNatClampNeg) ht (by decide) rfl dX3_askGate_18 hin rfl ?_
  refine AW.callV (pc := 19) (S' := [.int (m 3 (p1).toNatClampNeg)]) dX3_askGate_19 (c_R_valueOf_35 (d := d - 1) ht (by omega) hw) ok_X3_valueOf tw_216 ts_7 tw_214 (fix_pos (by decide)) (lay_at ht (by decide)) (show aw_cl[3]? = some _ from rfl) rfl rfl (by omega) rfl (Nat.le_of_ble_eq_true rfl) (by omega) (by omega) ?_ (fun E h' k' hq => by obtain ⟨rfl, r2, m1, hv, -⟩ := hq; cases hv)
  intro v h' k' hq
  obtain ⟨rfl, r2, m1, hv, rfl, hw⟩ := hq
  cases hv
  show AW _ _ _ _ _ _ _ 22 [.ref 35, .int p1, .null] [.int r2, .int (m 3 (p1).toNatClampNeg)] (lay t ex o m1) k _ _
  refine AW.aload_n (pc := 22) dX3_askGate_22 rfl rfl ?_
  refine AW.aload_n (pc := 23) dX3_askGate_23 rfl rfl ?_
  refine LW.get (pc := 24) (f := 0) (ci := 3) (T := TX3) ht (by decide) rfl dX3_askGate_24 tw_552 rfl (by decide) rfl ?_
  refine LW.getN (pc := 27) (f := 3) (ci := 1) (T := TX1) ht (by decide) rfl dX3_askGate_27 tw_454 rfl (by decide) rfl ?_
  refine AW.iload_n (pc := 30) dX3_askGate_30 rfl rfl ?_
  obtain ⟨hin, hw⟩ := hw
  refine LW.iald (pc := 31) (j := p1.toNatClampNeg) ht (by decide) rfl dX3_askGate_31 hin rfl ?_
  refine AW.callV (pc := 32) (S' := [.int r2, .int (m 3 (p1).toNatClampNeg)]) dX3_askGate_32 (c_R_valueOf_35 (d := d - 1) ht (by omega) hw) ok_X3_valueOf tw_216 ts_7 tw_214 (fix_pos (by decide)) (lay_at ht (by decide)) (show aw_cl[3]? = some _ from rfl) rfl rfl (by omega) rfl (Nat.le_of_ble_eq_true rfl) (by omega) (by omega) ?_ (fun E h' k' hq => by obtain ⟨rfl, r4, m3, hv, -⟩ := hq; cases hv)
  intro v h' k' hq
  obtain ⟨rfl, r4, m3, hv, rfl, hw⟩ := hq
  cases hv
  show AW _ _ _ _ _ _ _ 35 [.ref 35, .int p1, .null] [.int r4, .int r2, .int (m 3 (p1).toNatClampNeg)] (lay t ex o m3) k _ _
  refine AW.aload_n (pc := 35) dX3_askGate_35 rfl rfl ?_
  refine AW.aload_n (pc := 36) dX3_askGate_36 rfl rfl ?_
  refine LW.get (pc := 37) (f := 0) (ci := 3) (T := TX3) ht (by decide) rfl dX3_askGate_37 tw_552 rfl (by decide) rfl ?_
  refine LW.getN (pc := 40) (f := 4) (ci := 1) (T := TX1) ht (by decide) rfl dX3_askGate_40 tw_457 rfl (by decide) rfl ?_
  refine AW.iload_n (pc := 43) dX3_askGate_43 rfl rfl ?_
  obtain ⟨hin, hw⟩ := hw
  refine LW.iald (pc := 44) (j := p1.toNatClampNeg) ht (by decide) rfl dX3_askGate_44 hin rfl ?_
  refine AW.callV (pc := 45) (S' := [.int r4, .int r2, .int (m 3 (p1).toNatClampNeg)]) dX3_askGate_45 (c_R_valueOf_35 (d := d - 1) ht (by omega) hw) ok_X3_valueOf tw_216 ts_7 tw_214 (fix_pos (by decide)) (lay_at ht (by decide)) (show aw_cl[3]? = some _ from rfl) rfl rfl (by omega) rfl (Nat.le_of_ble_eq_true rfl) (by omega) (by omega) ?_ (fun E h' k' hq => by obtain ⟨rfl, r6, m5, hv, -⟩ := hq; cases hv)
  intro v h' k' hq
  obtain ⟨rfl, r6, m5, hv, rfl, hw⟩ := hq
  cases hv
  show AW _ _ _ _ _ _ _ 48 [.ref 35, .int p1, .null] [.int r6, .int r4, .int r2, .int (m 3 (p1).toNatClampNeg)] (lay t ex o m5) k _ _
  refine AW.callS (pc := 48) (S' := []) dX3_askGate_48 (c_R_worked (d := d - 1) ht (by omega) hw) ok_X3_worked tw_239 tw_238 rfl (by omega) rfl (Nat.le_of_ble_eq_true rfl) (by omega) (by omega) ?_ (fun E h' k' hq => by obtain ⟨rfl, r8, m7, hv, -⟩ := hq; cases hv)
  intro v h' k' hq
  obtain ⟨rfl, r8, m7, hv, rfl, hw⟩ := hq
  cases hv
  show AW _ _ _ _ _ _ _ 51 [.ref 35, .int p1, .null] [.int r8] (lay t ex o m7) k _ _
  refine AW.istore_n (L' := [.ref 35, .int p1, .int r8]) (pc := 51) dX3_askGate_51 rfl (by decide) rfl rfl ?_
  refine AW.aload_n (pc := 52) dX3_askGate_52 rfl rfl ?_
  refine LW.get (pc := 53) (f := 5) (ci := 3) (T := TX3) ht (by decide) rfl dX3_askGate_53 tw_561 rfl (by decide) rfl ?_
  refine AW.iload_n (pc := 56) dX3_askGate_56 rfl rfl ?_
  obtain ⟨hin, hw⟩ := hw
  refine LW.iald (pc := 57) (j := p1.toNatClampNeg) ht (by decide) rfl dX3_askGate_57 hin rfl ?_
  refine AW.iconst (v := -1) (pc := 58) dX3_askGate_58 (by decide) ?_
  have hw := hw (fun m9 => AW Z mX3_askGate d k0 mc ms Q 89 [.ref 35, .int p1, .int r8] [] (lay t ex o m9) k (cs) (ss)) (by
      intro m9 hw
      refine AW.aload_n (pc := 89) dX3_askGate_89 rfl rfl ?_
      refine LW.get (pc := 90) (f := 5) (ci := 3) (T := TX3) ht (by decide) rfl dX3_askGate_90 tw_561 rfl (by decide) rfl ?_
      refine AW.iload_n (pc := 93) dX3_askGate_93 rfl rfl ?_
      obtain ⟨hin, hw⟩ := hw
      refine LW.iald (pc := 94) (j := p1.toNatClampNeg) ht (by decide) rfl dX3_askGate_94 hin rfl ?_
      refine AW.iconst (v := -1) (pc := 95) dX3_askGate_95 (by decide) ?_
      refine AW.icmp_ne (pc := 96) (tgt := 122) dX3_askGate_96 (by decide) (fun c15 => ?_) (fun c15 => ?_)
      · have hw := hw.1 c15
        exact AW.vret (pc := 122) dX3_askGate_122 rfl (by omega) (by omega) (hQ _ hw)
      · have hw := hw.2 c15
        refine AW.iload_n (pc := 99) dX3_askGate_99 rfl rfl ?_
        refine AW.aload_n (pc := 100) dX3_askGate_100 rfl rfl ?_
        refine AW.aload_n (pc := 101) dX3_askGate_101 rfl rfl ?_
        refine LW.get (pc := 102) (f := 0) (ci := 3) (T := TX3) ht (by decide) rfl dX3_askGate_102 tw_552 rfl (by decide) rfl ?_
        refine LW.getN (pc := 105) (f := 1) (ci := 1) (T := TX1) ht (by decide) rfl dX3_askGate_105 tw_448 rfl (by decide) rfl ?_
        refine AW.iload_n (pc := 108) dX3_askGate_108 rfl rfl ?_
        obtain ⟨hin, hw⟩ := hw
        refine LW.iald (pc := 109) (j := p1.toNatClampNeg) ht (by decide) rfl dX3_askGate_109 hin rfl ?_
        refine AW.callV (pc := 110) (S' := [.int r8]) dX3_askGate_110 (c_R_valueOf_35 (d := d - 1) ht (by omega) hw) ok_X3_valueOf tw_216 ts_7 tw_214 (fix_pos (by decide)) (lay_at ht (by decide)) (show aw_cl[3]? = some _ from rfl) rfl rfl (by omega) rfl (Nat.le_of_ble_eq_true rfl) (by omega) (by omega) ?_ (fun E h' k' hq => by obtain ⟨rfl, r17, m16, hv, -⟩ := hq; cases hv)
        intro v h' k' hq
        obtain ⟨rfl, r17, m16, hv, rfl, hw⟩ := hq
        cases hv
        show AW _ _ _ _ _ _ _ 113 [.ref 35, .int p1, .int r8] [.int r17, .int r8] (lay t ex o m16) k _ _
        refine AW.icmp_eq (pc := 113) (tgt := 122) dX3_askGate_113 (by decide) (fun c18 => ?_) (fun c18 => ?_)
        · have hw := hw.1 c18
          exact AW.vret (pc := 122) dX3_askGate_122 rfl (by omega) (by omega) (hQ _ hw)
        · have hw := hw.2 c18
          refine AW.aload_n (pc := 116) dX3_askGate_116 rfl rfl ?_
          refine AW.iload_n (pc := 117) dX3_askGate_117 rfl rfl ?_
          refine AW.iload_n (pc := 118) dX3_askGate_118 rfl rfl ?_
          refine AW.callV (pc := 119) (S' := []) dX3_askGate_119 (c_R_makePending_35 (d := d - 1) ht (by omega) hw) ok_X3_makePending tw_220 ts_8 tw_218 (fix_pos (by decide)) (lay_at ht (by decide)) (show aw_cl[3]? = some _ from rfl) rfl rfl (by omega) rfl (Nat.le_of_ble_eq_true rfl) (by omega) (by omega) ?_ (fun E h' k' hq => by obtain ⟨rfl, m19, hv, -⟩ := hq; cases hv)
          intro v h' k' hq
          obtain ⟨rfl, m19, hv, rfl, hw⟩ := hq
          cases hv
          show AW _ _ _ _ _ _ _ 122 [.ref 35, .int p1, .int r8] [] (lay t ex o m19) k _ _
          exact AW.vret (pc := 122) dX3_askGate_122 rfl (by omega) (by omega) (hQ _ hw))
  refine AW.icmp_eq (pc := 59) (tgt := 89) dX3_askGate_59 (by decide) (fun c11 => ?_) (fun c11 => ?_)
  · have hw := hw.1 c11
    exact hw
  · have hw := hw.2 c11
    refine AW.aload_n (pc := 62) dX3_askGate_62 rfl rfl ?_
    refine LW.get (pc := 63) (f := 5) (ci := 3) (T := TX3) ht (by decide) rfl dX3_askGate_63 tw_561 rfl (by decide) rfl ?_
    refine AW.iload_n (pc := 66) dX3_askGate_66 rfl rfl ?_
    obtain ⟨hin, hw⟩ := hw
    refine LW.iald (pc := 67) (j := p1.toNatClampNeg) ht (by decide) rfl dX3_askGate_67 hin rfl ?_
    refine AW.iload_n (pc := 68) dX3_askGate_68 rfl rfl ?_
    refine AW.icmp_eq (pc := 69) (tgt := 89) dX3_askGate_69 (by decide) (fun c12 => ?_) (fun c12 => ?_)
    · have hw := hw.1 c12
      exact hw
    · have hw := hw.2 c12
      refine AW.aload_n (pc := 72) dX3_askGate_72 rfl rfl ?_
      refine LW.get (pc := 73) (f := 5) (ci := 3) (T := TX3) ht (by decide) rfl dX3_askGate_73 tw_561 rfl (by decide) rfl ?_
      refine AW.iload_n (pc := 76) dX3_askGate_76 rfl rfl ?_
      refine AW.iconst (v := -1) (pc := 77) dX3_askGate_77 (by decide) ?_
      obtain ⟨hin, hw⟩ := hw
      have hw := hw _ rfl
      refine LW.iast (pc := 78) (j := p1.toNatClampNeg) ht (by decide) (fun _ => rfl) dX3_askGate_78 hin rfl ?_
      generalize up2 m7 40 (p1.toNatClampNeg) (-1 : Int32) = m13 at hw ⊢
      refine AW.aload_n (pc := 79) dX3_askGate_79 rfl rfl ?_
      refine AW.dup (pc := 80) dX3_askGate_80 rfl ?_
      refine LW.get (pc := 81) (f := 15) (ci := 3) (T := TX3) ht (by decide) rfl dX3_askGate_81 tw_577 rfl (by decide) rfl ?_
      refine AW.iconst (v := 1) (pc := 84) dX3_askGate_84 (by decide) ?_
      refine AW.iadd (pc := 85) dX3_askGate_85 ?_
      have hw := hw _ rfl
      refine LW.put (pc := 86) (f := 15) (ci := 3) (T := TX3) ht (by decide) rfl sp_35_15 dX3_askGate_86 tw_577 rfl (by decide) (Nat.le_of_ble_eq_true rfl) rfl ⟨rfl, rfl⟩ ?_
      generalize up2 m13 35 15 ((m13 35 15) + (1 : Int32)) = m14 at hw ⊢
      exact hw
set_option maxRecDepth 100000 in
set_option maxHeartbeats 4000000 in
theorem c_R_askGate_35 {d k t : Nat} {ex : Hp} {o : Nat → Int64} {K : Mem → Prop} {m : Mem} {p1 : Int32} (ht : tok t) (hd : 4 ≤ d) (hw : w_R_askGate 35 p1 m K) : AM mX3_askGate d [.ref 35, .int p1] (lay t ex o m) k 0 0 (fun oc h' k' => k = k' ∧ ∃ (m' : Mem), oc = .inl none ∧ h' = lay t ex o m' ∧ K m') :=
  AM.intro (μ := mX3_askGate) (n := 1) (by decide) rfl rfl rfl (b_R_askGate_35 ht hd (by omega) (by omega) (fun _ hK => ⟨rfl, _, rfl, rfl, hK⟩) p1 hw)
def w_R_rise (r : Nat) (p1 : Int32) (m : Mem) (K : Mem → Prop) : Prop :=
  vp_in p1 30 ∧ w_R_valueOf r (m 5 (p1).toNatClampNeg) m (fun r2 m1 => vp_in p1 30 ∧ ∀ m3 : Mem, m3 = up2 m1 (r + 8) (p1.toNatClampNeg) (m1 r 13) → w_N_isWire (m 5 (p1).toNatClampNeg) m3 (fun r5 m4 => ((r5 = 0 → w_R_makePending r p1 r2 m4 (fun m7 => K m7)) ∧ (¬ (r5 = 0) → vp_in (m 5 (p1).toNatClampNeg) 24 ∧ vp_in p1 30 ∧ w_R_isRecent r (m4 (r + 2) (m 5 (p1).toNatClampNeg).toNatClampNeg) (m4 9 (p1).toNatClampNeg) m4 (fun r9 m8 => ((r9 = 0 → w_R_makePending r p1 r2 m8 (fun m11 => K m11)) ∧ (¬ (r9 = 0) → vp_in p1 30 ∧ w_R_noteHazard r (3 : Int32) (m8 4 (p1).toNatClampNeg) m8 (fun m12 => w_R_makePending r p1 (2 : Int32) m12 (fun m13 => K m13)))))))))
set_option maxRecDepth 100000 in
set_option maxHeartbeats 4000000 in
theorem b_R_rise_23 {Z : Gz} {d k0 mc ms cs ss k t : Nat} {Q : Po} {ex : Hp} {o : Nat → Int64} {K : Mem → Prop}  (ht : tok t) (hd : 3 ≤ d) (hcs : cs + 0 ≤ mc) (hss : ss + 0 ≤ ms) (hQ : ∀ (m : Mem), K m → Q (.inl none) (lay t ex o m) k) {m : Mem} (p1 : Int32) (hw : w_R_rise 23 p1 m K) : AW Z mX3_rise d k0 mc ms Q 0 [.ref 23, .int p1, .null, .null] [] (lay t ex o m) k cs ss := by
  unfold w_R_rise at hw
  refine AW.aload_n (pc := 0) dX3_rise_0 rfl rfl ?_
  refine LW.get (pc := 1) (f := 0) (ci := 3) (T := TX3) ht (by decide) rfl dX3_rise_1 tw_552 rfl (by decide) rfl ?_
  refine LW.getN (pc := 4) (f := 2) (ci := 1) (T := TX1) ht (by decide) rfl dX3_rise_4 tw_451 rfl (by decide) rfl ?_
  refine AW.iload_n (pc := 7) dX3_rise_7 rfl rfl ?_
  obtain ⟨hin, hw⟩ := hw
  refine LW.iald (pc := 8) (j := p1.toNatClampNeg) ht (by decide) rfl dX3_rise_8 hin rfl ?_
  refine AW.istore_n (L' := [.ref 23, .int p1, .int (m 5 (p1).toNatClampNeg), .null]) (pc := 9) dX3_rise_9 rfl (by decide) rfl rfl ?_
  refine AW.aload_n (pc := 10) dX3_rise_10 rfl rfl ?_
  refine AW.iload_n (pc := 11) dX3_rise_11 rfl rfl ?_
  refine AW.callV (pc := 12) (S' := []) dX3_rise_12 (c_R_valueOf_23 (d := d - 1) ht (by omega) hw) ok_X3_valueOf tw_216 ts_7 tw_214 (fix_pos (by decide)) (lay_at ht (by decide)) (show aw_cl[3]? = some _ from rfl) rfl rfl (by omega) rfl (Nat.le_of_ble_eq_true rfl) (by omega) (by omega) ?_ (fun E h' k' hq => by obtain ⟨rfl, r2, m1, hv, -⟩ := hq; cases hv)
  intro v h' k' hq
  obtain ⟨rfl, r2, m1, hv, rfl, hw⟩ := hq
  cases hv
  show AW _ _ _ _ _ _ _ 15 [.ref 23, .int p1, .int (m 5 (p1).toNatClampNeg), .null] [.int r2] (lay t ex o m1) k _ _
  refine AW.istore_n (L' := [.ref 23, .int p1, .int (m 5 (p1).toNatClampNeg), .int r2]) (pc := 15) dX3_rise_15 rfl (by decide) rfl rfl ?_
  refine AW.aload_n (pc := 16) dX3_rise_16 rfl rfl ?_
  refine LW.get (pc := 17) (f := 8) (ci := 3) (T := TX3) ht (by decide) rfl dX3_rise_17 tw_565 rfl (by decide) rfl ?_
  refine AW.iload_n (pc := 20) dX3_rise_20 rfl rfl ?_
  refine AW.aload_n (pc := 21) dX3_rise_21 rfl rfl ?_
  refine LW.get (pc := 22) (f := 13) (ci := 3) (T := TX3) ht (by decide) rfl dX3_rise_22 tw_574 rfl (by decide) rfl ?_
  obtain ⟨hin, hw⟩ := hw
  have hw := hw _ rfl
  refine LW.iast (pc := 25) (j := p1.toNatClampNeg) ht (by decide) (fun _ => rfl) dX3_rise_25 hin rfl ?_
  generalize up2 m1 31 (p1.toNatClampNeg) (m1 23 13) = m3 at hw ⊢
  refine AW.iload_n (pc := 26) dX3_rise_26 rfl rfl ?_
  refine AW.callSN (pc := 27) (S' := []) dX3_rise_27 (c_N_isWire (d := d - 1) ht (by omega) hw) ok_X4_isWire tw_25 tw_205 rfl (by omega) rfl (Nat.le_of_ble_eq_true rfl) (by omega) (by omega) (fun E h' k' hq => by obtain ⟨rfl, r5, m4, hv, -⟩ := hq; cases hv) ?_
  intro v h' k' hq
  obtain ⟨rfl, r5, m4, hv, rfl, hw⟩ := hq
  cases hv
  show AW _ _ _ _ _ _ _ 30 [.ref 23, .int p1, .int (m 5 (p1).toNatClampNeg), .int r2] [.int r5] (lay t ex o m4) k _ _
  refine AW.if_eq (pc := 30) (tgt := 71) dX3_rise_30 (by decide) (fun c6 => ?_) (fun c6 => ?_)
  · have hw := hw.1 c6
    refine AW.aload_n (pc := 71) dX3_rise_71 rfl rfl ?_
    refine AW.iload_n (pc := 72) dX3_rise_72 rfl rfl ?_
    refine AW.iload_n (pc := 73) dX3_rise_73 rfl rfl ?_
    refine AW.callV (pc := 74) (S' := []) dX3_rise_74 (c_R_makePending_23 (d := d - 1) ht (by omega) hw) ok_X3_makePending tw_220 ts_8 tw_218 (fix_pos (by decide)) (lay_at ht (by decide)) (show aw_cl[3]? = some _ from rfl) rfl rfl (by omega) rfl (Nat.le_of_ble_eq_true rfl) (by omega) (by omega) ?_ (fun E h' k' hq => by obtain ⟨rfl, m7, hv, -⟩ := hq; cases hv)
    intro v h' k' hq
    obtain ⟨rfl, m7, hv, rfl, hw⟩ := hq
    cases hv
    show AW _ _ _ _ _ _ _ 77 [.ref 23, .int p1, .int (m 5 (p1).toNatClampNeg), .int r2] [] (lay t ex o m7) k _ _
    exact AW.vret (pc := 77) dX3_rise_77 rfl (by omega) (by omega) (hQ _ hw)
  · have hw := hw.2 c6
    refine AW.aload_n (pc := 33) dX3_rise_33 rfl rfl ?_
    refine AW.aload_n (pc := 34) dX3_rise_34 rfl rfl ?_
    refine LW.get (pc := 35) (f := 2) (ci := 3) (T := TX3) ht (by decide) rfl dX3_rise_35 tw_555 rfl (by decide) rfl ?_
    refine AW.iload_n (pc := 38) dX3_rise_38 rfl rfl ?_
    obtain ⟨hin, hw⟩ := hw
    refine LW.iald (pc := 39) (j := (m 5 (p1).toNatClampNeg).toNatClampNeg) ht (by decide) rfl dX3_rise_39 hin rfl ?_
    refine AW.aload_n (pc := 40) dX3_rise_40 rfl rfl ?_
    refine LW.get (pc := 41) (f := 0) (ci := 3) (T := TX3) ht (by decide) rfl dX3_rise_41 tw_552 rfl (by decide) rfl ?_
    refine LW.getN (pc := 44) (f := 6) (ci := 1) (T := TX1) ht (by decide) rfl dX3_rise_44 tw_462 rfl (by decide) rfl ?_
    refine AW.iload_n (pc := 47) dX3_rise_47 rfl rfl ?_
    obtain ⟨hin, hw⟩ := hw
    refine LW.iald (pc := 48) (j := p1.toNatClampNeg) ht (by decide) rfl dX3_rise_48 hin rfl ?_
    refine AW.callV (pc := 49) (S' := []) dX3_rise_49 (c_R_isRecent_23 (d := d - 1) ht (by omega) hw) ok_X3_isRecent tw_228 ts_10 tw_226 (fix_pos (by decide)) (lay_at ht (by decide)) (show aw_cl[3]? = some _ from rfl) rfl rfl (by omega) rfl (Nat.le_of_ble_eq_true rfl) (by omega) (by omega) ?_ (fun E h' k' hq => by obtain ⟨rfl, r9, m8, hv, -⟩ := hq; cases hv)
    intro v h' k' hq
    obtain ⟨rfl, r9, m8, hv, rfl, hw⟩ := hq
    cases hv
    show AW _ _ _ _ _ _ _ 52 [.ref 23, .int p1, .int (m 5 (p1).toNatClampNeg), .int r2] [.int r9] (lay t ex o m8) k _ _
    refine AW.if_eq (pc := 52) (tgt := 71) dX3_rise_52 (by decide) (fun c10 => ?_) (fun c10 => ?_)
    · have hw := hw.1 c10
      refine AW.aload_n (pc := 71) dX3_rise_71 rfl rfl ?_
      refine AW.iload_n (pc := 72) dX3_rise_72 rfl rfl ?_
      refine AW.iload_n (pc := 73) dX3_rise_73 rfl rfl ?_
      refine AW.callV (pc := 74) (S' := []) dX3_rise_74 (c_R_makePending_23 (d := d - 1) ht (by omega) hw) ok_X3_makePending tw_220 ts_8 tw_218 (fix_pos (by decide)) (lay_at ht (by decide)) (show aw_cl[3]? = some _ from rfl) rfl rfl (by omega) rfl (Nat.le_of_ble_eq_true rfl) (by omega) (by omega) ?_ (fun E h' k' hq => by obtain ⟨rfl, m11, hv, -⟩ := hq; cases hv)
      intro v h' k' hq
      obtain ⟨rfl, m11, hv, rfl, hw⟩ := hq
      cases hv
      show AW _ _ _ _ _ _ _ 77 [.ref 23, .int p1, .int (m 5 (p1).toNatClampNeg), .int r2] [] (lay t ex o m11) k _ _
      exact AW.vret (pc := 77) dX3_rise_77 rfl (by omega) (by omega) (hQ _ hw)
    · have hw := hw.2 c10
      refine AW.aload_n (pc := 55) dX3_rise_55 rfl rfl ?_
      refine AW.iconst (v := 3) (pc := 56) dX3_rise_56 (by decide) ?_
      refine AW.aload_n (pc := 57) dX3_rise_57 rfl rfl ?_
      refine LW.get (pc := 58) (f := 0) (ci := 3) (T := TX3) ht (by decide) rfl dX3_rise_58 tw_552 rfl (by decide) rfl ?_
      refine LW.getN (pc := 61) (f := 1) (ci := 1) (T := TX1) ht (by decide) rfl dX3_rise_61 tw_448 rfl (by decide) rfl ?_
      refine AW.iload_n (pc := 64) dX3_rise_64 rfl rfl ?_
      obtain ⟨hin, hw⟩ := hw
      refine LW.iald (pc := 65) (j := p1.toNatClampNeg) ht (by decide) rfl dX3_rise_65 hin rfl ?_
      refine AW.callV (pc := 66) (S' := []) dX3_rise_66 (c_R_noteHazard_23 (d := d - 1) ht (by omega) hw) ok_X3_noteHazard tw_232 ts_11 tw_230 (fix_pos (by decide)) (lay_at ht (by decide)) (show aw_cl[3]? = some _ from rfl) rfl rfl (by omega) rfl (Nat.le_of_ble_eq_true rfl) (by omega) (by omega) ?_ (fun E h' k' hq => by obtain ⟨rfl, m12, hv, -⟩ := hq; cases hv)
      intro v h' k' hq
      obtain ⟨rfl, m12, hv, rfl, hw⟩ := hq
      cases hv
      show AW _ _ _ _ _ _ _ 69 [.ref 23, .int p1, .int (m 5 (p1).toNatClampNeg), .int r2] [] (lay t ex o m12) k _ _
      refine AW.iconst (v := 2) (pc := 69) dX3_rise_69 (by decide) ?_
      refine AW.istore_n (L' := [.ref 23, .int p1, .int (m 5 (p1).toNatClampNeg), .int (2 : Int32)]) (pc := 70) dX3_rise_70 rfl (by decide) rfl rfl ?_
      refine AW.aload_n (pc := 71) dX3_rise_71 rfl rfl ?_
      refine AW.iload_n (pc := 72) dX3_rise_72 rfl rfl ?_
      refine AW.iload_n (pc := 73) dX3_rise_73 rfl rfl ?_
      refine AW.callV (pc := 74) (S' := []) dX3_rise_74 (c_R_makePending_23 (d := d - 1) ht (by omega) hw) ok_X3_makePending tw_220 ts_8 tw_218 (fix_pos (by decide)) (lay_at ht (by decide)) (show aw_cl[3]? = some _ from rfl) rfl rfl (by omega) rfl (Nat.le_of_ble_eq_true rfl) (by omega) (by omega) ?_ (fun E h' k' hq => by obtain ⟨rfl, m13, hv, -⟩ := hq; cases hv)
      intro v h' k' hq
      obtain ⟨rfl, m13, hv, rfl, hw⟩ := hq
      cases hv
      show AW _ _ _ _ _ _ _ 77 [.ref 23, .int p1, .int (m 5 (p1).toNatClampNeg), .int (2 : Int32)] [] (lay t ex o m13) k _ _
      exact AW.vret (pc := 77) dX3_rise_77 rfl (by omega) (by omega) (hQ _ hw)
set_option maxRecDepth 100000 in
set_option maxHeartbeats 4000000 in
theorem c_R_rise_23 {d k t : Nat} {ex : Hp} {o : Nat → Int64} {K : Mem → Prop} {m : Mem} {p1 : Int32} (ht : tok t) (hd : 3 ≤ d) (hw : w_R_rise 23 p1 m K) : AM mX3_rise d [.ref 23, .int p1] (lay t ex o m) k 0 0 (fun oc h' k' => k = k' ∧ ∃ (m' : Mem), oc = .inl none ∧ h' = lay t ex o m' ∧ K m') :=
  AM.intro (μ := mX3_rise) (n := 2) (by decide) rfl rfl rfl (b_R_rise_23 ht hd (by omega) (by omega) (fun _ hK => ⟨rfl, _, rfl, rfl, hK⟩) p1 hw)
set_option maxRecDepth 100000 in
set_option maxHeartbeats 4000000 in
theorem b_R_rise_35 {Z : Gz} {d k0 mc ms cs ss k t : Nat} {Q : Po} {ex : Hp} {o : Nat → Int64} {K : Mem → Prop}  (ht : tok t) (hd : 3 ≤ d) (hcs : cs + 0 ≤ mc) (hss : ss + 0 ≤ ms) (hQ : ∀ (m : Mem), K m → Q (.inl none) (lay t ex o m) k) {m : Mem} (p1 : Int32) (hw : w_R_rise 35 p1 m K) : AW Z mX3_rise d k0 mc ms Q 0 [.ref 35, .int p1, .null, .null] [] (lay t ex o m) k cs ss := by
  unfold w_R_rise at hw
  refine AW.aload_n (pc := 0) dX3_rise_0 rfl rfl ?_
  refine LW.get (pc := 1) (f := 0) (ci := 3) (T := TX3) ht (by decide) rfl dX3_rise_1 tw_552 rfl (by decide) rfl ?_
  refine LW.getN (pc := 4) (f := 2) (ci := 1) (T := TX1) ht (by decide) rfl dX3_rise_4 tw_451 rfl (by decide) rfl ?_
  refine AW.iload_n (pc := 7) dX3_rise_7 rfl rfl ?_
  obtain ⟨hin, hw⟩ := hw
  refine LW.iald (pc := 8) (j := p1.toNatClampNeg) ht (by decide) rfl dX3_rise_8 hin rfl ?_
  refine AW.istore_n (L' := [.ref 35, .int p1, .int (m 5 (p1).toNatClampNeg), .null]) (pc := 9) dX3_rise_9 rfl (by decide) rfl rfl ?_
  refine AW.aload_n (pc := 10) dX3_rise_10 rfl rfl ?_
  refine AW.iload_n (pc := 11) dX3_rise_11 rfl rfl ?_
  refine AW.callV (pc := 12) (S' := []) dX3_rise_12 (c_R_valueOf_35 (d := d - 1) ht (by omega) hw) ok_X3_valueOf tw_216 ts_7 tw_214 (fix_pos (by decide)) (lay_at ht (by decide)) (show aw_cl[3]? = some _ from rfl) rfl rfl (by omega) rfl (Nat.le_of_ble_eq_true rfl) (by omega) (by omega) ?_ (fun E h' k' hq => by obtain ⟨rfl, r2, m1, hv, -⟩ := hq; cases hv)
  intro v h' k' hq
  obtain ⟨rfl, r2, m1, hv, rfl, hw⟩ := hq
  cases hv
  show AW _ _ _ _ _ _ _ 15 [.ref 35, .int p1, .int (m 5 (p1).toNatClampNeg), .null] [.int r2] (lay t ex o m1) k _ _
  refine AW.istore_n (L' := [.ref 35, .int p1, .int (m 5 (p1).toNatClampNeg), .int r2]) (pc := 15) dX3_rise_15 rfl (by decide) rfl rfl ?_
  refine AW.aload_n (pc := 16) dX3_rise_16 rfl rfl ?_
  refine LW.get (pc := 17) (f := 8) (ci := 3) (T := TX3) ht (by decide) rfl dX3_rise_17 tw_565 rfl (by decide) rfl ?_
  refine AW.iload_n (pc := 20) dX3_rise_20 rfl rfl ?_
  refine AW.aload_n (pc := 21) dX3_rise_21 rfl rfl ?_
  refine LW.get (pc := 22) (f := 13) (ci := 3) (T := TX3) ht (by decide) rfl dX3_rise_22 tw_574 rfl (by decide) rfl ?_
  obtain ⟨hin, hw⟩ := hw
  have hw := hw _ rfl
  refine LW.iast (pc := 25) (j := p1.toNatClampNeg) ht (by decide) (fun _ => rfl) dX3_rise_25 hin rfl ?_
  generalize up2 m1 43 (p1.toNatClampNeg) (m1 35 13) = m3 at hw ⊢
  refine AW.iload_n (pc := 26) dX3_rise_26 rfl rfl ?_
  refine AW.callSN (pc := 27) (S' := []) dX3_rise_27 (c_N_isWire (d := d - 1) ht (by omega) hw) ok_X4_isWire tw_25 tw_205 rfl (by omega) rfl (Nat.le_of_ble_eq_true rfl) (by omega) (by omega) (fun E h' k' hq => by obtain ⟨rfl, r5, m4, hv, -⟩ := hq; cases hv) ?_
  intro v h' k' hq
  obtain ⟨rfl, r5, m4, hv, rfl, hw⟩ := hq
  cases hv
  show AW _ _ _ _ _ _ _ 30 [.ref 35, .int p1, .int (m 5 (p1).toNatClampNeg), .int r2] [.int r5] (lay t ex o m4) k _ _
  refine AW.if_eq (pc := 30) (tgt := 71) dX3_rise_30 (by decide) (fun c6 => ?_) (fun c6 => ?_)
  · have hw := hw.1 c6
    refine AW.aload_n (pc := 71) dX3_rise_71 rfl rfl ?_
    refine AW.iload_n (pc := 72) dX3_rise_72 rfl rfl ?_
    refine AW.iload_n (pc := 73) dX3_rise_73 rfl rfl ?_
    refine AW.callV (pc := 74) (S' := []) dX3_rise_74 (c_R_makePending_35 (d := d - 1) ht (by omega) hw) ok_X3_makePending tw_220 ts_8 tw_218 (fix_pos (by decide)) (lay_at ht (by decide)) (show aw_cl[3]? = some _ from rfl) rfl rfl (by omega) rfl (Nat.le_of_ble_eq_true rfl) (by omega) (by omega) ?_ (fun E h' k' hq => by obtain ⟨rfl, m7, hv, -⟩ := hq; cases hv)
    intro v h' k' hq
    obtain ⟨rfl, m7, hv, rfl, hw⟩ := hq
    cases hv
    show AW _ _ _ _ _ _ _ 77 [.ref 35, .int p1, .int (m 5 (p1).toNatClampNeg), .int r2] [] (lay t ex o m7) k _ _
    exact AW.vret (pc := 77) dX3_rise_77 rfl (by omega) (by omega) (hQ _ hw)
  · have hw := hw.2 c6
    refine AW.aload_n (pc := 33) dX3_rise_33 rfl rfl ?_
    refine AW.aload_n (pc := 34) dX3_rise_34 rfl rfl ?_
    refine LW.get (pc := 35) (f := 2) (ci := 3) (T := TX3) ht (by decide) rfl dX3_rise_35 tw_555 rfl (by decide) rfl ?_
    refine AW.iload_n (pc := 38) dX3_rise_38 rfl rfl ?_
    obtain ⟨hin, hw⟩ := hw
    refine LW.iald (pc := 39) (j := (m 5 (p1).toNatClampNeg).toNatClampNeg) ht (by decide) rfl dX3_rise_39 hin rfl ?_
    refine AW.aload_n (pc := 40) dX3_rise_40 rfl rfl ?_
    refine LW.get (pc := 41) (f := 0) (ci := 3) (T := TX3) ht (by decide) rfl dX3_rise_41 tw_552 rfl (by decide) rfl ?_
    refine LW.getN (pc := 44) (f := 6) (ci := 1) (T := TX1) ht (by decide) rfl dX3_rise_44 tw_462 rfl (by decide) rfl ?_
    refine AW.iload_n (pc := 47) dX3_rise_47 rfl rfl ?_
    obtain ⟨hin, hw⟩ := hw
    refine LW.iald (pc := 48) (j := p1.toNatClampNeg) ht (by decide) rfl dX3_rise_48 hin rfl ?_
    refine AW.callV (pc := 49) (S' := []) dX3_rise_49 (c_R_isRecent_35 (d := d - 1) ht (by omega) hw) ok_X3_isRecent tw_228 ts_10 tw_226 (fix_pos (by decide)) (lay_at ht (by decide)) (show aw_cl[3]? = some _ from rfl) rfl rfl (by omega) rfl (Nat.le_of_ble_eq_true rfl) (by omega) (by omega) ?_ (fun E h' k' hq => by obtain ⟨rfl, r9, m8, hv, -⟩ := hq; cases hv)
    intro v h' k' hq
    obtain ⟨rfl, r9, m8, hv, rfl, hw⟩ := hq
    cases hv
    show AW _ _ _ _ _ _ _ 52 [.ref 35, .int p1, .int (m 5 (p1).toNatClampNeg), .int r2] [.int r9] (lay t ex o m8) k _ _
    refine AW.if_eq (pc := 52) (tgt := 71) dX3_rise_52 (by decide) (fun c10 => ?_) (fun c10 => ?_)
    · have hw := hw.1 c10
      refine AW.aload_n (pc := 71) dX3_rise_71 rfl rfl ?_
      refine AW.iload_n (pc := 72) dX3_rise_72 rfl rfl ?_
      refine AW.iload_n (pc := 73) dX3_rise_73 rfl rfl ?_
      refine AW.callV (pc := 74) (S' := []) dX3_rise_74 (c_R_makePending_35 (d := d - 1) ht (by omega) hw) ok_X3_makePending tw_220 ts_8 tw_218 (fix_pos (by decide)) (lay_at ht (by decide)) (show aw_cl[3]? = some _ from rfl) rfl rfl (by omega) rfl (Nat.le_of_ble_eq_true rfl) (by omega) (by omega) ?_ (fun E h' k' hq => by obtain ⟨rfl, m11, hv, -⟩ := hq; cases hv)
      intro v h' k' hq
      obtain ⟨rfl, m11, hv, rfl, hw⟩ := hq
      cases hv
      show AW _ _ _ _ _ _ _ 77 [.ref 35, .int p1, .int (m 5 (p1).toNatClampNeg), .int r2] [] (lay t ex o m11) k _ _
      exact AW.vret (pc := 77) dX3_rise_77 rfl (by omega) (by omega) (hQ _ hw)
    · have hw := hw.2 c10
      refine AW.aload_n (pc := 55) dX3_rise_55 rfl rfl ?_
      refine AW.iconst (v := 3) (pc := 56) dX3_rise_56 (by decide) ?_
      refine AW.aload_n (pc := 57) dX3_rise_57 rfl rfl ?_
      refine LW.get (pc := 58) (f := 0) (ci := 3) (T := TX3) ht (by decide) rfl dX3_rise_58 tw_552 rfl (by decide) rfl ?_
      refine LW.getN (pc := 61) (f := 1) (ci := 1) (T := TX1) ht (by decide) rfl dX3_rise_61 tw_448 rfl (by decide) rfl ?_
      refine AW.iload_n (pc := 64) dX3_rise_64 rfl rfl ?_
      obtain ⟨hin, hw⟩ := hw
      refine LW.iald (pc := 65) (j := p1.toNatClampNeg) ht (by decide) rfl dX3_rise_65 hin rfl ?_
      refine AW.callV (pc := 66) (S' := []) dX3_rise_66 (c_R_noteHazard_35 (d := d - 1) ht (by omega) hw) ok_X3_noteHazard tw_232 ts_11 tw_230 (fix_pos (by decide)) (lay_at ht (by decide)) (show aw_cl[3]? = some _ from rfl) rfl rfl (by omega) rfl (Nat.le_of_ble_eq_true rfl) (by omega) (by omega) ?_ (fun E h' k' hq => by obtain ⟨rfl, m12, hv, -⟩ := hq; cases hv)
      intro v h' k' hq
      obtain ⟨rfl, m12, hv, rfl, hw⟩ := hq
      cases hv
      show AW _ _ _ _ _ _ _ 69 [.ref 35, .int p1, .int (m 5 (p1).toNatClampNeg), .int r2] [] (lay t ex o m12) k _ _
      refine AW.iconst (v := 2) (pc := 69) dX3_rise_69 (by decide) ?_
      refine AW.istore_n (L' := [.ref 35, .int p1, .int (m 5 (p1).toNatClampNeg), .int (2 : Int32)]) (pc := 70) dX3_rise_70 rfl (by decide) rfl rfl ?_
      refine AW.aload_n (pc := 71) dX3_rise_71 rfl rfl ?_
      refine AW.iload_n (pc := 72) dX3_rise_72 rfl rfl ?_
      refine AW.iload_n (pc := 73) dX3_rise_73 rfl rfl ?_
      refine AW.callV (pc := 74) (S' := []) dX3_rise_74 (c_R_makePending_35 (d := d - 1) ht (by omega) hw) ok_X3_makePending tw_220 ts_8 tw_218 (fix_pos (by decide)) (lay_at ht (by decide)) (show aw_cl[3]? = some _ from rfl) rfl rfl (by omega) rfl (Nat.le_of_ble_eq_true rfl) (by omega) (by omega) ?_ (fun E h' k' hq => by obtain ⟨rfl, m13, hv, -⟩ := hq; cases hv)
      intro v h' k' hq
      obtain ⟨rfl, m13, hv, rfl, hw⟩ := hq
      cases hv
      show AW _ _ _ _ _ _ _ 77 [.ref 35, .int p1, .int (m 5 (p1).toNatClampNeg), .int (2 : Int32)] [] (lay t ex o m13) k _ _
      exact AW.vret (pc := 77) dX3_rise_77 rfl (by omega) (by omega) (hQ _ hw)
set_option maxRecDepth 100000 in
set_option maxHeartbeats 4000000 in
theorem c_R_rise_35 {d k t : Nat} {ex : Hp} {o : Nat → Int64} {K : Mem → Prop} {m : Mem} {p1 : Int32} (ht : tok t) (hd : 3 ≤ d) (hw : w_R_rise 35 p1 m K) : AM mX3_rise d [.ref 35, .int p1] (lay t ex o m) k 0 0 (fun oc h' k' => k = k' ∧ ∃ (m' : Mem), oc = .inl none ∧ h' = lay t ex o m' ∧ K m') :=
  AM.intro (μ := mX3_rise) (n := 2) (by decide) rfl rfl rfl (b_R_rise_35 ht hd (by omega) (by omega) (fun _ hK => ⟨rfl, _, rfl, rfl, hK⟩) p1 hw)
def w_R_askRegister (r : Nat) (p1 : Int32) (p2 : Int32) (p3 : Int32) (m : Mem) (K : Mem → Prop) : Prop :=
  vp_in p1 30 ∧ vp_in p1 30 ∧ vp_in p1 30 ∧ (∀ J2 : Mem → Prop, (∀  (m1 : Mem), ((∀ J9 : Mem → Prop, (∀  (m8 : Mem), (((¬ (p2 = (m 5 (p1).toNatClampNeg)) → K m8) ∧ (p2 = (m 5 (p1).toNatClampNeg) → vp_in p1 30 ∧ vp_in p1 30 ∧ w_R_isRecent r (m8 (r + 8) (p1).toNatClampNeg) (m8 10 (p1).toNatClampNeg) m8 (fun r23 m22 => ((r23 = 0 → K m22) ∧ (¬ (r23 = 0) → vp_in p1 30 ∧ w_R_noteHazard r (4 : Int32) (m22 4 (p1).toNatClampNeg) m22 (fun m25 => w_R_makePending r p1 (2 : Int32) m25 (fun m26 => K m26)))))))) → J9 m8) → ((¬ (p2 = (m 6 (p1).toNatClampNeg)) → J9  m1) ∧ (p2 = (m 6 (p1).toNatClampNeg) → ((¬ (p3 = 0) → J9  m1) ∧ (p3 = 0 → w_R_valueOf r (m 6 (p1).toNatClampNeg) m1 (fun r13 m12 => ((¬ (r13 = (1 : Int32)) → J9  m12) ∧ (r13 = (1 : Int32) → (((m 7 (p1).toNatClampNeg) = (-1 : Int32) → w_R_rise r p1 m12 (fun m16 => J9  m16)) ∧ (¬ ((m 7 (p1).toNatClampNeg) = (-1 : Int32)) → w_R_valueOf r (m 7 (p1).toNatClampNeg) m12 (fun r18 m17 => ((¬ (r18 = 0) → J9  m17) ∧ (r18 = 0 → w_R_rise r p1 m17 (fun m20 => J9  m20))))))))))))))) → J2 m1) → ((¬ (p2 = (m 7 (p1).toNatClampNeg)) → J2  m) ∧ (p2 = (m 7 (p1).toNatClampNeg) → w_R_valueOf r (m 7 (p1).toNatClampNeg) m (fun r5 m4 => ((¬ (r5 = (1 : Int32)) → J2  m4) ∧ (r5 = (1 : Int32) → w_R_makePending r p1 (0 : Int32) m4 (fun m7 => J2  m7)))))))
set_option maxRecDepth 100000 in
set_option maxHeartbeats 4000000 in
theorem b_R_askRegister_23 {Z : Gz} {d k0 mc ms cs ss k t : Nat} {Q : Po} {ex : Hp} {o : Nat → Int64} {K : Mem → Prop}  (ht : tok t) (hd : 4 ≤ d) (hcs : cs + 0 ≤ mc) (hss : ss + 0 ≤ ms) (hQ : ∀ (m : Mem), K m → Q (.inl none) (lay t ex o m) k) {m : Mem} (p1 : Int32) (p2 : Int32) (p3 : Int32) (hw : w_R_askRegister 23 p1 p2 p3 m K) : AW Z mX3_askRegister d k0 mc ms Q 0 [.ref 23, .int p1, .int p2, .int p3, .null, .null, .null] [] (lay t ex o m) k cs ss := by
  unfold w_R_askRegister at hw
  refine AW.aload_n (pc := 0) dX3_askRegister_0 rfl rfl ?_
  refine LW.get (pc := 1) (f := 0) (ci := 3) (T := TX3) ht (by decide) rfl dX3_askRegister_1 tw_552 rfl (by decide) rfl ?_
  refine LW.getN (pc := 4) (f := 4) (ci := 1) (T := TX1) ht (by decide) rfl dX3_askRegister_4 tw_457 rfl (by decide) rfl ?_
  refine AW.iload_n (pc := 7) dX3_askRegister_7 rfl rfl ?_
  obtain ⟨hin, hw⟩ := hw
  refine LW.iald (pc := 8) (j := p1.toNatClampNeg) ht (by decide) rfl dX3_askRegister_8 hin rfl ?_
  refine AW.istore (L' := [.ref 23, .int p1, .int p2, .int p3, .int (m 7 (p1).toNatClampNeg), .null, .null]) (pc := 9) dX3_askRegister_9 (by decide) rfl rfl ?_
  refine AW.aload_n (pc := 11) dX3_askRegister_11 rfl rfl ?_
  refine LW.get (pc := 12) (f := 0) (ci := 3) (T := TX3) ht (by decide) rfl dX3_askRegister_12 tw_552 rfl (by decide) rfl ?_
  refine LW.getN (pc := 15) (f := 3) (ci := 1) (T := TX1) ht (by decide) rfl dX3_askRegister_15 tw_454 rfl (by decide) rfl ?_
  refine AW.iload_n (pc := 18) dX3_askRegister_18 rfl rfl ?_
  obtain ⟨hin, hw⟩ := hw
  refine LW.iald (pc := 19) (j := p1.toNatClampNeg) ht (by decide) rfl dX3_askRegister_19 hin rfl ?_
  refine AW.istore (L' := [.ref 23, .int p1, .int p2, .int p3, .int (m 7 (p1).toNatClampNeg), .int (m 6 (p1).toNatClampNeg), .null]) (pc := 20) dX3_askRegister_20 (by decide) rfl rfl ?_
  refine AW.aload_n (pc := 22) dX3_askRegister_22 rfl rfl ?_
  refine LW.get (pc := 23) (f := 0) (ci := 3) (T := TX3) ht (by decide) rfl dX3_askRegister_23 tw_552 rfl (by decide) rfl ?_
  refine LW.getN (pc := 26) (f := 2) (ci := 1) (T := TX1) ht (by decide) rfl dX3_askRegister_26 tw_451 rfl (by decide) rfl ?_
  refine AW.iload_n (pc := 29) dX3_askRegister_29 rfl rfl ?_
  obtain ⟨hin, hw⟩ := hw
  refine LW.iald (pc := 30) (j := p1.toNatClampNeg) ht (by decide) rfl dX3_askRegister_30 hin rfl ?_
  refine AW.istore (L' := [.ref 23, .int p1, .int p2, .int p3, .int (m 7 (p1).toNatClampNeg), .int (m 6 (p1).toNatClampNeg), .int (m 5 (p1).toNatClampNeg)]) (pc := 31) dX3_askRegister_31 (by decide) rfl rfl ?_
  refine AW.iload_n (pc := 33) dX3_askRegister_33 rfl rfl ?_
  refine AW.iload (pc := 34) dX3_askRegister_34 rfl ?_
  have hw := hw (fun m1 => AW Z mX3_askRegister d k0 mc ms Q 55 [.ref 23, .int p1, .int p2, .int p3, .int (m 7 (p1).toNatClampNeg), .int (m 6 (p1).toNatClampNeg), .int (m 5 (p1).toNatClampNeg)] [] (lay t ex o m1) k (cs) (ss)) (by
      intro m1 hw
      refine AW.iload_n (pc := 55) dX3_askRegister_55 rfl rfl ?_
      refine AW.iload (pc := 56) dX3_askRegister_56 rfl ?_
      have hw := hw (fun m8 => AW Z mX3_askRegister d k0 mc ms Q 95 [.ref 23, .int p1, .int p2, .int p3, .int (m 7 (p1).toNatClampNeg), .int (m 6 (p1).toNatClampNeg), .int (m 5 (p1).toNatClampNeg)] [] (lay t ex o m8) k (cs) (ss)) (by
          intro m8 hw
          refine AW.iload_n (pc := 95) dX3_askRegister_95 rfl rfl ?_
          refine AW.iload (pc := 96) dX3_askRegister_96 rfl ?_
          refine AW.icmp_ne (pc := 98) (tgt := 143) dX3_askRegister_98 (by decide) (fun c21 => ?_) (fun c21 => ?_)
          · have hw := hw.1 c21
            exact AW.vret (pc := 143) dX3_askRegister_143 rfl (by omega) (by omega) (hQ _ hw)
          · have hw := hw.2 c21
            refine AW.aload_n (pc := 101) dX3_askRegister_101 rfl rfl ?_
            refine AW.aload_n (pc := 102) dX3_askRegister_102 rfl rfl ?_
            refine LW.get (pc := 103) (f := 8) (ci := 3) (T := TX3) ht (by decide) rfl dX3_askRegister_103 tw_565 rfl (by decide) rfl ?_
            refine AW.iload_n (pc := 106) dX3_askRegister_106 rfl rfl ?_
            obtain ⟨hin, hw⟩ := hw
            refine LW.iald (pc := 107) (j := p1.toNatClampNeg) ht (by decide) rfl dX3_askRegister_107 hin rfl ?_
            refine AW.aload_n (pc := 108) dX3_askRegister_108 rfl rfl ?_
            refine LW.get (pc := 109) (f := 0) (ci := 3) (T := TX3) ht (by decide) rfl dX3_askRegister_109 tw_552 rfl (by decide) rfl ?_
            refine LW.getN (pc := 112) (f := 7) (ci := 1) (T := TX1) ht (by decide) rfl dX3_askRegister_112 tw_464 rfl (by decide) rfl ?_
            refine AW.iload_n (pc := 115) dX3_askRegister_115 rfl rfl ?_
            obtain ⟨hin, hw⟩ := hw
            refine LW.iald (pc := 116) (j := p1.toNatClampNeg) ht (by decide) rfl dX3_askRegister_116 hin rfl ?_
            refine AW.callV (pc := 117) (S' := []) dX3_askRegister_117 (c_R_isRecent_23 (d := d - 1) ht (by omega) hw) ok_X3_isRecent tw_228 ts_10 tw_226 (fix_pos (by decide)) (lay_at ht (by decide)) (show aw_cl[3]? = some _ from rfl) rfl rfl (by omega) rfl (Nat.le_of_ble_eq_true rfl) (by omega) (by omega) ?_ (fun E h' k' hq => by obtain ⟨rfl, r23, m22, hv, -⟩ := hq; cases hv)
            intro v h' k' hq
            obtain ⟨rfl, r23, m22, hv, rfl, hw⟩ := hq
            cases hv
            show AW _ _ _ _ _ _ _ 120 [.ref 23, .int p1, .int p2, .int p3, .int (m 7 (p1).toNatClampNeg), .int (m 6 (p1).toNatClampNeg), .int (m 5 (p1).toNatClampNeg)] [.int r23] (lay t ex o m22) k _ _
            refine AW.if_eq (pc := 120) (tgt := 143) dX3_askRegister_120 (by decide) (fun c24 => ?_) (fun c24 => ?_)
            · have hw := hw.1 c24
              exact AW.vret (pc := 143) dX3_askRegister_143 rfl (by omega) (by omega) (hQ _ hw)
            · have hw := hw.2 c24
              refine AW.aload_n (pc := 123) dX3_askRegister_123 rfl rfl ?_
              refine AW.iconst (v := 4) (pc := 124) dX3_askRegister_124 (by decide) ?_
              refine AW.aload_n (pc := 125) dX3_askRegister_125 rfl rfl ?_
              refine LW.get (pc := 126) (f := 0) (ci := 3) (T := TX3) ht (by decide) rfl dX3_askRegister_126 tw_552 rfl (by decide) rfl ?_
              refine LW.getN (pc := 129) (f := 1) (ci := 1) (T := TX1) ht (by decide) rfl dX3_askRegister_129 tw_448 rfl (by decide) rfl ?_
              refine AW.iload_n (pc := 132) dX3_askRegister_132 rfl rfl ?_
              obtain ⟨hin, hw⟩ := hw
              refine LW.iald (pc := 133) (j := p1.toNatClampNeg) ht (by decide) rfl dX3_askRegister_133 hin rfl ?_
              refine AW.callV (pc := 134) (S' := []) dX3_askRegister_134 (c_R_noteHazard_23 (d := d - 1) ht (by omega) hw) ok_X3_noteHazard tw_232 ts_11 tw_230 (fix_pos (by decide)) (lay_at ht (by decide)) (show aw_cl[3]? = some _ from rfl) rfl rfl (by omega) rfl (Nat.le_of_ble_eq_true rfl) (by omega) (by omega) ?_ (fun E h' k' hq => by obtain ⟨rfl, m25, hv, -⟩ := hq; cases hv)
              intro v h' k' hq
              obtain ⟨rfl, m25, hv, rfl, hw⟩ := hq
              cases hv
              show AW _ _ _ _ _ _ _ 137 [.ref 23, .int p1, .int p2, .int p3, .int (m 7 (p1).toNatClampNeg), .int (m 6 (p1).toNatClampNeg), .int (m 5 (p1).toNatClampNeg)] [] (lay t ex o m25) k _ _
              refine AW.aload_n (pc := 137) dX3_askRegister_137 rfl rfl ?_
              refine AW.iload_n (pc := 138) dX3_askRegister_138 rfl rfl ?_
              refine AW.iconst (v := 2) (pc := 139) dX3_askRegister_139 (by decide) ?_
              refine AW.callV (pc := 140) (S' := []) dX3_askRegister_140 (c_R_makePending_23 (d := d - 1) ht (by omega) hw) ok_X3_makePending tw_220 ts_8 tw_218 (fix_pos (by decide)) (lay_at ht (by decide)) (show aw_cl[3]? = some _ from rfl) rfl rfl (by omega) rfl (Nat.le_of_ble_eq_true rfl) (by omega) (by omega) ?_ (fun E h' k' hq => by obtain ⟨rfl, m26, hv, -⟩ := hq; cases hv)
              intro v h' k' hq
              obtain ⟨rfl, m26, hv, rfl, hw⟩ := hq
              cases hv
              show AW _ _ _ _ _ _ _ 143 [.ref 23, .int p1, .int p2, .int p3, .int (m 7 (p1).toNatClampNeg), .int (m 6 (p1).toNatClampNeg), .int (m 5 (p1).toNatClampNeg)] [] (lay t ex o m26) k _ _
              exact AW.vret (pc := 143) dX3_askRegister_143 rfl (by omega) (by omega) (hQ _ hw))
      refine AW.icmp_ne (pc := 58) (tgt := 95) dX3_askRegister_58 (by decide) (fun c10 => ?_) (fun c10 => ?_)
      · have hw := hw.1 c10
        exact hw
      · have hw := hw.2 c10
        refine AW.iload_n (pc := 61) dX3_askRegister_61 rfl rfl ?_
        refine AW.if_ne (pc := 62) (tgt := 95) dX3_askRegister_62 (by decide) (fun c11 => ?_) (fun c11 => ?_)
        · have hw := hw.1 c11
          exact hw
        · have hw := hw.2 c11
          refine AW.aload_n (pc := 65) dX3_askRegister_65 rfl rfl ?_
          refine AW.iload (pc := 66) dX3_askRegister_66 rfl ?_
          refine AW.callV (pc := 68) (S' := []) dX3_askRegister_68 (c_R_valueOf_23 (d := d - 1) ht (by omega) hw) ok_X3_valueOf tw_216 ts_7 tw_214 (fix_pos (by decide)) (lay_at ht (by decide)) (show aw_cl[3]? = some _ from rfl) rfl rfl (by omega) rfl (Nat.le_of_ble_eq_true rfl) (by omega) (by omega) ?_ (fun E h' k' hq => by obtain ⟨rfl, r13, m12, hv, -⟩ := hq; cases hv)
          intro v h' k' hq
          obtain ⟨rfl, r13, m12, hv, rfl, hw⟩ := hq
          cases hv
          show AW _ _ _ _ _ _ _ 71 [.ref 23, .int p1, .int p2, .int p3, .int (m 7 (p1).toNatClampNeg), .int (m 6 (p1).toNatClampNeg), .int (m 5 (p1).toNatClampNeg)] [.int r13] (lay t ex o m12) k _ _
          refine AW.iconst (v := 1) (pc := 71) dX3_askRegister_71 (by decide) ?_
          refine AW.icmp_ne (pc := 72) (tgt := 95) dX3_askRegister_72 (by decide) (fun c14 => ?_) (fun c14 => ?_)
          · have hw := hw.1 c14
            exact hw
          · have hw := hw.2 c14
            refine AW.iload (pc := 75) dX3_askRegister_75 rfl ?_
            refine AW.iconst (v := -1) (pc := 77) dX3_askRegister_77 (by decide) ?_
            refine AW.icmp_eq (pc := 78) (tgt := 90) dX3_askRegister_78 (by decide) (fun c15 => ?_) (fun c15 => ?_)
            · have hw := hw.1 c15
              refine AW.aload_n (pc := 90) dX3_askRegister_90 rfl rfl ?_
              refine AW.iload_n (pc := 91) dX3_askRegister_91 rfl rfl ?_
              refine AW.callV (pc := 92) (S' := []) dX3_askRegister_92 (c_R_rise_23 (d := d - 1) ht (by omega) hw) ok_X3_rise tw_224 ts_9 tw_222 (fix_pos (by decide)) (lay_at ht (by decide)) (show aw_cl[3]? = some _ from rfl) rfl rfl (by omega) rfl (Nat.le_of_ble_eq_true rfl) (by omega) (by omega) ?_ (fun E h' k' hq => by obtain ⟨rfl, m16, hv, -⟩ := hq; cases hv)
              intro v h' k' hq
              obtain ⟨rfl, m16, hv, rfl, hw⟩ := hq
              cases hv
              show AW _ _ _ _ _ _ _ 95 [.ref 23, .int p1, .int p2, .int p3, .int (m 7 (p1).toNatClampNeg), .int (m 6 (p1).toNatClampNeg), .int (m 5 (p1).toNatClampNeg)] [] (lay t ex o m16) k _ _
              exact hw
            · have hw := hw.2 c15
              refine AW.aload_n (pc := 81) dX3_askRegister_81 rfl rfl ?_
              refine AW.iload (pc := 82) dX3_askRegister_82 rfl ?_
              refine AW.callV (pc := 84) (S' := []) dX3_askRegister_84 (c_R_valueOf_23 (d := d - 1) ht (by omega) hw) ok_X3_valueOf tw_216 ts_7 tw_214 (fix_pos (by decide)) (lay_at ht (by decide)) (show aw_cl[3]? = some _ from rfl) rfl rfl (by omega) rfl (Nat.le_of_ble_eq_true rfl) (by omega) (by omega) ?_ (fun E h' k' hq => by obtain ⟨rfl, r18, m17, hv, -⟩ := hq; cases hv)
              intro v h' k' hq
              obtain ⟨rfl, r18, m17, hv, rfl, hw⟩ := hq
              cases hv
              show AW _ _ _ _ _ _ _ 87 [.ref 23, .int p1, .int p2, .int p3, .int (m 7 (p1).toNatClampNeg), .int (m 6 (p1).toNatClampNeg), .int (m 5 (p1).toNatClampNeg)] [.int r18] (lay t ex o m17) k _ _
              refine AW.if_ne (pc := 87) (tgt := 95) dX3_askRegister_87 (by decide) (fun c19 => ?_) (fun c19 => ?_)
              · have hw := hw.1 c19
                exact hw
              · have hw := hw.2 c19
                refine AW.aload_n (pc := 90) dX3_askRegister_90 rfl rfl ?_
                refine AW.iload_n (pc := 91) dX3_askRegister_91 rfl rfl ?_
                refine AW.callV (pc := 92) (S' := []) dX3_askRegister_92 (c_R_rise_23 (d := d - 1) ht (by omega) hw) ok_X3_rise tw_224 ts_9 tw_222 (fix_pos (by decide)) (lay_at ht (by decide)) (show aw_cl[3]? = some _ from rfl) rfl rfl (by omega) rfl (Nat.le_of_ble_eq_true rfl) (by omega) (by omega) ?_ (fun E h' k' hq => by obtain ⟨rfl, m20, hv, -⟩ := hq; cases hv)
                intro v h' k' hq
                obtain ⟨rfl, m20, hv, rfl, hw⟩ := hq
                cases hv
                show AW _ _ _ _ _ _ _ 95 [.ref 23, .int p1, .int p2, .int p3, .int (m 7 (p1).toNatClampNeg), .int (m 6 (p1).toNatClampNeg), .int (m 5 (p1).toNatClampNeg)] [] (lay t ex o m20) k _ _
                exact hw)
  refine AW.icmp_ne (pc := 36) (tgt := 55) dX3_askRegister_36 (by decide) (fun c3 => ?_) (fun c3 => ?_)
  · have hw := hw.1 c3
    exact hw
  · have hw := hw.2 c3
    refine AW.aload_n (pc := 39) dX3_askRegister_39 rfl rfl ?_
    refine AW.iload (pc := 40) dX3_askRegister_40 rfl ?_
    refine AW.callV (pc := 42) (S' := []) dX3_askRegister_42 (c_R_valueOf_23 (d := d - 1) ht (by omega) hw) ok_X3_valueOf tw_216 ts_7 tw_214 (fix_pos (by decide)) (lay_at ht (by decide)) (show aw_cl[3]? = some _ from rfl) rfl rfl (by omega) rfl (Nat.le_of_ble_eq_true rfl) (by omega) (by omega) ?_ (fun E h' k' hq => by obtain ⟨rfl, r5, m4, hv, -⟩ := hq; cases hv)
    intro v h' k' hq
    obtain ⟨rfl, r5, m4, hv, rfl, hw⟩ := hq
    cases hv
    show AW _ _ _ _ _ _ _ 45 [.ref 23, .int p1, .int p2, .int p3, .int (m 7 (p1).toNatClampNeg), .int (m 6 (p1).toNatClampNeg), .int (m 5 (p1).toNatClampNeg)] [.int r5] (lay t ex o m4) k _ _
    refine AW.iconst (v := 1) (pc := 45) dX3_askRegister_45 (by decide) ?_
    refine AW.icmp_ne (pc := 46) (tgt := 55) dX3_askRegister_46 (by decide) (fun c6 => ?_) (fun c6 => ?_)
    · have hw := hw.1 c6
      exact hw
    · have hw := hw.2 c6
      refine AW.aload_n (pc := 49) dX3_askRegister_49 rfl rfl ?_
      refine AW.iload_n (pc := 50) dX3_askRegister_50 rfl rfl ?_
      refine AW.iconst (v := 0) (pc := 51) dX3_askRegister_51 (by decide) ?_
      refine AW.callV (pc := 52) (S' := []) dX3_askRegister_52 (c_R_makePending_23 (d := d - 1) ht (by omega) hw) ok_X3_makePending tw_220 ts_8 tw_218 (fix_pos (by decide)) (lay_at ht (by decide)) (show aw_cl[3]? = some _ from rfl) rfl rfl (by omega) rfl (Nat.le_of_ble_eq_true rfl) (by omega) (by omega) ?_ (fun E h' k' hq => by obtain ⟨rfl, m7, hv, -⟩ := hq; cases hv)
      intro v h' k' hq
      obtain ⟨rfl, m7, hv, rfl, hw⟩ := hq
      cases hv
      show AW _ _ _ _ _ _ _ 55 [.ref 23, .int p1, .int p2, .int p3, .int (m 7 (p1).toNatClampNeg), .int (m 6 (p1).toNatClampNeg), .int (m 5 (p1).toNatClampNeg)] [] (lay t ex o m7) k _ _
      exact hw
set_option maxRecDepth 100000 in
set_option maxHeartbeats 4000000 in
theorem c_R_askRegister_23 {d k t : Nat} {ex : Hp} {o : Nat → Int64} {K : Mem → Prop} {m : Mem} {p1 : Int32} {p2 : Int32} {p3 : Int32} (ht : tok t) (hd : 4 ≤ d) (hw : w_R_askRegister 23 p1 p2 p3 m K) : AM mX3_askRegister d [.ref 23, .int p1, .int p2, .int p3] (lay t ex o m) k 0 0 (fun oc h' k' => k = k' ∧ ∃ (m' : Mem), oc = .inl none ∧ h' = lay t ex o m' ∧ K m') :=
  AM.intro (μ := mX3_askRegister) (n := 3) (by decide) rfl rfl rfl (b_R_askRegister_23 ht hd (by omega) (by omega) (fun _ hK => ⟨rfl, _, rfl, rfl, hK⟩) p1 p2 p3 hw)
set_option maxRecDepth 100000 in
set_option maxHeartbeats 4000000 in
theorem b_R_askRegister_35 {Z : Gz} {d k0 mc ms cs ss k t : Nat} {Q : Po} {ex : Hp} {o : Nat → Int64} {K : Mem → Prop}  (ht : tok t) (hd : 4 ≤ d) (hcs : cs + 0 ≤ mc) (hss : ss + 0 ≤ ms) (hQ : ∀ (m : Mem), K m → Q (.inl none) (lay t ex o m) k) {m : Mem} (p1 : Int32) (p2 : Int32) (p3 : Int32) (hw : w_R_askRegister 35 p1 p2 p3 m K) : AW Z mX3_askRegister d k0 mc ms Q 0 [.ref 35, .int p1, .int p2, .int p3, .null, .null, .null] [] (lay t ex o m) k cs ss := by
  unfold w_R_askRegister at hw
  refine AW.aload_n (pc := 0) dX3_askRegister_0 rfl rfl ?_
  refine LW.get (pc := 1) (f := 0) (ci := 3) (T := TX3) ht (by decide) rfl dX3_askRegister_1 tw_552 rfl (by decide) rfl ?_
  refine LW.getN (pc := 4) (f := 4) (ci := 1) (T := TX1) ht (by decide) rfl dX3_askRegister_4 tw_457 rfl (by decide) rfl ?_
  refine AW.iload_n (pc := 7) dX3_askRegister_7 rfl rfl ?_
  obtain ⟨hin, hw⟩ := hw
  refine LW.iald (pc := 8) (j := p1.toNatClampNeg) ht (by decide) rfl dX3_askRegister_8 hin rfl ?_
  refine AW.istore (L' := [.ref 35, .int p1, .int p2, .int p3, .int (m 7 (p1).toNatClampNeg), .null, .null]) (pc := 9) dX3_askRegister_9 (by decide) rfl rfl ?_
  refine AW.aload_n (pc := 11) dX3_askRegister_11 rfl rfl ?_
  refine LW.get (pc := 12) (f := 0) (ci := 3) (T := TX3) ht (by decide) rfl dX3_askRegister_12 tw_552 rfl (by decide) rfl ?_
  refine LW.getN (pc := 15) (f := 3) (ci := 1) (T := TX1) ht (by decide) rfl dX3_askRegister_15 tw_454 rfl (by decide) rfl ?_
  refine AW.iload_n (pc := 18) dX3_askRegister_18 rfl rfl ?_
  obtain ⟨hin, hw⟩ := hw
  refine LW.iald (pc := 19) (j := p1.toNatClampNeg) ht (by decide) rfl dX3_askRegister_19 hin rfl ?_
  refine AW.istore (L' := [.ref 35, .int p1, .int p2, .int p3, .int (m 7 (p1).toNatClampNeg), .int (m 6 (p1).toNatClampNeg), .null]) (pc := 20) dX3_askRegister_20 (by decide) rfl rfl ?_
  refine AW.aload_n (pc := 22) dX3_askRegister_22 rfl rfl ?_
  refine LW.get (pc := 23) (f := 0) (ci := 3) (T := TX3) ht (by decide) rfl dX3_askRegister_23 tw_552 rfl (by decide) rfl ?_
  refine LW.getN (pc := 26) (f := 2) (ci := 1) (T := TX1) ht (by decide) rfl dX3_askRegister_26 tw_451 rfl (by decide) rfl ?_
  refine AW.iload_n (pc := 29) dX3_askRegister_29 rfl rfl ?_
  obtain ⟨hin, hw⟩ := hw
  refine LW.iald (pc := 30) (j := p1.toNatClampNeg) ht (by decide) rfl dX3_askRegister_30 hin rfl ?_
  refine AW.istore (L' := [.ref 35, .int p1, .int p2, .int p3, .int (m 7 (p1).toNatClampNeg), .int (m 6 (p1).toNatClampNeg), .int (m 5 (p1).toNatClampNeg)]) (pc := 31) dX3_askRegister_31 (by decide) rfl rfl ?_
  refine AW.iload_n (pc := 33) dX3_askRegister_33 rfl rfl ?_
  refine AW.iload (pc := 34) dX3_askRegister_34 rfl ?_
  have hw := hw (fun m1 => AW Z mX3_askRegister d k0 mc ms Q 55 [.ref 35, .int p1, .int p2, .int p3, .int (m 7 (p1).toNatClampNeg), .int (m 6 (p1).toNatClampNeg), .int (m 5 (p1).toNatClampNeg)] [] (lay t ex o m1) k (cs) (ss)) (by
      intro m1 hw
      refine AW.iload_n (pc := 55) dX3_askRegister_55 rfl rfl ?_
      refine AW.iload (pc := 56) dX3_askRegister_56 rfl ?_
      have hw := hw (fun m8 => AW Z mX3_askRegister d k0 mc ms Q 95 [.ref 35, .int p1, .int p2, .int p3, .int (m 7 (p1).toNatClampNeg), .int (m 6 (p1).toNatClampNeg), .int (m 5 (p1).toNatClampNeg)] [] (lay t ex o m8) k (cs) (ss)) (by
          intro m8 hw
          refine AW.iload_n (pc := 95) dX3_askRegister_95 rfl rfl ?_
          refine AW.iload (pc := 96) dX3_askRegister_96 rfl ?_
          refine AW.icmp_ne (pc := 98) (tgt := 143) dX3_askRegister_98 (by decide) (fun c21 => ?_) (fun c21 => ?_)
          · have hw := hw.1 c21
            exact AW.vret (pc := 143) dX3_askRegister_143 rfl (by omega) (by omega) (hQ _ hw)
          · have hw := hw.2 c21
            refine AW.aload_n (pc := 101) dX3_askRegister_101 rfl rfl ?_
            refine AW.aload_n (pc := 102) dX3_askRegister_102 rfl rfl ?_
            refine LW.get (pc := 103) (f := 8) (ci := 3) (T := TX3) ht (by decide) rfl dX3_askRegister_103 tw_565 rfl (by decide) rfl ?_
            refine AW.iload_n (pc := 106) dX3_askRegister_106 rfl rfl ?_
            obtain ⟨hin, hw⟩ := hw
            refine LW.iald (pc := 107) (j := p1.toNatClampNeg) ht (by decide) rfl dX3_askRegister_107 hin rfl ?_
            refine AW.aload_n (pc := 108) dX3_askRegister_108 rfl rfl ?_
            refine LW.get (pc := 109) (f := 0) (ci := 3) (T := TX3) ht (by decide) rfl dX3_askRegister_109 tw_552 rfl (by decide) rfl ?_
            refine LW.getN (pc := 112) (f := 7) (ci := 1) (T := TX1) ht (by decide) rfl dX3_askRegister_112 tw_464 rfl (by decide) rfl ?_
            refine AW.iload_n (pc := 115) dX3_askRegister_115 rfl rfl ?_
            obtain ⟨hin, hw⟩ := hw
            refine LW.iald (pc := 116) (j := p1.toNatClampNeg) ht (by decide) rfl dX3_askRegister_116 hin rfl ?_
            refine AW.callV (pc := 117) (S' := []) dX3_askRegister_117 (c_R_isRecent_35 (d := d - 1) ht (by omega) hw) ok_X3_isRecent tw_228 ts_10 tw_226 (fix_pos (by decide)) (lay_at ht (by decide)) (show aw_cl[3]? = some _ from rfl) rfl rfl (by omega) rfl (Nat.le_of_ble_eq_true rfl) (by omega) (by omega) ?_ (fun E h' k' hq => by obtain ⟨rfl, r23, m22, hv, -⟩ := hq; cases hv)
            intro v h' k' hq
            obtain ⟨rfl, r23, m22, hv, rfl, hw⟩ := hq
            cases hv
            show AW _ _ _ _ _ _ _ 120 [.ref 35, .int p1, .int p2, .int p3, .int (m 7 (p1).toNatClampNeg), .int (m 6 (p1).toNatClampNeg), .int (m 5 (p1).toNatClampNeg)] [.int r23] (lay t ex o m22) k _ _
            refine AW.if_eq (pc := 120) (tgt := 143) dX3_askRegister_120 (by decide) (fun c24 => ?_) (fun c24 => ?_)
            · have hw := hw.1 c24
              exact AW.vret (pc := 143) dX3_askRegister_143 rfl (by omega) (by omega) (hQ _ hw)
            · have hw := hw.2 c24
              refine AW.aload_n (pc := 123) dX3_askRegister_123 rfl rfl ?_
              refine AW.iconst (v := 4) (pc := 124) dX3_askRegister_124 (by decide) ?_
              refine AW.aload_n (pc := 125) dX3_askRegister_125 rfl rfl ?_
              refine LW.get (pc := 126) (f := 0) (ci := 3) (T := TX3) ht (by decide) rfl dX3_askRegister_126 tw_552 rfl (by decide) rfl ?_
              refine LW.getN (pc := 129) (f := 1) (ci := 1) (T := TX1) ht (by decide) rfl dX3_askRegister_129 tw_448 rfl (by decide) rfl ?_
              refine AW.iload_n (pc := 132) dX3_askRegister_132 rfl rfl ?_
              obtain ⟨hin, hw⟩ := hw
              refine LW.iald (pc := 133) (j := p1.toNatClampNeg) ht (by decide) rfl dX3_askRegister_133 hin rfl ?_
              refine AW.callV (pc := 134) (S' := []) dX3_askRegister_134 (c_R_noteHazard_35 (d := d - 1) ht (by omega) hw) ok_X3_noteHazard tw_232 ts_11 tw_230 (fix_pos (by decide)) (lay_at ht (by decide)) (show aw_cl[3]? = some _ from rfl) rfl rfl (by omega) rfl (Nat.le_of_ble_eq_true rfl) (by omega) (by omega) ?_ (fun E h' k' hq => by obtain ⟨rfl, m25, hv, -⟩ := hq; cases hv)
              intro v h' k' hq
              obtain ⟨rfl, m25, hv, rfl, hw⟩ := hq
              cases hv
              show AW _ _ _ _ _ _ _ 137 [.ref 35, .int p1, .int p2, .int p3, .int (m 7 (p1).toNatClampNeg), .int (m 6 (p1).toNatClampNeg), .int (m 5 (p1).toNatClampNeg)] [] (lay t ex o m25) k _ _
              refine AW.aload_n (pc := 137) dX3_askRegister_137 rfl rfl ?_
              refine AW.iload_n (pc := 138) dX3_askRegister_138 rfl rfl ?_
              refine AW.iconst (v := 2) (pc := 139) dX3_askRegister_139 (by decide) ?_
              refine AW.callV (pc := 140) (S' := []) dX3_askRegister_140 (c_R_makePending_35 (d := d - 1) ht (by omega) hw) ok_X3_makePending tw_220 ts_8 tw_218 (fix_pos (by decide)) (lay_at ht (by decide)) (show aw_cl[3]? = some _ from rfl) rfl rfl (by omega) rfl (Nat.le_of_ble_eq_true rfl) (by omega) (by omega) ?_ (fun E h' k' hq => by obtain ⟨rfl, m26, hv, -⟩ := hq; cases hv)
              intro v h' k' hq
              obtain ⟨rfl, m26, hv, rfl, hw⟩ := hq
              cases hv
              show AW _ _ _ _ _ _ _ 143 [.ref 35, .int p1, .int p2, .int p3, .int (m 7 (p1).toNatClampNeg), .int (m 6 (p1).toNatClampNeg), .int (m 5 (p1).toNatClampNeg)] [] (lay t ex o m26) k _ _
              exact AW.vret (pc := 143) dX3_askRegister_143 rfl (by omega) (by omega) (hQ _ hw))
      refine AW.icmp_ne (pc := 58) (tgt := 95) dX3_askRegister_58 (by decide) (fun c10 => ?_) (fun c10 => ?_)
      · have hw := hw.1 c10
        exact hw
      · have hw := hw.2 c10
        refine AW.iload_n (pc := 61) dX3_askRegister_61 rfl rfl ?_
        refine AW.if_ne (pc := 62) (tgt := 95) dX3_askRegister_62 (by decide) (fun c11 => ?_) (fun c11 => ?_)
        · have hw := hw.1 c11
          exact hw
        · have hw := hw.2 c11
          refine AW.aload_n (pc := 65) dX3_askRegister_65 rfl rfl ?_
          refine AW.iload (pc := 66) dX3_askRegister_66 rfl ?_
          refine AW.callV (pc := 68) (S' := []) dX3_askRegister_68 (c_R_valueOf_35 (d := d - 1) ht (by omega) hw) ok_X3_valueOf tw_216 ts_7 tw_214 (fix_pos (by decide)) (lay_at ht (by decide)) (show aw_cl[3]? = some _ from rfl) rfl rfl (by omega) rfl (Nat.le_of_ble_eq_true rfl) (by omega) (by omega) ?_ (fun E h' k' hq => by obtain ⟨rfl, r13, m12, hv, -⟩ := hq; cases hv)
          intro v h' k' hq
          obtain ⟨rfl, r13, m12, hv, rfl, hw⟩ := hq
          cases hv
          show AW _ _ _ _ _ _ _ 71 [.ref 35, .int p1, .int p2, .int p3, .int (m 7 (p1).toNatClampNeg), .int (m 6 (p1).toNatClampNeg), .int (m 5 (p1).toNatClampNeg)] [.int r13] (lay t ex o m12) k _ _
          refine AW.iconst (v := 1) (pc := 71) dX3_askRegister_71 (by decide) ?_
          refine AW.icmp_ne (pc := 72) (tgt := 95) dX3_askRegister_72 (by decide) (fun c14 => ?_) (fun c14 => ?_)
          · have hw := hw.1 c14
            exact hw
          · have hw := hw.2 c14
            refine AW.iload (pc := 75) dX3_askRegister_75 rfl ?_
            refine AW.iconst (v := -1) (pc := 77) dX3_askRegister_77 (by decide) ?_
            refine AW.icmp_eq (pc := 78) (tgt := 90) dX3_askRegister_78 (by decide) (fun c15 => ?_) (fun c15 => ?_)
            · have hw := hw.1 c15
              refine AW.aload_n (pc := 90) dX3_askRegister_90 rfl rfl ?_
              refine AW.iload_n (pc := 91) dX3_askRegister_91 rfl rfl ?_
              refine AW.callV (pc := 92) (S' := []) dX3_askRegister_92 (c_R_rise_35 (d := d - 1) ht (by omega) hw) ok_X3_rise tw_224 ts_9 tw_222 (fix_pos (by decide)) (lay_at ht (by decide)) (show aw_cl[3]? = some _ from rfl) rfl rfl (by omega) rfl (Nat.le_of_ble_eq_true rfl) (by omega) (by omega) ?_ (fun E h' k' hq => by obtain ⟨rfl, m16, hv, -⟩ := hq; cases hv)
              intro v h' k' hq
              obtain ⟨rfl, m16, hv, rfl, hw⟩ := hq
              cases hv
              show AW _ _ _ _ _ _ _ 95 [.ref 35, .int p1, .int p2, .int p3, .int (m 7 (p1).toNatClampNeg), .int (m 6 (p1).toNatClampNeg), .int (m 5 (p1).toNatClampNeg)] [] (lay t ex o m16) k _ _
              exact hw
            · have hw := hw.2 c15
              refine AW.aload_n (pc := 81) dX3_askRegister_81 rfl rfl ?_
              refine AW.iload (pc := 82) dX3_askRegister_82 rfl ?_
              refine AW.callV (pc := 84) (S' := []) dX3_askRegister_84 (c_R_valueOf_35 (d := d - 1) ht (by omega) hw) ok_X3_valueOf tw_216 ts_7 tw_214 (fix_pos (by decide)) (lay_at ht (by decide)) (show aw_cl[3]? = some _ from rfl) rfl rfl (by omega) rfl (Nat.le_of_ble_eq_true rfl) (by omega) (by omega) ?_ (fun E h' k' hq => by obtain ⟨rfl, r18, m17, hv, -⟩ := hq; cases hv)
              intro v h' k' hq
              obtain ⟨rfl, r18, m17, hv, rfl, hw⟩ := hq
              cases hv
              show AW _ _ _ _ _ _ _ 87 [.ref 35, .int p1, .int p2, .int p3, .int (m 7 (p1).toNatClampNeg), .int (m 6 (p1).toNatClampNeg), .int (m 5 (p1).toNatClampNeg)] [.int r18] (lay t ex o m17) k _ _
              refine AW.if_ne (pc := 87) (tgt := 95) dX3_askRegister_87 (by decide) (fun c19 => ?_) (fun c19 => ?_)
              · have hw := hw.1 c19
                exact hw
              · have hw := hw.2 c19
                refine AW.aload_n (pc := 90) dX3_askRegister_90 rfl rfl ?_
                refine AW.iload_n (pc := 91) dX3_askRegister_91 rfl rfl ?_
                refine AW.callV (pc := 92) (S' := []) dX3_askRegister_92 (c_R_rise_35 (d := d - 1) ht (by omega) hw) ok_X3_rise tw_224 ts_9 tw_222 (fix_pos (by decide)) (lay_at ht (by decide)) (show aw_cl[3]? = some _ from rfl) rfl rfl (by omega) rfl (Nat.le_of_ble_eq_true rfl) (by omega) (by omega) ?_ (fun E h' k' hq => by obtain ⟨rfl, m20, hv, -⟩ := hq; cases hv)
                intro v h' k' hq
                obtain ⟨rfl, m20, hv, rfl, hw⟩ := hq
                cases hv
                show AW _ _ _ _ _ _ _ 95 [.ref 35, .int p1, .int p2, .int p3, .int (m 7 (p1).toNatClampNeg), .int (m 6 (p1).toNatClampNeg), .int (m 5 (p1).toNatClampNeg)] [] (lay t ex o m20) k _ _
                exact hw)
  refine AW.icmp_ne (pc := 36) (tgt := 55) dX3_askRegister_36 (by decide) (fun c3 => ?_) (fun c3 => ?_)
  · have hw := hw.1 c3
    exact hw
  · have hw := hw.2 c3
    refine AW.aload_n (pc := 39) dX3_askRegister_39 rfl rfl ?_
    refine AW.iload (pc := 40) dX3_askRegister_40 rfl ?_
    refine AW.callV (pc := 42) (S' := []) dX3_askRegister_42 (c_R_valueOf_35 (d := d - 1) ht (by omega) hw) ok_X3_valueOf tw_216 ts_7 tw_214 (fix_pos (by decide)) (lay_at ht (by decide)) (show aw_cl[3]? = some _ from rfl) rfl rfl (by omega) rfl (Nat.le_of_ble_eq_true rfl) (by omega) (by omega) ?_ (fun E h' k' hq => by obtain ⟨rfl, r5, m4, hv, -⟩ := hq; cases hv)
    intro v h' k' hq
    obtain ⟨rfl, r5, m4, hv, rfl, hw⟩ := hq
    cases hv
    show AW _ _ _ _ _ _ _ 45 [.ref 35, .int p1, .int p2, .int p3, .int (m 7 (p1).toNatClampNeg), .int (m 6 (p1).toNatClampNeg), .int (m 5 (p1).toNatClampNeg)] [.int r5] (lay t ex o m4) k _ _
    refine AW.iconst (v := 1) (pc := 45) dX3_askRegister_45 (by decide) ?_
    refine AW.icmp_ne (pc := 46) (tgt := 55) dX3_askRegister_46 (by decide) (fun c6 => ?_) (fun c6 => ?_)
    · have hw := hw.1 c6
      exact hw
    · have hw := hw.2 c6
      refine AW.aload_n (pc := 49) dX3_askRegister_49 rfl rfl ?_
      refine AW.iload_n (pc := 50) dX3_askRegister_50 rfl rfl ?_
      refine AW.iconst (v := 0) (pc := 51) dX3_askRegister_51 (by decide) ?_
      refine AW.callV (pc := 52) (S' := []) dX3_askRegister_52 (c_R_makePending_35 (d := d - 1) ht (by omega) hw) ok_X3_makePending tw_220 ts_8 tw_218 (fix_pos (by decide)) (lay_at ht (by decide)) (show aw_cl[3]? = some _ from rfl) rfl rfl (by omega) rfl (Nat.le_of_ble_eq_true rfl) (by omega) (by omega) ?_ (fun E h' k' hq => by obtain ⟨rfl, m7, hv, -⟩ := hq; cases hv)
      intro v h' k' hq
      obtain ⟨rfl, m7, hv, rfl, hw⟩ := hq
      cases hv
      show AW _ _ _ _ _ _ _ 55 [.ref 35, .int p1, .int p2, .int p3, .int (m 7 (p1).toNatClampNeg), .int (m 6 (p1).toNatClampNeg), .int (m 5 (p1).toNatClampNeg)] [] (lay t ex o m7) k _ _
      exact hw
set_option maxRecDepth 100000 in
set_option maxHeartbeats 4000000 in
theorem c_R_askRegister_35 {d k t : Nat} {ex : Hp} {o : Nat → Int64} {K : Mem → Prop} {m : Mem} {p1 : Int32} {p2 : Int32} {p3 : Int32} (ht : tok t) (hd : 4 ≤ d) (hw : w_R_askRegister 35 p1 p2 p3 m K) : AM mX3_askRegister d [.ref 35, .int p1, .int p2, .int p3] (lay t ex o m) k 0 0 (fun oc h' k' => k = k' ∧ ∃ (m' : Mem), oc = .inl none ∧ h' = lay t ex o m' ∧ K m') :=
  AM.intro (μ := mX3_askRegister) (n := 3) (by decide) rfl rfl rfl (b_R_askRegister_35 ht hd (by omega) (by omega) (fun _ hK => ⟨rfl, _, rfl, rfl, hK⟩) p1 p2 p3 hw)
def w_R_change_65 : Nat → Nat → Int32 → Int32 → Int32 → Int32 → Mem → (Int32 → Int32 → Int32 → Int32 → Mem → Prop) → (Mem → Prop) → Prop
  | 0, _, _, _, _, _, _, _, _ => False
  | n + 1, r, x1, x2, x3, x4, m, E131, K => (((m 2 11) ≤ x4 → E131 x1 x2 x3 x4 m) ∧ (¬ ((m 2 11) ≤ x4) → w_C_isUsedBy x1 x4 m (fun r11 m10 => ((¬ (r11 = 0) → vp_in x4 30 ∧ ((¬ ((m10 3 (x4).toNatClampNeg) = (9 : Int32)) → w_R_askGate r x4 m10 (fun m14 => w_R_change_65 n r x1 x2 x3 (x4 + 1) m14 E131 K)) ∧ ((m10 3 (x4).toNatClampNeg) = (9 : Int32) → w_R_askRegister r x4 x1 x3 m10 (fun m15 => w_R_change_65 n r x1 x2 x3 (x4 + 1) m15 E131 K)))) ∧ (r11 = 0 → w_R_change_65 n r x1 x2 x3 (x4 + 1) m10 E131 K)))))
def w_R_change (r : Nat) (p1 : Int32) (p2 : Int32) (m : Mem) (K : Mem → Prop) : Prop :=
  w_N_isWire p1 m (fun r2 m1 => ((r2 = 0 → K m1) ∧ (¬ (r2 = 0) → vp_in p1 24 ∧ ((¬ ((m1 (r + 1) (p1).toNatClampNeg) = p2) → vp_in p1 24 ∧ vp_in p1 24 ∧ ∀ m5 : Mem, m5 = up2 m1 (r + 1) (p1.toNatClampNeg) p2 → vp_in p1 24 ∧ ∀ m6 : Mem, m6 = up2 m5 (r + 2) (p1.toNatClampNeg) (m5 r 13) → vp_in p1 24 ∧ vp_in p1 24 ∧ ∀ m7 : Mem, m7 = up2 m6 (r + 3) (p1.toNatClampNeg) ((m6 (r + 3) (p1).toNatClampNeg) + (1 : Int32)) → ∀ m8 : Mem, m8 = up2 m7 r 17 ((m7 r 17) + (1 : Int32)) → w_R_change_65 31 r p1 p2 (m1 (r + 1) (p1).toNatClampNeg) (0 : Int32) m8 (fun y16 y17 y18 y19 m20 => K m20) K) ∧ ((m1 (r + 1) (p1).toNatClampNeg) = p2 → K m1)))))
set_option maxRecDepth 100000 in
set_option maxHeartbeats 4000000 in
theorem l_R_change_23_65 {Z : Gz} {d k0 mc ms cs ss k t : Nat} {Q : Po} {ex : Hp} {o : Nat → Int64} {K : Mem → Prop}  (ht : tok t) (hd : 5 ≤ d) (hcs : cs ≤ mc) (hss : ss ≤ ms) (hQ : ∀ (m : Mem), K m → Q (.inl none) (lay t ex o m) k) {E131 : Int32 → Int32 → Int32 → Int32 → Mem → Prop} (hE131 : ∀ (x1 : Int32) (x2 : Int32) (x3 : Int32) (x4 : Int32) (m : Mem), E131 x1 x2 x3 x4 m → AW Z mX3_change d k0 mc ms Q 131 [.ref 23, .int x1, .int x2, .int x3, .int x4] [] (lay t ex o m) k cs ss) : ∀ (n : Nat) (x1 : Int32) (x2 : Int32) (x3 : Int32) (x4 : Int32) (m : Mem),  w_R_change_65 n 23 x1 x2 x3 x4 m E131 K → AW Z mX3_change d k0 mc ms Q 65 [.ref 23, .int x1, .int x2, .int x3, .int x4] [] (lay t ex o m) k cs ss := by
  intro n
  induction n with
  | zero =>
    intros; rename_i hw; exact absurd hw (by simp [w_R_change_65])
  | succ n ih =>
    intro x1 x2 x3 x4 m hw
    unfold w_R_change_65 at hw
    refine AW.iload (pc := 65) dX3_change_65 rfl ?_
    refine AW.aload_n (pc := 67) dX3_change_67 rfl rfl ?_
    refine LW.get (pc := 68) (f := 0) (ci := 3) (T := TX3) ht (by decide) rfl dX3_change_68 tw_552 rfl (by decide) rfl ?_
    refine LW.getN (pc := 71) (f := 11) (ci := 1) (T := TX1) ht (by decide) rfl dX3_change_71 tw_474 rfl (by decide) rfl ?_
    refine AW.icmp_ge (pc := 74) (tgt := 131) dX3_change_74 (by decide) (fun c9 => ?_) (fun c9 => ?_)
    · have hw := hw.1 c9
      exact hE131 x1 x2 x3 x4 m hw
    · have hw := hw.2 c9
      refine AW.aload_n (pc := 77) dX3_change_77 rfl rfl ?_
      refine LW.get (pc := 78) (f := 0) (ci := 3) (T := TX3) ht (by decide) rfl dX3_change_78 tw_552 rfl (by decide) rfl ?_
      refine AW.iload_n (pc := 81) dX3_change_81 rfl rfl ?_
      refine AW.iload (pc := 82) dX3_change_82 rfl ?_
      refine AW.callV (pc := 84) (S' := []) dX3_change_84 (c_C_isUsedBy (d := d - 1) ht (by omega) hw) ok_X1_isUsedBy tw_207 tw_208 tw_206 (fix_pos (by decide)) (lay_at ht (by decide)) (show aw_cl[1]? = some _ from rfl) rfl rfl (by omega) rfl (Nat.le_of_ble_eq_true rfl) (by omega) (by omega) ?_ (fun E h' k' hq => by obtain ⟨rfl, r11, m10, hv, -⟩ := hq; cases hv)
      intro v h' k' hq
      obtain ⟨rfl, r11, m10, hv, rfl, hw⟩ := hq
      cases hv
      show AW _ _ _ _ _ _ _ 87 [.ref 23, .int x1, .int x2, .int x3, .int x4] [.int r11] (lay t ex o m10) k _ _
      refine AW.if_ne (pc := 87) (tgt := 93) dX3_change_87 (by decide) (fun c12 => ?_) (fun c12 => ?_)
      · have hw := hw.1 c12
        refine AW.aload_n (pc := 93) dX3_change_93 rfl rfl ?_
        refine LW.get (pc := 94) (f := 0) (ci := 3) (T := TX3) ht (by decide) rfl dX3_change_94 tw_552 rfl (by decide) rfl ?_
        refine LW.getN (pc := 97) (f := 0) (ci := 1) (T := TX1) ht (by decide) rfl dX3_change_97 tw_444 rfl (by decide) rfl ?_
        refine AW.iload (pc := 100) dX3_change_100 rfl ?_
        obtain ⟨hin, hw⟩ := hw
        refine LW.iald (pc := 102) (j := x4.toNatClampNeg) ht (by decide) rfl dX3_change_102 hin rfl ?_
        refine AW.bipush (v := 9) (pc := 103) dX3_change_103 (by decide) ?_
        refine AW.icmp_ne (pc := 105) (tgt := 119) dX3_change_105 (by decide) (fun c13 => ?_) (fun c13 => ?_)
        · have hw := hw.1 c13
          refine AW.aload_n (pc := 119) dX3_change_119 rfl rfl ?_
          refine AW.iload (pc := 120) dX3_change_120 rfl ?_
          refine AW.callV (pc := 122) (S' := []) dX3_change_122 (c_R_askGate_23 (d := d - 1) ht (by omega) hw) ok_X3_askGate tw_236 ts_12 tw_234 (fix_pos (by decide)) (lay_at ht (by decide)) (show aw_cl[3]? = some _ from rfl) rfl rfl (by omega) rfl (Nat.le_of_ble_eq_true rfl) (by omega) (by omega) ?_ (fun E h' k' hq => by obtain ⟨rfl, m14, hv, -⟩ := hq; cases hv)
          intro v h' k' hq
          obtain ⟨rfl, m14, hv, rfl, hw⟩ := hq
          cases hv
          show AW _ _ _ _ _ _ _ 125 [.ref 23, .int x1, .int x2, .int x3, .int x4] [] (lay t ex o m14) k _ _
          refine AW.iinc (v := (x4 + 1)) (L' := [.ref 23, .int x1, .int x2, .int x3, .int (x4 + 1)]) (pc := 125) dX3_change_125 rfl rfl (by decide) rfl rfl ?_
          refine AW.goto (pc := 128) (tgt := 65) dX3_change_128 (by decide) ?_
          exact ih x1 x2 x3 (x4 + 1) m14 hw
        · have hw := hw.2 c13
          refine AW.aload_n (pc := 108) dX3_change_108 rfl rfl ?_
          refine AW.iload (pc := 109) dX3_change_109 rfl ?_
          refine AW.iload_n (pc := 111) dX3_change_111 rfl rfl ?_
          refine AW.iload_n (pc := 112) dX3_change_112 rfl rfl ?_
          refine AW.callV (pc := 113) (S' := []) dX3_change_113 (c_R_askRegister_23 (d := d - 1) ht (by omega) hw) ok_X3_askRegister tw_212 ts_6 tw_210 (fix_pos (by decide)) (lay_at ht (by decide)) (show aw_cl[3]? = some _ from rfl) rfl rfl (by omega) rfl (Nat.le_of_ble_eq_true rfl) (by omega) (by omega) ?_ (fun E h' k' hq => by obtain ⟨rfl, m15, hv, -⟩ := hq; cases hv)
          intro v h' k' hq
          obtain ⟨rfl, m15, hv, rfl, hw⟩ := hq
          cases hv
          show AW _ _ _ _ _ _ _ 116 [.ref 23, .int x1, .int x2, .int x3, .int x4] [] (lay t ex o m15) k _ _
          refine AW.goto (pc := 116) (tgt := 125) dX3_change_116 (by decide) ?_
          refine AW.iinc (v := (x4 + 1)) (L' := [.ref 23, .int x1, .int x2, .int x3, .int (x4 + 1)]) (pc := 125) dX3_change_125 rfl rfl (by decide) rfl rfl ?_
          refine AW.goto (pc := 128) (tgt := 65) dX3_change_128 (by decide) ?_
          exact ih x1 x2 x3 (x4 + 1) m15 hw
      · have hw := hw.2 c12
        refine AW.goto (pc := 90) (tgt := 125) dX3_change_90 (by decide) ?_
        refine AW.iinc (v := (x4 + 1)) (L' := [.ref 23, .int x1, .int x2, .int x3, .int (x4 + 1)]) (pc := 125) dX3_change_125 rfl rfl (by decide) rfl rfl ?_
        refine AW.goto (pc := 128) (tgt := 65) dX3_change_128 (by decide) ?_
        exact ih x1 x2 x3 (x4 + 1) m10 hw
set_option maxRecDepth 100000 in
set_option maxHeartbeats 4000000 in
theorem b_R_change_23 {Z : Gz} {d k0 mc ms cs ss k t : Nat} {Q : Po} {ex : Hp} {o : Nat → Int64} {K : Mem → Prop}  (ht : tok t) (hd : 5 ≤ d) (hcs : cs + 0 ≤ mc) (hss : ss + 0 ≤ ms) (hQ : ∀ (m : Mem), K m → Q (.inl none) (lay t ex o m) k) {m : Mem} (p1 : Int32) (p2 : Int32) (hw : w_R_change 23 p1 p2 m K) : AW Z mX3_change d k0 mc ms Q 0 [.ref 23, .int p1, .int p2, .null, .null] [] (lay t ex o m) k cs ss := by
  unfold w_R_change at hw
  refine AW.iload_n (pc := 0) dX3_change_0 rfl rfl ?_
  refine AW.callSN (pc := 1) (S' := []) dX3_change_1 (c_N_isWire (d := d - 1) ht (by omega) hw) ok_X4_isWire tw_25 tw_205 rfl (by omega) rfl (Nat.le_of_ble_eq_true rfl) (by omega) (by omega) (fun E h' k' hq => by obtain ⟨rfl, r2, m1, hv, -⟩ := hq; cases hv) ?_
  intro v h' k' hq
  obtain ⟨rfl, r2, m1, hv, rfl, hw⟩ := hq
  cases hv
  show AW _ _ _ _ _ _ _ 4 [.ref 23, .int p1, .int p2, .null, .null] [.int r2] (lay t ex o m1) k _ _
  refine AW.if_eq (pc := 4) (tgt := 17) dX3_change_4 (by decide) (fun c3 => ?_) (fun c3 => ?_)
  · have hw := hw.1 c3
    exact AW.vret (pc := 17) dX3_change_17 rfl (by omega) (by omega) (hQ _ hw)
  · have hw := hw.2 c3
    refine AW.aload_n (pc := 7) dX3_change_7 rfl rfl ?_
    refine LW.get (pc := 8) (f := 1) (ci := 3) (T := TX3) ht (by decide) rfl dX3_change_8 tw_553 rfl (by decide) rfl ?_
    refine AW.iload_n (pc := 11) dX3_change_11 rfl rfl ?_
    obtain ⟨hin, hw⟩ := hw
    refine LW.iald (pc := 12) (j := p1.toNatClampNeg) ht (by decide) rfl dX3_change_12 hin rfl ?_
    refine AW.iload_n (pc := 13) dX3_change_13 rfl rfl ?_
    refine AW.icmp_ne (pc := 14) (tgt := 18) dX3_change_14 (by decide) (fun c4 => ?_) (fun c4 => ?_)
    · have hw := hw.1 c4
      refine AW.aload_n (pc := 18) dX3_change_18 rfl rfl ?_
      refine LW.get (pc := 19) (f := 1) (ci := 3) (T := TX3) ht (by decide) rfl dX3_change_19 tw_553 rfl (by decide) rfl ?_
      refine AW.iload_n (pc := 22) dX3_change_22 rfl rfl ?_
      obtain ⟨hin, hw⟩ := hw
      refine LW.iald (pc := 23) (j := p1.toNatClampNeg) ht (by decide) rfl dX3_change_23 hin rfl ?_
      refine AW.istore_n (L' := [.ref 23, .int p1, .int p2, .int (m1 24 (p1).toNatClampNeg), .null]) (pc := 24) dX3_change_24 rfl (by decide) rfl rfl ?_
      refine AW.aload_n (pc := 25) dX3_change_25 rfl rfl ?_
      refine LW.get (pc := 26) (f := 1) (ci := 3) (T := TX3) ht (by decide) rfl dX3_change_26 tw_553 rfl (by decide) rfl ?_
      refine AW.iload_n (pc := 29) dX3_change_29 rfl rfl ?_
      refine AW.iload_n (pc := 30) dX3_change_30 rfl rfl ?_
      obtain ⟨hin, hw⟩ := hw
      have hw := hw _ rfl
      refine LW.iast (pc := 31) (j := p1.toNatClampNeg) ht (by decide) (fun _ => rfl) dX3_change_31 hin rfl ?_
      generalize up2 m1 24 (p1.toNatClampNeg) p2 = m5 at hw ⊢
      refine AW.aload_n (pc := 32) dX3_change_32 rfl rfl ?_
      refine LW.get (pc := 33) (f := 2) (ci := 3) (T := TX3) ht (by decide) rfl dX3_change_33 tw_555 rfl (by decide) rfl ?_
      refine AW.iload_n (pc := 36) dX3_change_36 rfl rfl ?_
      refine AW.aload_n (pc := 37) dX3_change_37 rfl rfl ?_
      refine LW.get (pc := 38) (f := 13) (ci := 3) (T := TX3) ht (by decide) rfl dX3_change_38 tw_574 rfl (by decide) rfl ?_
      obtain ⟨hin, hw⟩ := hw
      have hw := hw _ rfl
      refine LW.iast (pc := 41) (j := p1.toNatClampNeg) ht (by decide) (fun _ => rfl) dX3_change_41 hin rfl ?_
      generalize up2 m5 25 (p1.toNatClampNeg) (m5 23 13) = m6 at hw ⊢
      refine AW.aload_n (pc := 42) dX3_change_42 rfl rfl ?_
      refine LW.get (pc := 43) (f := 3) (ci := 3) (T := TX3) ht (by decide) rfl dX3_change_43 tw_557 rfl (by decide) rfl ?_
      refine AW.iload_n (pc := 46) dX3_change_46 rfl rfl ?_
      refine AW.dup2 (pc := 47) dX3_change_47 rfl rfl ?_
      obtain ⟨hin, hw⟩ := hw
      refine LW.iald (pc := 48) (j := p1.toNatClampNeg) ht (by decide) rfl dX3_change_48 hin rfl ?_
      refine AW.iconst (v := 1) (pc := 49) dX3_change_49 (by decide) ?_
      refine AW.iadd (pc := 50) dX3_change_50 ?_
      obtain ⟨hin, hw⟩ := hw
      have hw := hw _ rfl
      refine LW.iast (pc := 51) (j := p1.toNatClampNeg) ht (by decide) (fun _ => rfl) dX3_change_51 hin rfl ?_
      generalize up2 m6 26 (p1.toNatClampNeg) ((m6 26 (p1).toNatClampNeg) + (1 : Int32)) = m7 at hw ⊢
      refine AW.aload_n (pc := 52) dX3_change_52 rfl rfl ?_
      refine AW.dup (pc := 53) dX3_change_53 rfl ?_
      refine LW.get (pc := 54) (f := 17) (ci := 3) (T := TX3) ht (by decide) rfl dX3_change_54 tw_581 rfl (by decide) rfl ?_
      refine AW.iconst (v := 1) (pc := 57) dX3_change_57 (by decide) ?_
      refine AW.iadd (pc := 58) dX3_change_58 ?_
      have hw := hw _ rfl
      refine LW.put (pc := 59) (f := 17) (ci := 3) (T := TX3) ht (by decide) rfl sp_23_17 dX3_change_59 tw_581 rfl (by decide) (Nat.le_of_ble_eq_true rfl) rfl ⟨rfl, rfl⟩ ?_
      generalize up2 m7 23 17 ((m7 23 17) + (1 : Int32)) = m8 at hw ⊢
      refine AW.iconst (v := 0) (pc := 62) dX3_change_62 (by decide) ?_
      refine AW.istore (L' := [.ref 23, .int p1, .int p2, .int (m1 24 (p1).toNatClampNeg), .int (0 : Int32)]) (pc := 63) dX3_change_63 (by decide) rfl rfl ?_
      refine l_R_change_23_65 ht hd (by omega) (by omega) hQ ?_ 31 p1 p2 (m1 24 (p1).toNatClampNeg) (0 : Int32) m8 hw
      intro y16 y17 y18 y19 m20 hw
      exact AW.vret (pc := 131) dX3_change_131 rfl (by omega) (by omega) (hQ _ hw)
    · have hw := hw.2 c4
      exact AW.vret (pc := 17) dX3_change_17 rfl (by omega) (by omega) (hQ _ hw)
set_option maxRecDepth 100000 in
set_option maxHeartbeats 4000000 in
theorem c_R_change_23 {d k t : Nat} {ex : Hp} {o : Nat → Int64} {K : Mem → Prop} {m : Mem} {p1 : Int32} {p2 : Int32} (ht : tok t) (hd : 5 ≤ d) (hw : w_R_change 23 p1 p2 m K) : AM mX3_change d [.ref 23, .int p1, .int p2] (lay t ex o m) k 0 0 (fun oc h' k' => k = k' ∧ ∃ (m' : Mem), oc = .inl none ∧ h' = lay t ex o m' ∧ K m') :=
  AM.intro (μ := mX3_change) (n := 2) (by decide) rfl rfl rfl (b_R_change_23 ht hd (by omega) (by omega) (fun _ hK => ⟨rfl, _, rfl, rfl, hK⟩) p1 p2 hw)
set_option maxRecDepth 100000 in
set_option maxHeartbeats 4000000 in
theorem l_R_change_35_65 {Z : Gz} {d k0 mc ms cs ss k t : Nat} {Q : Po} {ex : Hp} {o : Nat → Int64} {K : Mem → Prop}  (ht : tok t) (hd : 5 ≤ d) (hcs : cs ≤ mc) (hss : ss ≤ ms) (hQ : ∀ (m : Mem), K m → Q (.inl none) (lay t ex o m) k) {E131 : Int32 → Int32 → Int32 → Int32 → Mem → Prop} (hE131 : ∀ (x1 : Int32) (x2 : Int32) (x3 : Int32) (x4 : Int32) (m : Mem), E131 x1 x2 x3 x4 m → AW Z mX3_change d k0 mc ms Q 131 [.ref 35, .int x1, .int x2, .int x3, .int x4] [] (lay t ex o m) k cs ss) : ∀ (n : Nat) (x1 : Int32) (x2 : Int32) (x3 : Int32) (x4 : Int32) (m : Mem),  w_R_change_65 n 35 x1 x2 x3 x4 m E131 K → AW Z mX3_change d k0 mc ms Q 65 [.ref 35, .int x1, .int x2, .int x3, .int x4] [] (lay t ex o m) k cs ss := by
  intro n
  induction n with
  | zero =>
    intros; rename_i hw; exact absurd hw (by simp [w_R_change_65])
  | succ n ih =>
    intro x1 x2 x3 x4 m hw
    unfold w_R_change_65 at hw
    refine AW.iload (pc := 65) dX3_change_65 rfl ?_
    refine AW.aload_n (pc := 67) dX3_change_67 rfl rfl ?_
    refine LW.get (pc := 68) (f := 0) (ci := 3) (T := TX3) ht (by decide) rfl dX3_change_68 tw_552 rfl (by decide) rfl ?_
    refine LW.getN (pc := 71) (f := 11) (ci := 1) (T := TX1) ht (by decide) rfl dX3_change_71 tw_474 rfl (by decide) rfl ?_
    refine AW.icmp_ge (pc := 74) (tgt := 131) dX3_change_74 (by decide) (fun c9 => ?_) (fun c9 => ?_)
    · have hw := hw.1 c9
      exact hE131 x1 x2 x3 x4 m hw
    · have hw := hw.2 c9
      refine AW.aload_n (pc := 77) dX3_change_77 rfl rfl ?_
      refine LW.get (pc := 78) (f := 0) (ci := 3) (T := TX3) ht (by decide) rfl dX3_change_78 tw_552 rfl (by decide) rfl ?_
      refine AW.iload_n (pc := 81) dX3_change_81 rfl rfl ?_
      refine AW.iload (pc := 82) dX3_change_82 rfl ?_
      refine AW.callV (pc := 84) (S' := []) dX3_change_84 (c_C_isUsedBy (d := d - 1) ht (by omega) hw) ok_X1_isUsedBy tw_207 tw_208 tw_206 (fix_pos (by decide)) (lay_at ht (by decide)) (show aw_cl[1]? = some _ from rfl) rfl rfl (by omega) rfl (Nat.le_of_ble_eq_true rfl) (by omega) (by omega) ?_ (fun E h' k' hq => by obtain ⟨rfl, r11, m10, hv, -⟩ := hq; cases hv)
      intro v h' k' hq
      obtain ⟨rfl, r11, m10, hv, rfl, hw⟩ := hq
      cases hv
      show AW _ _ _ _ _ _ _ 87 [.ref 35, .int x1, .int x2, .int x3, .int x4] [.int r11] (lay t ex o m10) k _ _
      refine AW.if_ne (pc := 87) (tgt := 93) dX3_change_87 (by decide) (fun c12 => ?_) (fun c12 => ?_)
      · have hw := hw.1 c12
        refine AW.aload_n (pc := 93) dX3_change_93 rfl rfl ?_
        refine LW.get (pc := 94) (f := 0) (ci := 3) (T := TX3) ht (by decide) rfl dX3_change_94 tw_552 rfl (by decide) rfl ?_
        refine LW.getN (pc := 97) (f := 0) (ci := 1) (T := TX1) ht (by decide) rfl dX3_change_97 tw_444 rfl (by decide) rfl ?_
        refine AW.iload (pc := 100) dX3_change_100 rfl ?_
        obtain ⟨hin, hw⟩ := hw
        refine LW.iald (pc := 102) (j := x4.toNatClampNeg) ht (by decide) rfl dX3_change_102 hin rfl ?_
        refine AW.bipush (v := 9) (pc := 103) dX3_change_103 (by decide) ?_
        refine AW.icmp_ne (pc := 105) (tgt := 119) dX3_change_105 (by decide) (fun c13 => ?_) (fun c13 => ?_)
        · have hw := hw.1 c13
          refine AW.aload_n (pc := 119) dX3_change_119 rfl rfl ?_
          refine AW.iload (pc := 120) dX3_change_120 rfl ?_
          refine AW.callV (pc := 122) (S' := []) dX3_change_122 (c_R_askGate_35 (d := d - 1) ht (by omega) hw) ok_X3_askGate tw_236 ts_12 tw_234 (fix_pos (by decide)) (lay_at ht (by decide)) (show aw_cl[3]? = some _ from rfl) rfl rfl (by omega) rfl (Nat.le_of_ble_eq_true rfl) (by omega) (by omega) ?_ (fun E h' k' hq => by obtain ⟨rfl, m14, hv, -⟩ := hq; cases hv)
          intro v h' k' hq
          obtain ⟨rfl, m14, hv, rfl, hw⟩ := hq
          cases hv
          show AW _ _ _ _ _ _ _ 125 [.ref 35, .int x1, .int x2, .int x3, .int x4] [] (lay t ex o m14) k _ _
          refine AW.iinc (v := (x4 + 1)) (L' := [.ref 35, .int x1, .int x2, .int x3, .int (x4 + 1)]) (pc := 125) dX3_change_125 rfl rfl (by decide) rfl rfl ?_
          refine AW.goto (pc := 128) (tgt := 65) dX3_change_128 (by decide) ?_
          exact ih x1 x2 x3 (x4 + 1) m14 hw
        · have hw := hw.2 c13
          refine AW.aload_n (pc := 108) dX3_change_108 rfl rfl ?_
          refine AW.iload (pc := 109) dX3_change_109 rfl ?_
          refine AW.iload_n (pc := 111) dX3_change_111 rfl rfl ?_
          refine AW.iload_n (pc := 112) dX3_change_112 rfl rfl ?_
          refine AW.callV (pc := 113) (S' := []) dX3_change_113 (c_R_askRegister_35 (d := d - 1) ht (by omega) hw) ok_X3_askRegister tw_212 ts_6 tw_210 (fix_pos (by decide)) (lay_at ht (by decide)) (show aw_cl[3]? = some _ from rfl) rfl rfl (by omega) rfl (Nat.le_of_ble_eq_true rfl) (by omega) (by omega) ?_ (fun E h' k' hq => by obtain ⟨rfl, m15, hv, -⟩ := hq; cases hv)
          intro v h' k' hq
          obtain ⟨rfl, m15, hv, rfl, hw⟩ := hq
          cases hv
          show AW _ _ _ _ _ _ _ 116 [.ref 35, .int x1, .int x2, .int x3, .int x4] [] (lay t ex o m15) k _ _
          refine AW.goto (pc := 116) (tgt := 125) dX3_change_116 (by decide) ?_
          refine AW.iinc (v := (x4 + 1)) (L' := [.ref 35, .int x1, .int x2, .int x3, .int (x4 + 1)]) (pc := 125) dX3_change_125 rfl rfl (by decide) rfl rfl ?_
          refine AW.goto (pc := 128) (tgt := 65) dX3_change_128 (by decide) ?_
          exact ih x1 x2 x3 (x4 + 1) m15 hw
      · have hw := hw.2 c12
        refine AW.goto (pc := 90) (tgt := 125) dX3_change_90 (by decide) ?_
        refine AW.iinc (v := (x4 + 1)) (L' := [.ref 35, .int x1, .int x2, .int x3, .int (x4 + 1)]) (pc := 125) dX3_change_125 rfl rfl (by decide) rfl rfl ?_
        refine AW.goto (pc := 128) (tgt := 65) dX3_change_128 (by decide) ?_
        exact ih x1 x2 x3 (x4 + 1) m10 hw
set_option maxRecDepth 100000 in
set_option maxHeartbeats 4000000 in
theorem b_R_change_35 {Z : Gz} {d k0 mc ms cs ss k t : Nat} {Q : Po} {ex : Hp} {o : Nat → Int64} {K : Mem → Prop}  (ht : tok t) (hd : 5 ≤ d) (hcs : cs + 0 ≤ mc) (hss : ss + 0 ≤ ms) (hQ : ∀ (m : Mem), K m → Q (.inl none) (lay t ex o m) k) {m : Mem} (p1 : Int32) (p2 : Int32) (hw : w_R_change 35 p1 p2 m K) : AW Z mX3_change d k0 mc ms Q 0 [.ref 35, .int p1, .int p2, .null, .null] [] (lay t ex o m) k cs ss := by
  unfold w_R_change at hw
  refine AW.iload_n (pc := 0) dX3_change_0 rfl rfl ?_
  refine AW.callSN (pc := 1) (S' := []) dX3_change_1 (c_N_isWire (d := d - 1) ht (by omega) hw) ok_X4_isWire tw_25 tw_205 rfl (by omega) rfl (Nat.le_of_ble_eq_true rfl) (by omega) (by omega) (fun E h' k' hq => by obtain ⟨rfl, r2, m1, hv, -⟩ := hq; cases hv) ?_
  intro v h' k' hq
  obtain ⟨rfl, r2, m1, hv, rfl, hw⟩ := hq
  cases hv
  show AW _ _ _ _ _ _ _ 4 [.ref 35, .int p1, .int p2, .null, .null] [.int r2] (lay t ex o m1) k _ _
  refine AW.if_eq (pc := 4) (tgt := 17) dX3_change_4 (by decide) (fun c3 => ?_) (fun c3 => ?_)
  · have hw := hw.1 c3
    exact AW.vret (pc := 17) dX3_change_17 rfl (by omega) (by omega) (hQ _ hw)
  · have hw := hw.2 c3
    refine AW.aload_n (pc := 7) dX3_change_7 rfl rfl ?_
    refine LW.get (pc := 8) (f := 1) (ci := 3) (T := TX3) ht (by decide) rfl dX3_change_8 tw_553 rfl (by decide) rfl ?_
    refine AW.iload_n (pc := 11) dX3_change_11 rfl rfl ?_
    obtain ⟨hin, hw⟩ := hw
    refine LW.iald (pc := 12) (j := p1.toNatClampNeg) ht (by decide) rfl dX3_change_12 hin rfl ?_
    refine AW.iload_n (pc := 13) dX3_change_13 rfl rfl ?_
    refine AW.icmp_ne (pc := 14) (tgt := 18) dX3_change_14 (by decide) (fun c4 => ?_) (fun c4 => ?_)
    · have hw := hw.1 c4
      refine AW.aload_n (pc := 18) dX3_change_18 rfl rfl ?_
      refine LW.get (pc := 19) (f := 1) (ci := 3) (T := TX3) ht (by decide) rfl dX3_change_19 tw_553 rfl (by decide) rfl ?_
      refine AW.iload_n (pc := 22) dX3_change_22 rfl rfl ?_
      obtain ⟨hin, hw⟩ := hw
      refine LW.iald (pc := 23) (j := p1.toNatClampNeg) ht (by decide) rfl dX3_change_23 hin rfl ?_
      refine AW.istore_n (L' := [.ref 35, .int p1, .int p2, .int (m1 36 (p1).toNatClampNeg), .null]) (pc := 24) dX3_change_24 rfl (by decide) rfl rfl ?_
      refine AW.aload_n (pc := 25) dX3_change_25 rfl rfl ?_
      refine LW.get (pc := 26) (f := 1) (ci := 3) (T := TX3) ht (by decide) rfl dX3_change_26 tw_553 rfl (by decide) rfl ?_
      refine AW.iload_n (pc := 29) dX3_change_29 rfl rfl ?_
      refine AW.iload_n (pc := 30) dX3_change_30 rfl rfl ?_
      obtain ⟨hin, hw⟩ := hw
      have hw := hw _ rfl
      refine LW.iast (pc := 31) (j := p1.toNatClampNeg) ht (by decide) (fun _ => rfl) dX3_change_31 hin rfl ?_
      generalize up2 m1 36 (p1.toNatClampNeg) p2 = m5 at hw ⊢
      refine AW.aload_n (pc := 32) dX3_change_32 rfl rfl ?_
      refine LW.get (pc := 33) (f := 2) (ci := 3) (T := TX3) ht (by decide) rfl dX3_change_33 tw_555 rfl (by decide) rfl ?_
      refine AW.iload_n (pc := 36) dX3_change_36 rfl rfl ?_
      refine AW.aload_n (pc := 37) dX3_change_37 rfl rfl ?_
      refine LW.get (pc := 38) (f := 13) (ci := 3) (T := TX3) ht (by decide) rfl dX3_change_38 tw_574 rfl (by decide) rfl ?_
      obtain ⟨hin, hw⟩ := hw
      have hw := hw _ rfl
      refine LW.iast (pc := 41) (j := p1.toNatClampNeg) ht (by decide) (fun _ => rfl) dX3_change_41 hin rfl ?_
      generalize up2 m5 37 (p1.toNatClampNeg) (m5 35 13) = m6 at hw ⊢
      refine AW.aload_n (pc := 42) dX3_change_42 rfl rfl ?_
      refine LW.get (pc := 43) (f := 3) (ci := 3) (T := TX3) ht (by decide) rfl dX3_change_43 tw_557 rfl (by decide) rfl ?_
      refine AW.iload_n (pc := 46) dX3_change_46 rfl rfl ?_
      refine AW.dup2 (pc := 47) dX3_change_47 rfl rfl ?_
      obtain ⟨hin, hw⟩ := hw
      refine LW.iald (pc := 48) (j := p1.toNatClampNeg) ht (by decide) rfl dX3_change_48 hin rfl ?_
      refine AW.iconst (v := 1) (pc := 49) dX3_change_49 (by decide) ?_
      refine AW.iadd (pc := 50) dX3_change_50 ?_
      obtain ⟨hin, hw⟩ := hw
      have hw := hw _ rfl
      refine LW.iast (pc := 51) (j := p1.toNatClampNeg) ht (by decide) (fun _ => rfl) dX3_change_51 hin rfl ?_
      generalize up2 m6 38 (p1.toNatClampNeg) ((m6 38 (p1).toNatClampNeg) + (1 : Int32)) = m7 at hw ⊢
      refine AW.aload_n (pc := 52) dX3_change_52 rfl rfl ?_
      refine AW.dup (pc := 53) dX3_change_53 rfl ?_
      refine LW.get (pc := 54) (f := 17) (ci := 3) (T := TX3) ht (by decide) rfl dX3_change_54 tw_581 rfl (by decide) rfl ?_
      refine AW.iconst (v := 1) (pc := 57) dX3_change_57 (by decide) ?_
      refine AW.iadd (pc := 58) dX3_change_58 ?_
      have hw := hw _ rfl
      refine LW.put (pc := 59) (f := 17) (ci := 3) (T := TX3) ht (by decide) rfl sp_35_17 dX3_change_59 tw_581 rfl (by decide) (Nat.le_of_ble_eq_true rfl) rfl ⟨rfl, rfl⟩ ?_
      generalize up2 m7 35 17 ((m7 35 17) + (1 : Int32)) = m8 at hw ⊢
      refine AW.iconst (v := 0) (pc := 62) dX3_change_62 (by decide) ?_
      refine AW.istore (L' := [.ref 35, .int p1, .int p2, .int (m1 36 (p1).toNatClampNeg), .int (0 : Int32)]) (pc := 63) dX3_change_63 (by decide) rfl rfl ?_
      refine l_R_change_35_65 ht hd (by omega) (by omega) hQ ?_ 31 p1 p2 (m1 36 (p1).toNatClampNeg) (0 : Int32) m8 hw
      intro y16 y17 y18 y19 m20 hw
      exact AW.vret (pc := 131) dX3_change_131 rfl (by omega) (by omega) (hQ _ hw)
    · have hw := hw.2 c4
      exact AW.vret (pc := 17) dX3_change_17 rfl (by omega) (by omega) (hQ _ hw)
set_option maxRecDepth 100000 in
set_option maxHeartbeats 4000000 in
theorem c_R_change_35 {d k t : Nat} {ex : Hp} {o : Nat → Int64} {K : Mem → Prop} {m : Mem} {p1 : Int32} {p2 : Int32} (ht : tok t) (hd : 5 ≤ d) (hw : w_R_change 35 p1 p2 m K) : AM mX3_change d [.ref 35, .int p1, .int p2] (lay t ex o m) k 0 0 (fun oc h' k' => k = k' ∧ ∃ (m' : Mem), oc = .inl none ∧ h' = lay t ex o m' ∧ K m') :=
  AM.intro (μ := mX3_change) (n := 2) (by decide) rfl rfl rfl (b_R_change_35 ht hd (by omega) (by omega) (fun _ hK => ⟨rfl, _, rfl, rfl, hK⟩) p1 p2 hw)
def w_R_begin_6 : Nat → Nat → Int32 → Mem → (Int32 → Mem → Prop) → (Mem → Prop) → Prop
  | 0, _, _, _, _, _ => False
  | n + 1, r, x1, m, E51, K => (((m 2 11) ≤ x1 → E51 x1 m) ∧ (¬ ((m 2 11) ≤ x1) → vp_in x1 30 ∧ ((¬ ((m 3 (x1).toNatClampNeg) = (8 : Int32)) → w_R_begin_6 n r (x1 + 1) m E51 K) ∧ ((m 3 (x1).toNatClampNeg) = (8 : Int32) → vp_in x1 30 ∧ w_R_change r (m 4 (x1).toNatClampNeg) (0 : Int32) m (fun m4 => w_R_begin_6 n r (x1 + 1) m4 E51 K)))))
def w_R_begin (r : Nat) (m : Mem) (K : Mem → Prop) : Prop :=
  w_R_clear r  m (fun m1 => w_R_begin_6 31 r (0 : Int32) m1 (fun y5 m6 => K m6) K)
set_option maxRecDepth 100000 in
set_option maxHeartbeats 4000000 in
theorem l_R_begin_23_6 {Z : Gz} {d k0 mc ms cs ss k t : Nat} {Q : Po} {ex : Hp} {o : Nat → Int64} {K : Mem → Prop}  (ht : tok t) (hd : 6 ≤ d) (hcs : cs ≤ mc) (hss : ss ≤ ms) (hQ : ∀ (m : Mem), K m → Q (.inl none) (lay t ex o m) k) {E51 : Int32 → Mem → Prop} (hE51 : ∀ (x1 : Int32) (m : Mem), E51 x1 m → AW Z mX3_begin d k0 mc ms Q 51 [.ref 23, .int x1] [] (lay t ex o m) k cs ss) : ∀ (n : Nat) (x1 : Int32) (m : Mem),  w_R_begin_6 n 23 x1 m E51 K → AW Z mX3_begin d k0 mc ms Q 6 [.ref 23, .int x1] [] (lay t ex o m) k cs ss := by
  intro n
  induction n with
  | zero =>
    intros; rename_i hw; exact absurd hw (by simp [w_R_begin_6])
  | succ n ih =>
    intro x1 m hw
    unfold w_R_begin_6 at hw
    refine AW.iload_n (pc := 6) dX3_begin_6 rfl rfl ?_
    refine AW.aload_n (pc := 7) dX3_begin_7 rfl rfl ?_
    refine LW.get (pc := 8) (f := 0) (ci := 3) (T := TX3) ht (by decide) rfl dX3_begin_8 tw_552 rfl (by decide) rfl ?_
    refine LW.getN (pc := 11) (f := 11) (ci := 1) (T := TX1) ht (by decide) rfl dX3_begin_11 tw_474 rfl (by decide) rfl ?_
    refine AW.icmp_ge (pc := 14) (tgt := 51) dX3_begin_14 (by decide) (fun c2 => ?_) (fun c2 => ?_)
    · have hw := hw.1 c2
      exact hE51 x1 m hw
    · have hw := hw.2 c2
      refine AW.aload_n (pc := 17) dX3_begin_17 rfl rfl ?_
      refine LW.get (pc := 18) (f := 0) (ci := 3) (T := TX3) ht (by decide) rfl dX3_begin_18 tw_552 rfl (by decide) rfl ?_
      refine LW.getN (pc := 21) (f := 0) (ci := 1) (T := TX1) ht (by decide) rfl dX3_begin_21 tw_444 rfl (by decide) rfl ?_
      refine AW.iload_n (pc := 24) dX3_begin_24 rfl rfl ?_
      obtain ⟨hin, hw⟩ := hw
      refine LW.iald (pc := 25) (j := x1.toNatClampNeg) ht (by decide) rfl dX3_begin_25 hin rfl ?_
      refine AW.bipush (v := 8) (pc := 26) dX3_begin_26 (by decide) ?_
      refine AW.icmp_ne (pc := 28) (tgt := 45) dX3_begin_28 (by decide) (fun c3 => ?_) (fun c3 => ?_)
      · have hw := hw.1 c3
        refine AW.iinc (v := (x1 + 1)) (L' := [.ref 23, .int (x1 + 1)]) (pc := 45) dX3_begin_45 rfl rfl (by decide) rfl rfl ?_
        refine AW.goto (pc := 48) (tgt := 6) dX3_begin_48 (by decide) ?_
        exact ih (x1 + 1) m hw
      · have hw := hw.2 c3
        refine AW.aload_n (pc := 31) dX3_begin_31 rfl rfl ?_
        refine AW.aload_n (pc := 32) dX3_begin_32 rfl rfl ?_
        refine LW.get (pc := 33) (f := 0) (ci := 3) (T := TX3) ht (by decide) rfl dX3_begin_33 tw_552 rfl (by decide) rfl ?_
        refine LW.getN (pc := 36) (f := 1) (ci := 1) (T := TX1) ht (by decide) rfl dX3_begin_36 tw_448 rfl (by decide) rfl ?_
        refine AW.iload_n (pc := 39) dX3_begin_39 rfl rfl ?_
        obtain ⟨hin, hw⟩ := hw
        refine LW.iald (pc := 40) (j := x1.toNatClampNeg) ht (by decide) rfl dX3_begin_40 hin rfl ?_
        refine AW.iconst (v := 0) (pc := 41) dX3_begin_41 (by decide) ?_
        refine AW.callV (pc := 42) (S' := []) dX3_begin_42 (c_R_change_23 (d := d - 1) ht (by omega) hw) ok_X3_change tw_203 ts_5 tw_201 (fix_pos (by decide)) (lay_at ht (by decide)) (show aw_cl[3]? = some _ from rfl) rfl rfl (by omega) rfl (Nat.le_of_ble_eq_true rfl) (by omega) (by omega) ?_ (fun E h' k' hq => by obtain ⟨rfl, m4, hv, -⟩ := hq; cases hv)
        intro v h' k' hq
        obtain ⟨rfl, m4, hv, rfl, hw⟩ := hq
        cases hv
        show AW _ _ _ _ _ _ _ 45 [.ref 23, .int x1] [] (lay t ex o m4) k _ _
        refine AW.iinc (v := (x1 + 1)) (L' := [.ref 23, .int (x1 + 1)]) (pc := 45) dX3_begin_45 rfl rfl (by decide) rfl rfl ?_
        refine AW.goto (pc := 48) (tgt := 6) dX3_begin_48 (by decide) ?_
        exact ih (x1 + 1) m4 hw
set_option maxRecDepth 100000 in
set_option maxHeartbeats 4000000 in
theorem b_R_begin_23 {Z : Gz} {d k0 mc ms cs ss k t : Nat} {Q : Po} {ex : Hp} {o : Nat → Int64} {K : Mem → Prop}  (ht : tok t) (hd : 6 ≤ d) (hcs : cs + 0 ≤ mc) (hss : ss + 0 ≤ ms) (hQ : ∀ (m : Mem), K m → Q (.inl none) (lay t ex o m) k) {m : Mem}  (hw : w_R_begin 23  m K) : AW Z mX3_begin d k0 mc ms Q 0 [.ref 23, .null] [] (lay t ex o m) k cs ss := by
  unfold w_R_begin at hw
  refine AW.aload_n (pc := 0) dX3_begin_0 rfl rfl ?_
  refine AW.callV (pc := 1) (S' := []) dX3_begin_1 (c_R_clear_23 (d := d - 1) ht (by omega) hw) ok_X3_clear tw_550 ts_24 tw_548 (fix_pos (by decide)) (lay_at ht (by decide)) (show aw_cl[3]? = some _ from rfl) rfl rfl (by omega) rfl (Nat.le_of_ble_eq_true rfl) (by omega) (by omega) ?_ (fun E h' k' hq => by obtain ⟨rfl, m1, hv, -⟩ := hq; cases hv)
  intro v h' k' hq
  obtain ⟨rfl, m1, hv, rfl, hw⟩ := hq
  cases hv
  show AW _ _ _ _ _ _ _ 4 [.ref 23, .null] [] (lay t ex o m1) k _ _
  refine AW.iconst (v := 0) (pc := 4) dX3_begin_4 (by decide) ?_
  refine AW.istore_n (L' := [.ref 23, .int (0 : Int32)]) (pc := 5) dX3_begin_5 rfl (by decide) rfl rfl ?_
  refine l_R_begin_23_6 ht hd (by omega) (by omega) hQ ?_ 31 (0 : Int32) m1 hw
  intro y5 m6 hw
  exact AW.vret (pc := 51) dX3_begin_51 rfl (by omega) (by omega) (hQ _ hw)
set_option maxRecDepth 100000 in
set_option maxHeartbeats 4000000 in
theorem c_R_begin_23 {d k t : Nat} {ex : Hp} {o : Nat → Int64} {K : Mem → Prop} {m : Mem}  (ht : tok t) (hd : 6 ≤ d) (hw : w_R_begin 23  m K) : AM mX3_begin d [.ref 23] (lay t ex o m) k 0 0 (fun oc h' k' => k = k' ∧ ∃ (m' : Mem), oc = .inl none ∧ h' = lay t ex o m' ∧ K m') :=
  AM.intro (μ := mX3_begin) (n := 1) (by decide) rfl rfl rfl (b_R_begin_23 ht hd (by omega) (by omega) (fun _ hK => ⟨rfl, _, rfl, rfl, hK⟩)  hw)
set_option maxRecDepth 100000 in
set_option maxHeartbeats 4000000 in
theorem l_R_begin_35_6 {Z : Gz} {d k0 mc ms cs ss k t : Nat} {Q : Po} {ex : Hp} {o : Nat → Int64} {K : Mem → Prop}  (ht : tok t) (hd : 6 ≤ d) (hcs : cs ≤ mc) (hss : ss ≤ ms) (hQ : ∀ (m : Mem), K m → Q (.inl none) (lay t ex o m) k) {E51 : Int32 → Mem → Prop} (hE51 : ∀ (x1 : Int32) (m : Mem), E51 x1 m → AW Z mX3_begin d k0 mc ms Q 51 [.ref 35, .int x1] [] (lay t ex o m) k cs ss) : ∀ (n : Nat) (x1 : Int32) (m : Mem),  w_R_begin_6 n 35 x1 m E51 K → AW Z mX3_begin d k0 mc ms Q 6 [.ref 35, .int x1] [] (lay t ex o m) k cs ss := by
  intro n
  induction n with
  | zero =>
    intros; rename_i hw; exact absurd hw (by simp [w_R_begin_6])
  | succ n ih =>
    intro x1 m hw
    unfold w_R_begin_6 at hw
    refine AW.iload_n (pc := 6) dX3_begin_6 rfl rfl ?_
    refine AW.aload_n (pc := 7) dX3_begin_7 rfl rfl ?_
    refine LW.get (pc := 8) (f := 0) (ci := 3) (T := TX3) ht (by decide) rfl dX3_begin_8 tw_552 rfl (by decide) rfl ?_
    refine LW.getN (pc := 11) (f := 11) (ci := 1) (T := TX1) ht (by decide) rfl dX3_begin_11 tw_474 rfl (by decide) rfl ?_
    refine AW.icmp_ge (pc := 14) (tgt := 51) dX3_begin_14 (by decide) (fun c2 => ?_) (fun c2 => ?_)
    · have hw := hw.1 c2
      exact hE51 x1 m hw
    · have hw := hw.2 c2
      refine AW.aload_n (pc := 17) dX3_begin_17 rfl rfl ?_
      refine LW.get (pc := 18) (f := 0) (ci := 3) (T := TX3) ht (by decide) rfl dX3_begin_18 tw_552 rfl (by decide) rfl ?_
      refine LW.getN (pc := 21) (f := 0) (ci := 1) (T := TX1) ht (by decide) rfl dX3_begin_21 tw_444 rfl (by decide) rfl ?_
      refine AW.iload_n (pc := 24) dX3_begin_24 rfl rfl ?_
      obtain ⟨hin, hw⟩ := hw
      refine LW.iald (pc := 25) (j := x1.toNatClampNeg) ht (by decide) rfl dX3_begin_25 hin rfl ?_
      refine AW.bipush (v := 8) (pc := 26) dX3_begin_26 (by decide) ?_
      refine AW.icmp_ne (pc := 28) (tgt := 45) dX3_begin_28 (by decide) (fun c3 => ?_) (fun c3 => ?_)
      · have hw := hw.1 c3
        refine AW.iinc (v := (x1 + 1)) (L' := [.ref 35, .int (x1 + 1)]) (pc := 45) dX3_begin_45 rfl rfl (by decide) rfl rfl ?_
        refine AW.goto (pc := 48) (tgt := 6) dX3_begin_48 (by decide) ?_
        exact ih (x1 + 1) m hw
      · have hw := hw.2 c3
        refine AW.aload_n (pc := 31) dX3_begin_31 rfl rfl ?_
        refine AW.aload_n (pc := 32) dX3_begin_32 rfl rfl ?_
        refine LW.get (pc := 33) (f := 0) (ci := 3) (T := TX3) ht (by decide) rfl dX3_begin_33 tw_552 rfl (by decide) rfl ?_
        refine LW.getN (pc := 36) (f := 1) (ci := 1) (T := TX1) ht (by decide) rfl dX3_begin_36 tw_448 rfl (by decide) rfl ?_
        refine AW.iload_n (pc := 39) dX3_begin_39 rfl rfl ?_
        obtain ⟨hin, hw⟩ := hw
        refine LW.iald (pc := 40) (j := x1.toNatClampNeg) ht (by decide) rfl dX3_begin_40 hin rfl ?_
        refine AW.iconst (v := 0) (pc := 41) dX3_begin_41 (by decide) ?_
        refine AW.callV (pc := 42) (S' := []) dX3_begin_42 (c_R_change_35 (d := d - 1) ht (by omega) hw) ok_X3_change tw_203 ts_5 tw_201 (fix_pos (by decide)) (lay_at ht (by decide)) (show aw_cl[3]? = some _ from rfl) rfl rfl (by omega) rfl (Nat.le_of_ble_eq_true rfl) (by omega) (by omega) ?_ (fun E h' k' hq => by obtain ⟨rfl, m4, hv, -⟩ := hq; cases hv)
        intro v h' k' hq
        obtain ⟨rfl, m4, hv, rfl, hw⟩ := hq
        cases hv
        show AW _ _ _ _ _ _ _ 45 [.ref 35, .int x1] [] (lay t ex o m4) k _ _
        refine AW.iinc (v := (x1 + 1)) (L' := [.ref 35, .int (x1 + 1)]) (pc := 45) dX3_begin_45 rfl rfl (by decide) rfl rfl ?_
        refine AW.goto (pc := 48) (tgt := 6) dX3_begin_48 (by decide) ?_
        exact ih (x1 + 1) m4 hw
set_option maxRecDepth 100000 in
set_option maxHeartbeats 4000000 in
theorem b_R_begin_35 {Z : Gz} {d k0 mc ms cs ss k t : Nat} {Q : Po} {ex : Hp} {o : Nat → Int64} {K : Mem → Prop}  (ht : tok t) (hd : 6 ≤ d) (hcs : cs + 0 ≤ mc) (hss : ss + 0 ≤ ms) (hQ : ∀ (m : Mem), K m → Q (.inl none) (lay t ex o m) k) {m : Mem}  (hw : w_R_begin 35  m K) : AW Z mX3_begin d k0 mc ms Q 0 [.ref 35, .null] [] (lay t ex o m) k cs ss := by
  unfold w_R_begin at hw
  refine AW.aload_n (pc := 0) dX3_begin_0 rfl rfl ?_
  refine AW.callV (pc := 1) (S' := []) dX3_begin_1 (c_R_clear_35 (d := d - 1) ht (by omega) hw) ok_X3_clear tw_550 ts_24 tw_548 (fix_pos (by decide)) (lay_at ht (by decide)) (show aw_cl[3]? = some _ from rfl) rfl rfl (by omega) rfl (Nat.le_of_ble_eq_true rfl) (by omega) (by omega) ?_ (fun E h' k' hq => by obtain ⟨rfl, m1, hv, -⟩ := hq; cases hv)
  intro v h' k' hq
  obtain ⟨rfl, m1, hv, rfl, hw⟩ := hq
  cases hv
  show AW _ _ _ _ _ _ _ 4 [.ref 35, .null] [] (lay t ex o m1) k _ _
  refine AW.iconst (v := 0) (pc := 4) dX3_begin_4 (by decide) ?_
  refine AW.istore_n (L' := [.ref 35, .int (0 : Int32)]) (pc := 5) dX3_begin_5 rfl (by decide) rfl rfl ?_
  refine l_R_begin_35_6 ht hd (by omega) (by omega) hQ ?_ 31 (0 : Int32) m1 hw
  intro y5 m6 hw
  exact AW.vret (pc := 51) dX3_begin_51 rfl (by omega) (by omega) (hQ _ hw)
set_option maxRecDepth 100000 in
set_option maxHeartbeats 4000000 in
theorem c_R_begin_35 {d k t : Nat} {ex : Hp} {o : Nat → Int64} {K : Mem → Prop} {m : Mem}  (ht : tok t) (hd : 6 ≤ d) (hw : w_R_begin 35  m K) : AM mX3_begin d [.ref 35] (lay t ex o m) k 0 0 (fun oc h' k' => k = k' ∧ ∃ (m' : Mem), oc = .inl none ∧ h' = lay t ex o m' ∧ K m') :=
  AM.intro (μ := mX3_begin) (n := 1) (by decide) rfl rfl rfl (b_R_begin_35 ht hd (by omega) (by omega) (fun _ hK => ⟨rfl, _, rfl, rfl, hK⟩)  hw)
def w_R_letCome_14 : Nat → Nat → Int32 → Int32 → Int32 → Int32 → Mem → (Int32 → Int32 → Int32 → Int32 → Mem → Prop) → (Int32 → Mem → Prop) → Prop
  | 0, _, _, _, _, _, _, _, _ => False
  | n + 1, r, x1, x2, x3, x4, m, E79, K => (((300 : Int32) ≤ x4 → E79 x1 x2 x3 x4 m) ∧ (¬ ((300 : Int32) ≤ x4) → ((x3 = (-1 : Int32) → E79 x1 x2 x3 x4 m) ∧ (¬ (x3 = (-1 : Int32)) → vp_in x3 30 ∧ vp_in x3 30 ∧ ∀ m5 : Mem, m5 = up2 m r 13 (m (r + 6) (x3).toNatClampNeg) → vp_in x3 30 ∧ ∀ m6 : Mem, m6 = up2 m5 (r + 5) (x3.toNatClampNeg) (-1 : Int32) → vp_in x3 30 ∧ w_R_change r (m6 4 (x3).toNatClampNeg) (m (r + 5) (x3).toNatClampNeg) m6 (fun m7 => w_R_nextLine r x1 m7 (fun r9 m8 => w_R_letCome_14 n r x1 x2 r9 (x4 + 1) m8 E79 K))))))
def w_R_letCome (r : Nat) (p1 : Int32) (m : Mem) (K : Int32 → Mem → Prop) : Prop :=
  w_R_nextLine r p1 m (fun r2 m1 => w_R_letCome_14 301 r p1 (m r 17) r2 (0 : Int32) m1 (fun y10 y11 y12 y13 m14 => ((y12 = (-1 : Int32) → K ((m14 r 17) - y11) m14) ∧ (¬ (y12 = (-1 : Int32)) → ∀ m16 : Mem, m16 = up2 m14 r 16 ((m14 r 16) + (1 : Int32)) → w_R_giveUpAll r  m16 (fun m17 => K ((m17 r 17) - y11) m17)))) K)
set_option maxRecDepth 100000 in
set_option maxHeartbeats 4000000 in
theorem l_R_letCome_23_14 {Z : Gz} {d k0 mc ms cs ss k t : Nat} {Q : Po} {ex : Hp} {o : Nat → Int64} {K : Int32 → Mem → Prop}  (ht : tok t) (hd : 6 ≤ d) (hcs : cs ≤ mc) (hss : ss ≤ ms) (hQ : ∀ (r : Int32) (m : Mem), K r m → Q (.inl (some (.int r))) (lay t ex o m) k) {E79 : Int32 → Int32 → Int32 → Int32 → Mem → Prop} (hE79 : ∀ (x1 : Int32) (x2 : Int32) (x3 : Int32) (x4 : Int32) (m : Mem), E79 x1 x2 x3 x4 m → AW Z mX3_letCome d k0 mc ms Q 79 [.ref 23, .int x1, .int x2, .int x3, .int x4, .null] [] (lay t ex o m) k cs ss) : ∀ (n : Nat) (x1 : Int32) (x2 : Int32) (x3 : Int32) (x4 : Int32) (m : Mem),  w_R_letCome_14 n 23 x1 x2 x3 x4 m E79 K → AW Z mX3_letCome d k0 mc ms Q 14 [.ref 23, .int x1, .int x2, .int x3, .int x4, .null] [] (lay t ex o m) k cs ss := by
  intro n
  induction n with
  | zero =>
    intros; rename_i hw; exact absurd hw (by simp [w_R_letCome_14])
  | succ n ih =>
    intro x1 x2 x3 x4 m hw
    unfold w_R_letCome_14 at hw
    refine AW.iload (pc := 14) dX3_letCome_14 rfl ?_
    refine AW.sipush (v := 300) (pc := 16) dX3_letCome_16 (by decide) ?_
    refine AW.icmp_ge (pc := 19) (tgt := 79) dX3_letCome_19 (by decide) (fun c3 => ?_) (fun c3 => ?_)
    · have hw := hw.1 c3
      exact hE79 x1 x2 x3 x4 m hw
    · have hw := hw.2 c3
      refine AW.iload_n (pc := 22) dX3_letCome_22 rfl rfl ?_
      refine AW.iconst (v := -1) (pc := 23) dX3_letCome_23 (by decide) ?_
      refine AW.icmp_eq (pc := 24) (tgt := 79) dX3_letCome_24 (by decide) (fun c4 => ?_) (fun c4 => ?_)
      · have hw := hw.1 c4
        exact hE79 x1 x2 x3 x4 m hw
      · have hw := hw.2 c4
        refine AW.aload_n (pc := 27) dX3_letCome_27 rfl rfl ?_
        refine LW.get (pc := 28) (f := 5) (ci := 3) (T := TX3) ht (by decide) rfl dX3_letCome_28 tw_561 rfl (by decide) rfl ?_
        refine AW.iload_n (pc := 31) dX3_letCome_31 rfl rfl ?_
        obtain ⟨hin, hw⟩ := hw
        refine LW.iald (pc := 32) (j := x3.toNatClampNeg) ht (by decide) rfl dX3_letCome_32 hin rfl ?_
        refine AW.istore (L' := [.ref 23, .int x1, .int x2, .int x3, .int x4, .int (m 28 (x3).toNatClampNeg)]) (pc := 33) dX3_letCome_33 (by decide) rfl rfl ?_
        refine AW.aload_n (pc := 35) dX3_letCome_35 rfl rfl ?_
        refine AW.aload_n (pc := 36) dX3_letCome_36 rfl rfl ?_
        refine LW.get (pc := 37) (f := 6) (ci := 3) (T := TX3) ht (by decide) rfl dX3_letCome_37 tw_563 rfl (by decide) rfl ?_
        refine AW.iload_n (pc := 40) dX3_letCome_40 rfl rfl ?_
        obtain ⟨hin, hw⟩ := hw
        refine LW.iald (pc := 41) (j := x3.toNatClampNeg) ht (by decide) rfl dX3_letCome_41 hin rfl ?_
        have hw := hw _ rfl
        refine LW.put (pc := 42) (f := 13) (ci := 3) (T := TX3) ht (by decide) rfl sp_23_13 dX3_letCome_42 tw_574 rfl (by decide) (Nat.le_of_ble_eq_true rfl) rfl ⟨rfl, rfl⟩ ?_
        generalize up2 m 23 13 (m 29 (x3).toNatClampNeg) = m5 at hw ⊢
        refine AW.aload_n (pc := 45) dX3_letCome_45 rfl rfl ?_
        refine LW.get (pc := 46) (f := 5) (ci := 3) (T := TX3) ht (by decide) rfl dX3_letCome_46 tw_561 rfl (by decide) rfl ?_
        refine AW.iload_n (pc := 49) dX3_letCome_49 rfl rfl ?_
        refine AW.iconst (v := -1) (pc := 50) dX3_letCome_50 (by decide) ?_
        obtain ⟨hin, hw⟩ := hw
        have hw := hw _ rfl
        refine LW.iast (pc := 51) (j := x3.toNatClampNeg) ht (by decide) (fun _ => rfl) dX3_letCome_51 hin rfl ?_
        generalize up2 m5 28 (x3.toNatClampNeg) (-1 : Int32) = m6 at hw ⊢
        refine AW.aload_n (pc := 52) dX3_letCome_52 rfl rfl ?_
        refine AW.aload_n (pc := 53) dX3_letCome_53 rfl rfl ?_
        refine LW.get (pc := 54) (f := 0) (ci := 3) (T := TX3) ht (by decide) rfl dX3_letCome_54 tw_552 rfl (by decide) rfl ?_
        refine LW.getN (pc := 57) (f := 1) (ci := 1) (T := TX1) ht (by decide) rfl dX3_letCome_57 tw_448 rfl (by decide) rfl ?_
        refine AW.iload_n (pc := 60) dX3_letCome_60 rfl rfl ?_
        obtain ⟨hin, hw⟩ := hw
        refine LW.iald (pc := 61) (j := x3.toNatClampNeg) ht (by decide) rfl dX3_letCome_61 hin rfl ?_
        refine AW.iload (pc := 62) dX3_letCome_62 rfl ?_
        refine AW.callV (pc := 64) (S' := []) dX3_letCome_64 (c_R_change_23 (d := d - 1) ht (by omega) hw) ok_X3_change tw_203 ts_5 tw_201 (fix_pos (by decide)) (lay_at ht (by decide)) (show aw_cl[3]? = some _ from rfl) rfl rfl (by omega) rfl (Nat.le_of_ble_eq_true rfl) (by omega) (by omega) ?_ (fun E h' k' hq => by obtain ⟨rfl, m7, hv, -⟩ := hq; cases hv)
        intro v h' k' hq
        obtain ⟨rfl, m7, hv, rfl, hw⟩ := hq
        cases hv
        show AW _ _ _ _ _ _ _ 67 [.ref 23, .int x1, .int x2, .int x3, .int x4, .int (m 28 (x3).toNatClampNeg)] [] (lay t ex o m7) k _ _
        refine AW.aload_n (pc := 67) dX3_letCome_67 rfl rfl ?_
        refine AW.iload_n (pc := 68) dX3_letCome_68 rfl rfl ?_
        refine AW.callV (pc := 69) (S' := []) dX3_letCome_69 (c_R_nextLine_23 (d := d - 1) ht (by omega) hw) ok_X3_nextLine tw_267 ts_13 tw_265 (fix_pos (by decide)) (lay_at ht (by decide)) (show aw_cl[3]? = some _ from rfl) rfl rfl (by omega) rfl (Nat.le_of_ble_eq_true rfl) (by omega) (by omega) ?_ (fun E h' k' hq => by obtain ⟨rfl, r9, m8, hv, -⟩ := hq; cases hv)
        intro v h' k' hq
        obtain ⟨rfl, r9, m8, hv, rfl, hw⟩ := hq
        cases hv
        show AW _ _ _ _ _ _ _ 72 [.ref 23, .int x1, .int x2, .int x3, .int x4, .int (m 28 (x3).toNatClampNeg)] [.int r9] (lay t ex o m8) k _ _
        refine AW.istore_n (L' := [.ref 23, .int x1, .int x2, .int r9, .int x4, .int (m 28 (x3).toNatClampNeg)]) (pc := 72) dX3_letCome_72 rfl (by decide) rfl rfl ?_
        refine AW.iinc (v := (x4 + 1)) (L' := [.ref 23, .int x1, .int x2, .int r9, .int (x4 + 1), .int (m 28 (x3).toNatClampNeg)]) (pc := 73) dX3_letCome_73 rfl rfl (by decide) rfl rfl ?_
        refine AW.goto (pc := 76) (tgt := 14) dX3_letCome_76 (by decide) ?_
        refine AW.locals (L' := [.ref 23, .int x1, .int x2, .int r9, .int (x4 + 1), .null]) (aw_fewer_same (aw_fewer_same (aw_fewer_same (aw_fewer_same (aw_fewer_same (aw_fewer_null aw_fewer_nil)))))) ?_
        exact ih x1 x2 r9 (x4 + 1) m8 hw
set_option maxRecDepth 100000 in
set_option maxHeartbeats 4000000 in
theorem b_R_letCome_23 {Z : Gz} {d k0 mc ms cs ss k t : Nat} {Q : Po} {ex : Hp} {o : Nat → Int64} {K : Int32 → Mem → Prop}  (ht : tok t) (hd : 6 ≤ d) (hcs : cs + 0 ≤ mc) (hss : ss + 0 ≤ ms) (hQ : ∀ (r : Int32) (m : Mem), K r m → Q (.inl (some (.int r))) (lay t ex o m) k) {m : Mem} (p1 : Int32) (hw : w_R_letCome 23 p1 m K) : AW Z mX3_letCome d k0 mc ms Q 0 [.ref 23, .int p1, .null, .null, .null, .null] [] (lay t ex o m) k cs ss := by
  unfold w_R_letCome at hw
  refine AW.aload_n (pc := 0) dX3_letCome_0 rfl rfl ?_
  refine LW.get (pc := 1) (f := 17) (ci := 3) (T := TX3) ht (by decide) rfl dX3_letCome_1 tw_581 rfl (by decide) rfl ?_
  refine AW.istore_n (L' := [.ref 23, .int p1, .int (m 23 17), .null, .null, .null]) (pc := 4) dX3_letCome_4 rfl (by decide) rfl rfl ?_
  refine AW.aload_n (pc := 5) dX3_letCome_5 rfl rfl ?_
  refine AW.iload_n (pc := 6) dX3_letCome_6 rfl rfl ?_
  refine AW.callV (pc := 7) (S' := []) dX3_letCome_7 (c_R_nextLine_23 (d := d - 1) ht (by omega) hw) ok_X3_nextLine tw_267 ts_13 tw_265 (fix_pos (by decide)) (lay_at ht (by decide)) (show aw_cl[3]? = some _ from rfl) rfl rfl (by omega) rfl (Nat.le_of_ble_eq_true rfl) (by omega) (by omega) ?_ (fun E h' k' hq => by obtain ⟨rfl, r2, m1, hv, -⟩ := hq; cases hv)
  intro v h' k' hq
  obtain ⟨rfl, r2, m1, hv, rfl, hw⟩ := hq
  cases hv
  show AW _ _ _ _ _ _ _ 10 [.ref 23, .int p1, .int (m 23 17), .null, .null, .null] [.int r2] (lay t ex o m1) k _ _
  refine AW.istore_n (L' := [.ref 23, .int p1, .int (m 23 17), .int r2, .null, .null]) (pc := 10) dX3_letCome_10 rfl (by decide) rfl rfl ?_
  refine AW.iconst (v := 0) (pc := 11) dX3_letCome_11 (by decide) ?_
  refine AW.istore (L' := [.ref 23, .int p1, .int (m 23 17), .int r2, .int (0 : Int32), .null]) (pc := 12) dX3_letCome_12 (by decide) rfl rfl ?_
  refine l_R_letCome_23_14 ht hd (by omega) (by omega) hQ ?_ 301 p1 (m 23 17) r2 (0 : Int32) m1 hw
  intro y10 y11 y12 y13 m14 hw
  refine AW.iload_n (pc := 79) dX3_letCome_79 rfl rfl ?_
  refine AW.iconst (v := -1) (pc := 80) dX3_letCome_80 (by decide) ?_
  refine AW.icmp_eq (pc := 81) (tgt := 98) dX3_letCome_81 (by decide) (fun c15 => ?_) (fun c15 => ?_)
  · have hw := hw.1 c15
    refine AW.aload_n (pc := 98) dX3_letCome_98 rfl rfl ?_
    refine LW.get (pc := 99) (f := 17) (ci := 3) (T := TX3) ht (by decide) rfl dX3_letCome_99 tw_581 rfl (by decide) rfl ?_
    refine AW.iload_n (pc := 102) dX3_letCome_102 rfl rfl ?_
    refine AW.isub (pc := 103) dX3_letCome_103 ?_
    exact AW.iret (pc := 104) dX3_letCome_104 rfl rfl (by omega) (by omega) (hQ _ _ hw)
  · have hw := hw.2 c15
    refine AW.aload_n (pc := 84) dX3_letCome_84 rfl rfl ?_
    refine AW.dup (pc := 85) dX3_letCome_85 rfl ?_
    refine LW.get (pc := 86) (f := 16) (ci := 3) (T := TX3) ht (by decide) rfl dX3_letCome_86 tw_579 rfl (by decide) rfl ?_
    refine AW.iconst (v := 1) (pc := 89) dX3_letCome_89 (by decide) ?_
    refine AW.iadd (pc := 90) dX3_letCome_90 ?_
    have hw := hw _ rfl
    refine LW.put (pc := 91) (f := 16) (ci := 3) (T := TX3) ht (by decide) rfl sp_23_16 dX3_letCome_91 tw_579 rfl (by decide) (Nat.le_of_ble_eq_true rfl) rfl ⟨rfl, rfl⟩ ?_
    generalize up2 m14 23 16 ((m14 23 16) + (1 : Int32)) = m16 at hw ⊢
    refine AW.aload_n (pc := 94) dX3_letCome_94 rfl rfl ?_
    refine AW.callV (pc := 95) (S' := []) dX3_letCome_95 (c_R_giveUpAll_23 (d := d - 1) ht (by omega) hw) ok_X3_giveUpAll tw_275 ts_15 tw_273 (fix_pos (by decide)) (lay_at ht (by decide)) (show aw_cl[3]? = some _ from rfl) rfl rfl (by omega) rfl (Nat.le_of_ble_eq_true rfl) (by omega) (by omega) ?_ (fun E h' k' hq => by obtain ⟨rfl, m17, hv, -⟩ := hq; cases hv)
    intro v h' k' hq
    obtain ⟨rfl, m17, hv, rfl, hw⟩ := hq
    cases hv
    show AW _ _ _ _ _ _ _ 98 [.ref 23, .int y10, .int y11, .int y12, .int y13, .null] [] (lay t ex o m17) k _ _
    refine AW.aload_n (pc := 98) dX3_letCome_98 rfl rfl ?_
    refine LW.get (pc := 99) (f := 17) (ci := 3) (T := TX3) ht (by decide) rfl dX3_letCome_99 tw_581 rfl (by decide) rfl ?_
    refine AW.iload_n (pc := 102) dX3_letCome_102 rfl rfl ?_
    refine AW.isub (pc := 103) dX3_letCome_103 ?_
    exact AW.iret (pc := 104) dX3_letCome_104 rfl rfl (by omega) (by omega) (hQ _ _ hw)
set_option maxRecDepth 100000 in
set_option maxHeartbeats 4000000 in
theorem c_R_letCome_23 {d k t : Nat} {ex : Hp} {o : Nat → Int64} {K : Int32 → Mem → Prop} {m : Mem} {p1 : Int32} (ht : tok t) (hd : 6 ≤ d) (hw : w_R_letCome 23 p1 m K) : AM mX3_letCome d [.ref 23, .int p1] (lay t ex o m) k 0 0 (fun oc h' k' => k = k' ∧ ∃ (r : Int32) (m' : Mem), oc = .inl (some (.int r)) ∧ h' = lay t ex o m' ∧ K r m') :=
  AM.intro (μ := mX3_letCome) (n := 4) (by decide) rfl rfl rfl (b_R_letCome_23 ht hd (by omega) (by omega) (fun _ _ hK => ⟨rfl, _, _, rfl, rfl, hK⟩) p1 hw)
set_option maxRecDepth 100000 in
set_option maxHeartbeats 4000000 in
theorem l_R_letCome_35_14 {Z : Gz} {d k0 mc ms cs ss k t : Nat} {Q : Po} {ex : Hp} {o : Nat → Int64} {K : Int32 → Mem → Prop}  (ht : tok t) (hd : 6 ≤ d) (hcs : cs ≤ mc) (hss : ss ≤ ms) (hQ : ∀ (r : Int32) (m : Mem), K r m → Q (.inl (some (.int r))) (lay t ex o m) k) {E79 : Int32 → Int32 → Int32 → Int32 → Mem → Prop} (hE79 : ∀ (x1 : Int32) (x2 : Int32) (x3 : Int32) (x4 : Int32) (m : Mem), E79 x1 x2 x3 x4 m → AW Z mX3_letCome d k0 mc ms Q 79 [.ref 35, .int x1, .int x2, .int x3, .int x4, .null] [] (lay t ex o m) k cs ss) : ∀ (n : Nat) (x1 : Int32) (x2 : Int32) (x3 : Int32) (x4 : Int32) (m : Mem),  w_R_letCome_14 n 35 x1 x2 x3 x4 m E79 K → AW Z mX3_letCome d k0 mc ms Q 14 [.ref 35, .int x1, .int x2, .int x3, .int x4, .null] [] (lay t ex o m) k cs ss := by
  intro n
  induction n with
  | zero =>
    intros; rename_i hw; exact absurd hw (by simp [w_R_letCome_14])
  | succ n ih =>
    intro x1 x2 x3 x4 m hw
    unfold w_R_letCome_14 at hw
    refine AW.iload (pc := 14) dX3_letCome_14 rfl ?_
    refine AW.sipush (v := 300) (pc := 16) dX3_letCome_16 (by decide) ?_
    refine AW.icmp_ge (pc := 19) (tgt := 79) dX3_letCome_19 (by decide) (fun c3 => ?_) (fun c3 => ?_)
    · have hw := hw.1 c3
      exact hE79 x1 x2 x3 x4 m hw
    · have hw := hw.2 c3
      refine AW.iload_n (pc := 22) dX3_letCome_22 rfl rfl ?_
      refine AW.iconst (v := -1) (pc := 23) dX3_letCome_23 (by decide) ?_
      refine AW.icmp_eq (pc := 24) (tgt := 79) dX3_letCome_24 (by decide) (fun c4 => ?_) (fun c4 => ?_)
      · have hw := hw.1 c4
        exact hE79 x1 x2 x3 x4 m hw
      · have hw := hw.2 c4
        refine AW.aload_n (pc := 27) dX3_letCome_27 rfl rfl ?_
        refine LW.get (pc := 28) (f := 5) (ci := 3) (T := TX3) ht (by decide) rfl dX3_letCome_28 tw_561 rfl (by decide) rfl ?_
        refine AW.iload_n (pc := 31) dX3_letCome_31 rfl rfl ?_
        obtain ⟨hin, hw⟩ := hw
        refine LW.iald (pc := 32) (j := x3.toNatClampNeg) ht (by decide) rfl dX3_letCome_32 hin rfl ?_
        refine AW.istore (L' := [.ref 35, .int x1, .int x2, .int x3, .int x4, .int (m 40 (x3).toNatClampNeg)]) (pc := 33) dX3_letCome_33 (by decide) rfl rfl ?_
        refine AW.aload_n (pc := 35) dX3_letCome_35 rfl rfl ?_
        refine AW.aload_n (pc := 36) dX3_letCome_36 rfl rfl ?_
        refine LW.get (pc := 37) (f := 6) (ci := 3) (T := TX3) ht (by decide) rfl dX3_letCome_37 tw_563 rfl (by decide) rfl ?_
        refine AW.iload_n (pc := 40) dX3_letCome_40 rfl rfl ?_
        obtain ⟨hin, hw⟩ := hw
        refine LW.iald (pc := 41) (j := x3.toNatClampNeg) ht (by decide) rfl dX3_letCome_41 hin rfl ?_
        have hw := hw _ rfl
        refine LW.put (pc := 42) (f := 13) (ci := 3) (T := TX3) ht (by decide) rfl sp_35_13 dX3_letCome_42 tw_574 rfl (by decide) (Nat.le_of_ble_eq_true rfl) rfl ⟨rfl, rfl⟩ ?_
        generalize up2 m 35 13 (m 41 (x3).toNatClampNeg) = m5 at hw ⊢
        refine AW.aload_n (pc := 45) dX3_letCome_45 rfl rfl ?_
        refine LW.get (pc := 46) (f := 5) (ci := 3) (T := TX3) ht (by decide) rfl dX3_letCome_46 tw_561 rfl (by decide) rfl ?_
        refine AW.iload_n (pc := 49) dX3_letCome_49 rfl rfl ?_
        refine AW.iconst (v := -1) (pc := 50) dX3_letCome_50 (by decide) ?_
        obtain ⟨hin, hw⟩ := hw
        have hw := hw _ rfl
        refine LW.iast (pc := 51) (j := x3.toNatClampNeg) ht (by decide) (fun _ => rfl) dX3_letCome_51 hin rfl ?_
        generalize up2 m5 40 (x3.toNatClampNeg) (-1 : Int32) = m6 at hw ⊢
        refine AW.aload_n (pc := 52) dX3_letCome_52 rfl rfl ?_
        refine AW.aload_n (pc := 53) dX3_letCome_53 rfl rfl ?_
        refine LW.get (pc := 54) (f := 0) (ci := 3) (T := TX3) ht (by decide) rfl dX3_letCome_54 tw_552 rfl (by decide) rfl ?_
        refine LW.getN (pc := 57) (f := 1) (ci := 1) (T := TX1) ht (by decide) rfl dX3_letCome_57 tw_448 rfl (by decide) rfl ?_
        refine AW.iload_n (pc := 60) dX3_letCome_60 rfl rfl ?_
        obtain ⟨hin, hw⟩ := hw
        refine LW.iald (pc := 61) (j := x3.toNatClampNeg) ht (by decide) rfl dX3_letCome_61 hin rfl ?_
        refine AW.iload (pc := 62) dX3_letCome_62 rfl ?_
        refine AW.callV (pc := 64) (S' := []) dX3_letCome_64 (c_R_change_35 (d := d - 1) ht (by omega) hw) ok_X3_change tw_203 ts_5 tw_201 (fix_pos (by decide)) (lay_at ht (by decide)) (show aw_cl[3]? = some _ from rfl) rfl rfl (by omega) rfl (Nat.le_of_ble_eq_true rfl) (by omega) (by omega) ?_ (fun E h' k' hq => by obtain ⟨rfl, m7, hv, -⟩ := hq; cases hv)
        intro v h' k' hq
        obtain ⟨rfl, m7, hv, rfl, hw⟩ := hq
        cases hv
        show AW _ _ _ _ _ _ _ 67 [.ref 35, .int x1, .int x2, .int x3, .int x4, .int (m 40 (x3).toNatClampNeg)] [] (lay t ex o m7) k _ _
        refine AW.aload_n (pc := 67) dX3_letCome_67 rfl rfl ?_
        refine AW.iload_n (pc := 68) dX3_letCome_68 rfl rfl ?_
        refine AW.callV (pc := 69) (S' := []) dX3_letCome_69 (c_R_nextLine_35 (d := d - 1) ht (by omega) hw) ok_X3_nextLine tw_267 ts_13 tw_265 (fix_pos (by decide)) (lay_at ht (by decide)) (show aw_cl[3]? = some _ from rfl) rfl rfl (by omega) rfl (Nat.le_of_ble_eq_true rfl) (by omega) (by omega) ?_ (fun E h' k' hq => by obtain ⟨rfl, r9, m8, hv, -⟩ := hq; cases hv)
        intro v h' k' hq
        obtain ⟨rfl, r9, m8, hv, rfl, hw⟩ := hq
        cases hv
        show AW _ _ _ _ _ _ _ 72 [.ref 35, .int x1, .int x2, .int x3, .int x4, .int (m 40 (x3).toNatClampNeg)] [.int r9] (lay t ex o m8) k _ _
        refine AW.istore_n (L' := [.ref 35, .int x1, .int x2, .int r9, .int x4, .int (m 40 (x3).toNatClampNeg)]) (pc := 72) dX3_letCome_72 rfl (by decide) rfl rfl ?_
        refine AW.iinc (v := (x4 + 1)) (L' := [.ref 35, .int x1, .int x2, .int r9, .int (x4 + 1), .int (m 40 (x3).toNatClampNeg)]) (pc := 73) dX3_letCome_73 rfl rfl (by decide) rfl rfl ?_
        refine AW.goto (pc := 76) (tgt := 14) dX3_letCome_76 (by decide) ?_
        refine AW.locals (L' := [.ref 35, .int x1, .int x2, .int r9, .int (x4 + 1), .null]) (aw_fewer_same (aw_fewer_same (aw_fewer_same (aw_fewer_same (aw_fewer_same (aw_fewer_null aw_fewer_nil)))))) ?_
        exact ih x1 x2 r9 (x4 + 1) m8 hw
set_option maxRecDepth 100000 in
set_option maxHeartbeats 4000000 in
theorem b_R_letCome_35 {Z : Gz} {d k0 mc ms cs ss k t : Nat} {Q : Po} {ex : Hp} {o : Nat → Int64} {K : Int32 → Mem → Prop}  (ht : tok t) (hd : 6 ≤ d) (hcs : cs + 0 ≤ mc) (hss : ss + 0 ≤ ms) (hQ : ∀ (r : Int32) (m : Mem), K r m → Q (.inl (some (.int r))) (lay t ex o m) k) {m : Mem} (p1 : Int32) (hw : w_R_letCome 35 p1 m K) : AW Z mX3_letCome d k0 mc ms Q 0 [.ref 35, .int p1, .null, .null, .null, .null] [] (lay t ex o m) k cs ss := by
  unfold w_R_letCome at hw
  refine AW.aload_n (pc := 0) dX3_letCome_0 rfl rfl ?_
  refine LW.get (pc := 1) (f := 17) (ci := 3) (T := TX3) ht (by decide) rfl dX3_letCome_1 tw_581 rfl (by decide) rfl ?_
  refine AW.istore_n (L' := [.ref 35, .int p1, .int (m 35 17), .null, .null, .null]) (pc := 4) dX3_letCome_4 rfl (by decide) rfl rfl ?_
  refine AW.aload_n (pc := 5) dX3_letCome_5 rfl rfl ?_
  refine AW.iload_n (pc := 6) dX3_letCome_6 rfl rfl ?_
  refine AW.callV (pc := 7) (S' := []) dX3_letCome_7 (c_R_nextLine_35 (d := d - 1) ht (by omega) hw) ok_X3_nextLine tw_267 ts_13 tw_265 (fix_pos (by decide)) (lay_at ht (by decide)) (show aw_cl[3]? = some _ from rfl) rfl rfl (by omega) rfl (Nat.le_of_ble_eq_true rfl) (by omega) (by omega) ?_ (fun E h' k' hq => by obtain ⟨rfl, r2, m1, hv, -⟩ := hq; cases hv)
  intro v h' k' hq
  obtain ⟨rfl, r2, m1, hv, rfl, hw⟩ := hq
  cases hv
  show AW _ _ _ _ _ _ _ 10 [.ref 35, .int p1, .int (m 35 17), .null, .null, .null] [.int r2] (lay t ex o m1) k _ _
  refine AW.istore_n (L' := [.ref 35, .int p1, .int (m 35 17), .int r2, .null, .null]) (pc := 10) dX3_letCome_10 rfl (by decide) rfl rfl ?_
  refine AW.iconst (v := 0) (pc := 11) dX3_letCome_11 (by decide) ?_
  refine AW.istore (L' := [.ref 35, .int p1, .int (m 35 17), .int r2, .int (0 : Int32), .null]) (pc := 12) dX3_letCome_12 (by decide) rfl rfl ?_
  refine l_R_letCome_35_14 ht hd (by omega) (by omega) hQ ?_ 301 p1 (m 35 17) r2 (0 : Int32) m1 hw
  intro y10 y11 y12 y13 m14 hw
  refine AW.iload_n (pc := 79) dX3_letCome_79 rfl rfl ?_
  refine AW.iconst (v := -1) (pc := 80) dX3_letCome_80 (by decide) ?_
  refine AW.icmp_eq (pc := 81) (tgt := 98) dX3_letCome_81 (by decide) (fun c15 => ?_) (fun c15 => ?_)
  · have hw := hw.1 c15
    refine AW.aload_n (pc := 98) dX3_letCome_98 rfl rfl ?_
    refine LW.get (pc := 99) (f := 17) (ci := 3) (T := TX3) ht (by decide) rfl dX3_letCome_99 tw_581 rfl (by decide) rfl ?_
    refine AW.iload_n (pc := 102) dX3_letCome_102 rfl rfl ?_
    refine AW.isub (pc := 103) dX3_letCome_103 ?_
    exact AW.iret (pc := 104) dX3_letCome_104 rfl rfl (by omega) (by omega) (hQ _ _ hw)
  · have hw := hw.2 c15
    refine AW.aload_n (pc := 84) dX3_letCome_84 rfl rfl ?_
    refine AW.dup (pc := 85) dX3_letCome_85 rfl ?_
    refine LW.get (pc := 86) (f := 16) (ci := 3) (T := TX3) ht (by decide) rfl dX3_letCome_86 tw_579 rfl (by decide) rfl ?_
    refine AW.iconst (v := 1) (pc := 89) dX3_letCome_89 (by decide) ?_
    refine AW.iadd (pc := 90) dX3_letCome_90 ?_
    have hw := hw _ rfl
    refine LW.put (pc := 91) (f := 16) (ci := 3) (T := TX3) ht (by decide) rfl sp_35_16 dX3_letCome_91 tw_579 rfl (by decide) (Nat.le_of_ble_eq_true rfl) rfl ⟨rfl, rfl⟩ ?_
    generalize up2 m14 35 16 ((m14 35 16) + (1 : Int32)) = m16 at hw ⊢
    refine AW.aload_n (pc := 94) dX3_letCome_94 rfl rfl ?_
    refine AW.callV (pc := 95) (S' := []) dX3_letCome_95 (c_R_giveUpAll_35 (d := d - 1) ht (by omega) hw) ok_X3_giveUpAll tw_275 ts_15 tw_273 (fix_pos (by decide)) (lay_at ht (by decide)) (show aw_cl[3]? = some _ from rfl) rfl rfl (by omega) rfl (Nat.le_of_ble_eq_true rfl) (by omega) (by omega) ?_ (fun E h' k' hq => by obtain ⟨rfl, m17, hv, -⟩ := hq; cases hv)
    intro v h' k' hq
    obtain ⟨rfl, m17, hv, rfl, hw⟩ := hq
    cases hv
    show AW _ _ _ _ _ _ _ 98 [.ref 35, .int y10, .int y11, .int y12, .int y13, .null] [] (lay t ex o m17) k _ _
    refine AW.aload_n (pc := 98) dX3_letCome_98 rfl rfl ?_
    refine LW.get (pc := 99) (f := 17) (ci := 3) (T := TX3) ht (by decide) rfl dX3_letCome_99 tw_581 rfl (by decide) rfl ?_
    refine AW.iload_n (pc := 102) dX3_letCome_102 rfl rfl ?_
    refine AW.isub (pc := 103) dX3_letCome_103 ?_
    exact AW.iret (pc := 104) dX3_letCome_104 rfl rfl (by omega) (by omega) (hQ _ _ hw)
set_option maxRecDepth 100000 in
set_option maxHeartbeats 4000000 in
theorem c_R_letCome_35 {d k t : Nat} {ex : Hp} {o : Nat → Int64} {K : Int32 → Mem → Prop} {m : Mem} {p1 : Int32} (ht : tok t) (hd : 6 ≤ d) (hw : w_R_letCome 35 p1 m K) : AM mX3_letCome d [.ref 35, .int p1] (lay t ex o m) k 0 0 (fun oc h' k' => k = k' ∧ ∃ (r : Int32) (m' : Mem), oc = .inl (some (.int r)) ∧ h' = lay t ex o m' ∧ K r m') :=
  AM.intro (μ := mX3_letCome) (n := 4) (by decide) rfl rfl rfl (b_R_letCome_35 ht hd (by omega) (by omega) (fun _ _ hK => ⟨rfl, _, _, rfl, rfl, hK⟩) p1 hw)
def w_R_noteHazardsOfGates_2 : Nat → Nat → Int32 → Mem → (Int32 → Mem → Prop) → (Mem → Prop) → Prop
  | 0, _, _, _, _, _ => False
  | n + 1, r, x1, m, E126, K => (((24 : Int32) ≤ x1 → E126 x1 m) ∧ (¬ ((24 : Int32) ≤ x1) → w_C_firstLineOf x1 m (fun r3 m2 => ((r3 = (-1 : Int32) → w_R_noteHazardsOfGates_2 n r (x1 + 1) m2 E126 K) ∧ (¬ (r3 = (-1 : Int32)) → w_C_isGate r3 m2 (fun r6 m5 => ((r6 = 0 → w_R_noteHazardsOfGates_2 n r (x1 + 1) m5 E126 K) ∧ (¬ (r6 = 0) → vp_in x1 24 ∧ (((m5 (r + 4) (x1).toNatClampNeg) = (2 : Int32) → w_R_noteHazardsOfGates_2 n r (x1 + 1) m5 E126 K) ∧ (¬ ((m5 (r + 4) (x1).toNatClampNeg) = (2 : Int32)) → vp_in x1 24 ∧ ((¬ ((m5 (r + 1) (x1).toNatClampNeg) = (2 : Int32)) → vp_in x1 24 ∧ vp_in x1 24 ∧ (∀ J11 : Mem → Prop, (∀  (m10 : Mem), (vp_in x1 24 ∧ vp_in x1 24 ∧ (((m10 (r + 1) (x1).toNatClampNeg) = (m10 (r + 4) (x1).toNatClampNeg) → w_R_noteHazardsOfGates_2 n r (x1 + 1) m10 E126 K) ∧ (¬ ((m10 (r + 1) (x1).toNatClampNeg) = (m10 (r + 4) (x1).toNatClampNeg)) → vp_in x1 24 ∧ (((m10 (r + 3) (x1).toNatClampNeg) < (3 : Int32) → w_R_noteHazardsOfGates_2 n r (x1 + 1) m10 E126 K) ∧ (¬ ((m10 (r + 3) (x1).toNatClampNeg) < (3 : Int32)) → w_R_noteHazard r (2 : Int32) x1 m10 (fun m17 => w_R_noteHazardsOfGates_2 n r (x1 + 1) m17 E126 K)))))) → J11 m10) → ((¬ ((m5 (r + 1) (x1).toNatClampNeg) = (m5 (r + 4) (x1).toNatClampNeg)) → J11  m5) ∧ ((m5 (r + 1) (x1).toNatClampNeg) = (m5 (r + 4) (x1).toNatClampNeg) → vp_in x1 24 ∧ (((m5 (r + 3) (x1).toNatClampNeg) ≤ 0 → J11  m5) ∧ (¬ ((m5 (r + 3) (x1).toNatClampNeg) ≤ 0) → w_R_noteHazard r (1 : Int32) x1 m5 (fun m14 => w_R_noteHazardsOfGates_2 n r (x1 + 1) m14 E126 K))))))) ∧ ((m5 (r + 1) (x1).toNatClampNeg) = (2 : Int32) → w_R_noteHazardsOfGates_2 n r (x1 + 1) m5 E126 K))))))))))))
def w_R_noteHazardsOfGates (r : Nat) (m : Mem) (K : Mem → Prop) : Prop :=
  w_R_noteHazardsOfGates_2 25 r (0 : Int32) m (fun y18 m19 => K m19) K
set_option maxRecDepth 100000 in
set_option maxHeartbeats 4000000 in
theorem l_R_noteHazardsOfGates_23_2 {Z : Gz} {d k0 mc ms cs ss k t : Nat} {Q : Po} {ex : Hp} {o : Nat → Int64} {K : Mem → Prop}  (ht : tok t) (hd : 4 ≤ d) (hcs : cs ≤ mc) (hss : ss ≤ ms) (hQ : ∀ (m : Mem), K m → Q (.inl none) (lay t ex o m) k) {E126 : Int32 → Mem → Prop} (hE126 : ∀ (x1 : Int32) (m : Mem), E126 x1 m → AW Z mX3_noteHazardsOfGates d k0 mc ms Q 126 [.ref 23, .int x1, .null] [] (lay t ex o m) k cs ss) : ∀ (n : Nat) (x1 : Int32) (m : Mem),  w_R_noteHazardsOfGates_2 n 23 x1 m E126 K → AW Z mX3_noteHazardsOfGates d k0 mc ms Q 2 [.ref 23, .int x1, .null] [] (lay t ex o m) k cs ss := by
  intro n
  induction n with
  | zero =>
    intros; rename_i hw; exact absurd hw (by simp [w_R_noteHazardsOfGates_2])
  | succ n ih =>
    intro x1 m hw
    unfold w_R_noteHazardsOfGates_2 at hw
    refine AW.iload_n (pc := 2) dX3_noteHazardsOfGates_2 rfl rfl ?_
    refine AW.bipush (v := 24) (pc := 3) dX3_noteHazardsOfGates_3 (by decide) ?_
    refine AW.icmp_ge (pc := 5) (tgt := 126) dX3_noteHazardsOfGates_5 (by decide) (fun c1 => ?_) (fun c1 => ?_)
    · have hw := hw.1 c1
      exact hE126 x1 m hw
    · have hw := hw.2 c1
      refine AW.aload_n (pc := 8) dX3_noteHazardsOfGates_8 rfl rfl ?_
      refine LW.get (pc := 9) (f := 0) (ci := 3) (T := TX3) ht (by decide) rfl dX3_noteHazardsOfGates_9 tw_552 rfl (by decide) rfl ?_
      refine AW.iload_n (pc := 12) dX3_noteHazardsOfGates_12 rfl rfl ?_
      refine AW.callV (pc := 13) (S' := []) dX3_noteHazardsOfGates_13 (c_C_firstLineOf (d := d - 1) ht (by omega) hw) ok_X1_firstLineOf tw_121 tw_122 tw_291 (fix_pos (by decide)) (lay_at ht (by decide)) (show aw_cl[1]? = some _ from rfl) rfl rfl (by omega) rfl (Nat.le_of_ble_eq_true rfl) (by omega) (by omega) ?_ (fun E h' k' hq => by obtain ⟨rfl, r3, m2, hv, -⟩ := hq; cases hv)
      intro v h' k' hq
      obtain ⟨rfl, r3, m2, hv, rfl, hw⟩ := hq
      cases hv
      show AW _ _ _ _ _ _ _ 16 [.ref 23, .int x1, .null] [.int r3] (lay t ex o m2) k _ _
      refine AW.istore_n (L' := [.ref 23, .int x1, .int r3]) (pc := 16) dX3_noteHazardsOfGates_16 rfl (by decide) rfl rfl ?_
      refine AW.iload_n (pc := 17) dX3_noteHazardsOfGates_17 rfl rfl ?_
      refine AW.iconst (v := -1) (pc := 18) dX3_noteHazardsOfGates_18 (by decide) ?_
      refine AW.icmp_eq (pc := 19) (tgt := 120) dX3_noteHazardsOfGates_19 (by decide) (fun c4 => ?_) (fun c4 => ?_)
      · have hw := hw.1 c4
        refine AW.iinc (v := (x1 + 1)) (L' := [.ref 23, .int (x1 + 1), .int r3]) (pc := 120) dX3_noteHazardsOfGates_120 rfl rfl (by decide) rfl rfl ?_
        refine AW.goto (pc := 123) (tgt := 2) dX3_noteHazardsOfGates_123 (by decide) ?_
        refine AW.locals (L' := [.ref 23, .int (x1 + 1), .null]) (aw_fewer_same (aw_fewer_same (aw_fewer_null aw_fewer_nil))) ?_
        exact ih (x1 + 1) m2 hw
      · have hw := hw.2 c4
        refine AW.aload_n (pc := 22) dX3_noteHazardsOfGates_22 rfl rfl ?_
        refine LW.get (pc := 23) (f := 0) (ci := 3) (T := TX3) ht (by decide) rfl dX3_noteHazardsOfGates_23 tw_552 rfl (by decide) rfl ?_
        refine AW.iload_n (pc := 26) dX3_noteHazardsOfGates_26 rfl rfl ?_
        refine AW.callV (pc := 27) (S' := []) dX3_noteHazardsOfGates_27 (c_C_isGate (d := d - 1) ht (by omega) hw) ok_X1_isGate tw_126 tw_127 tw_292 (fix_pos (by decide)) (lay_at ht (by decide)) (show aw_cl[1]? = some _ from rfl) rfl rfl (by omega) rfl (Nat.le_of_ble_eq_true rfl) (by omega) (by omega) ?_ (fun E h' k' hq => by obtain ⟨rfl, r6, m5, hv, -⟩ := hq; cases hv)
        intro v h' k' hq
        obtain ⟨rfl, r6, m5, hv, rfl, hw⟩ := hq
        cases hv
        show AW _ _ _ _ _ _ _ 30 [.ref 23, .int x1, .int r3] [.int r6] (lay t ex o m5) k _ _
        refine AW.if_eq (pc := 30) (tgt := 120) dX3_noteHazardsOfGates_30 (by decide) (fun c7 => ?_) (fun c7 => ?_)
        · have hw := hw.1 c7
          refine AW.iinc (v := (x1 + 1)) (L' := [.ref 23, .int (x1 + 1), .int r3]) (pc := 120) dX3_noteHazardsOfGates_120 rfl rfl (by decide) rfl rfl ?_
          refine AW.goto (pc := 123) (tgt := 2) dX3_noteHazardsOfGates_123 (by decide) ?_
          refine AW.locals (L' := [.ref 23, .int (x1 + 1), .null]) (aw_fewer_same (aw_fewer_same (aw_fewer_null aw_fewer_nil))) ?_
          exact ih (x1 + 1) m5 hw
        · have hw := hw.2 c7
          refine AW.aload_n (pc := 33) dX3_noteHazardsOfGates_33 rfl rfl ?_
          refine LW.get (pc := 34) (f := 4) (ci := 3) (T := TX3) ht (by decide) rfl dX3_noteHazardsOfGates_34 tw_559 rfl (by decide) rfl ?_
          refine AW.iload_n (pc := 37) dX3_noteHazardsOfGates_37 rfl rfl ?_
          obtain ⟨hin, hw⟩ := hw
          refine LW.iald (pc := 38) (j := x1.toNatClampNeg) ht (by decide) rfl dX3_noteHazardsOfGates_38 hin rfl ?_
          refine AW.iconst (v := 2) (pc := 39) dX3_noteHazardsOfGates_39 (by decide) ?_
          refine AW.icmp_eq (pc := 40) (tgt := 120) dX3_noteHazardsOfGates_40 (by decide) (fun c8 => ?_) (fun c8 => ?_)
          · have hw := hw.1 c8
            refine AW.iinc (v := (x1 + 1)) (L' := [.ref 23, .int (x1 + 1), .int r3]) (pc := 120) dX3_noteHazardsOfGates_120 rfl rfl (by decide) rfl rfl ?_
            refine AW.goto (pc := 123) (tgt := 2) dX3_noteHazardsOfGates_123 (by decide) ?_
            refine AW.locals (L' := [.ref 23, .int (x1 + 1), .null]) (aw_fewer_same (aw_fewer_same (aw_fewer_null aw_fewer_nil))) ?_
            exact ih (x1 + 1) m5 hw
          · have hw := hw.2 c8
            refine AW.aload_n (pc := 43) dX3_noteHazardsOfGates_43 rfl rfl ?_
            refine LW.get (pc := 44) (f := 1) (ci := 3) (T := TX3) ht (by decide) rfl dX3_noteHazardsOfGates_44 tw_553 rfl (by decide) rfl ?_
            refine AW.iload_n (pc := 47) dX3_noteHazardsOfGates_47 rfl rfl ?_
            obtain ⟨hin, hw⟩ := hw
            refine LW.iald (pc := 48) (j := x1.toNatClampNeg) ht (by decide) rfl dX3_noteHazardsOfGates_48 hin rfl ?_
            refine AW.iconst (v := 2) (pc := 49) dX3_noteHazardsOfGates_49 (by decide) ?_
            refine AW.icmp_ne (pc := 50) (tgt := 56) dX3_noteHazardsOfGates_50 (by decide) (fun c9 => ?_) (fun c9 => ?_)
            · have hw := hw.1 c9
              refine AW.aload_n (pc := 56) dX3_noteHazardsOfGates_56 rfl rfl ?_
              refine LW.get (pc := 57) (f := 1) (ci := 3) (T := TX3) ht (by decide) rfl dX3_noteHazardsOfGates_57 tw_553 rfl (by decide) rfl ?_
              refine AW.iload_n (pc := 60) dX3_noteHazardsOfGates_60 rfl rfl ?_
              obtain ⟨hin, hw⟩ := hw
              refine LW.iald (pc := 61) (j := x1.toNatClampNeg) ht (by decide) rfl dX3_noteHazardsOfGates_61 hin rfl ?_
              refine AW.aload_n (pc := 62) dX3_noteHazardsOfGates_62 rfl rfl ?_
              refine LW.get (pc := 63) (f := 4) (ci := 3) (T := TX3) ht (by decide) rfl dX3_noteHazardsOfGates_63 tw_559 rfl (by decide) rfl ?_
              refine AW.iload_n (pc := 66) dX3_noteHazardsOfGates_66 rfl rfl ?_
              obtain ⟨hin, hw⟩ := hw
              refine LW.iald (pc := 67) (j := x1.toNatClampNeg) ht (by decide) rfl dX3_noteHazardsOfGates_67 hin rfl ?_
              have hw := hw (fun m10 => AW Z mX3_noteHazardsOfGates d k0 mc ms Q 89 [.ref 23, .int x1, .int r3] [] (lay t ex o m10) k (cs) (ss)) (by
                  intro m10 hw
                  refine AW.aload_n (pc := 89) dX3_noteHazardsOfGates_89 rfl rfl ?_
                  refine LW.get (pc := 90) (f := 1) (ci := 3) (T := TX3) ht (by decide) rfl dX3_noteHazardsOfGates_90 tw_553 rfl (by decide) rfl ?_
                  refine AW.iload_n (pc := 93) dX3_noteHazardsOfGates_93 rfl rfl ?_
                  obtain ⟨hin, hw⟩ := hw
                  refine LW.iald (pc := 94) (j := x1.toNatClampNeg) ht (by decide) rfl dX3_noteHazardsOfGates_94 hin rfl ?_
                  refine AW.aload_n (pc := 95) dX3_noteHazardsOfGates_95 rfl rfl ?_
                  refine LW.get (pc := 96) (f := 4) (ci := 3) (T := TX3) ht (by decide) rfl dX3_noteHazardsOfGates_96 tw_559 rfl (by decide) rfl ?_
                  refine AW.iload_n (pc := 99) dX3_noteHazardsOfGates_99 rfl rfl ?_
                  obtain ⟨hin, hw⟩ := hw
                  refine LW.iald (pc := 100) (j := x1.toNatClampNeg) ht (by decide) rfl dX3_noteHazardsOfGates_100 hin rfl ?_
                  refine AW.icmp_eq (pc := 101) (tgt := 120) dX3_noteHazardsOfGates_101 (by decide) (fun c15 => ?_) (fun c15 => ?_)
                  · have hw := hw.1 c15
                    refine AW.iinc (v := (x1 + 1)) (L' := [.ref 23, .int (x1 + 1), .int r3]) (pc := 120) dX3_noteHazardsOfGates_120 rfl rfl (by decide) rfl rfl ?_
                    refine AW.goto (pc := 123) (tgt := 2) dX3_noteHazardsOfGates_123 (by decide) ?_
                    refine AW.locals (L' := [.ref 23, .int (x1 + 1), .null]) (aw_fewer_same (aw_fewer_same (aw_fewer_null aw_fewer_nil))) ?_
                    exact ih (x1 + 1) m10 hw
                  · have hw := hw.2 c15
                    refine AW.aload_n (pc := 104) dX3_noteHazardsOfGates_104 rfl rfl ?_
                    refine LW.get (pc := 105) (f := 3) (ci := 3) (T := TX3) ht (by decide) rfl dX3_noteHazardsOfGates_105 tw_557 rfl (by decide) rfl ?_
                    refine AW.iload_n (pc := 108) dX3_noteHazardsOfGates_108 rfl rfl ?_
                    obtain ⟨hin, hw⟩ := hw
                    refine LW.iald (pc := 109) (j := x1.toNatClampNeg) ht (by decide) rfl dX3_noteHazardsOfGates_109 hin rfl ?_
                    refine AW.iconst (v := 3) (pc := 110) dX3_noteHazardsOfGates_110 (by decide) ?_
                    refine AW.icmp_lt (pc := 111) (tgt := 120) dX3_noteHazardsOfGates_111 (by decide) (fun c16 => ?_) (fun c16 => ?_)
                    · have hw := hw.1 c16
                      refine AW.iinc (v := (x1 + 1)) (L' := [.ref 23, .int (x1 + 1), .int r3]) (pc := 120) dX3_noteHazardsOfGates_120 rfl rfl (by decide) rfl rfl ?_
                      refine AW.goto (pc := 123) (tgt := 2) dX3_noteHazardsOfGates_123 (by decide) ?_
                      refine AW.locals (L' := [.ref 23, .int (x1 + 1), .null]) (aw_fewer_same (aw_fewer_same (aw_fewer_null aw_fewer_nil))) ?_
                      exact ih (x1 + 1) m10 hw
                    · have hw := hw.2 c16
                      refine AW.aload_n (pc := 114) dX3_noteHazardsOfGates_114 rfl rfl ?_
                      refine AW.iconst (v := 2) (pc := 115) dX3_noteHazardsOfGates_115 (by decide) ?_
                      refine AW.iload_n (pc := 116) dX3_noteHazardsOfGates_116 rfl rfl ?_
                      refine AW.callV (pc := 117) (S' := []) dX3_noteHazardsOfGates_117 (c_R_noteHazard_23 (d := d - 1) ht (by omega) hw) ok_X3_noteHazard tw_232 ts_11 tw_230 (fix_pos (by decide)) (lay_at ht (by decide)) (show aw_cl[3]? = some _ from rfl) rfl rfl (by omega) rfl (Nat.le_of_ble_eq_true rfl) (by omega) (by omega) ?_ (fun E h' k' hq => by obtain ⟨rfl, m17, hv, -⟩ := hq; cases hv)
                      intro v h' k' hq
                      obtain ⟨rfl, m17, hv, rfl, hw⟩ := hq
                      cases hv
                      show AW _ _ _ _ _ _ _ 120 [.ref 23, .int x1, .int r3] [] (lay t ex o m17) k _ _
                      refine AW.iinc (v := (x1 + 1)) (L' := [.ref 23, .int (x1 + 1), .int r3]) (pc := 120) dX3_noteHazardsOfGates_120 rfl rfl (by decide) rfl rfl ?_
                      refine AW.goto (pc := 123) (tgt := 2) dX3_noteHazardsOfGates_123 (by decide) ?_
                      refine AW.locals (L' := [.ref 23, .int (x1 + 1), .null]) (aw_fewer_same (aw_fewer_same (aw_fewer_null aw_fewer_nil))) ?_
                      exact ih (x1 + 1) m17 hw)
              refine AW.icmp_ne (pc := 68) (tgt := 89) dX3_noteHazardsOfGates_68 (by decide) (fun c12 => ?_) (fun c12 => ?_)
              · have hw := hw.1 c12
                exact hw
              · have hw := hw.2 c12
                refine AW.aload_n (pc := 71) dX3_noteHazardsOfGates_71 rfl rfl ?_
                refine LW.get (pc := 72) (f := 3) (ci := 3) (T := TX3) ht (by decide) rfl dX3_noteHazardsOfGates_72 tw_557 rfl (by decide) rfl ?_
                refine AW.iload_n (pc := 75) dX3_noteHazardsOfGates_75 rfl rfl ?_
                obtain ⟨hin, hw⟩ := hw
                refine LW.iald (pc := 76) (j := x1.toNatClampNeg) ht (by decide) rfl dX3_noteHazardsOfGates_76 hin rfl ?_
                refine AW.if_le (pc := 77) (tgt := 89) dX3_noteHazardsOfGates_77 (by decide) (fun c13 => ?_) (fun c13 => ?_)
                · have hw := hw.1 c13
                  exact hw
                · have hw := hw.2 c13
                  refine AW.aload_n (pc := 80) dX3_noteHazardsOfGates_80 rfl rfl ?_
                  refine AW.iconst (v := 1) (pc := 81) dX3_noteHazardsOfGates_81 (by decide) ?_
                  refine AW.iload_n (pc := 82) dX3_noteHazardsOfGates_82 rfl rfl ?_
                  refine AW.callV (pc := 83) (S' := []) dX3_noteHazardsOfGates_83 (c_R_noteHazard_23 (d := d - 1) ht (by omega) hw) ok_X3_noteHazard tw_232 ts_11 tw_230 (fix_pos (by decide)) (lay_at ht (by decide)) (show aw_cl[3]? = some _ from rfl) rfl rfl (by omega) rfl (Nat.le_of_ble_eq_true rfl) (by omega) (by omega) ?_ (fun E h' k' hq => by obtain ⟨rfl, m14, hv, -⟩ := hq; cases hv)
                  intro v h' k' hq
                  obtain ⟨rfl, m14, hv, rfl, hw⟩ := hq
                  cases hv
                  show AW _ _ _ _ _ _ _ 86 [.ref 23, .int x1, .int r3] [] (lay t ex o m14) k _ _
                  refine AW.goto (pc := 86) (tgt := 120) dX3_noteHazardsOfGates_86 (by decide) ?_
                  refine AW.iinc (v := (x1 + 1)) (L' := [.ref 23, .int (x1 + 1), .int r3]) (pc := 120) dX3_noteHazardsOfGates_120 rfl rfl (by decide) rfl rfl ?_
                  refine AW.goto (pc := 123) (tgt := 2) dX3_noteHazardsOfGates_123 (by decide) ?_
                  refine AW.locals (L' := [.ref 23, .int (x1 + 1), .null]) (aw_fewer_same (aw_fewer_same (aw_fewer_null aw_fewer_nil))) ?_
                  exact ih (x1 + 1) m14 hw
            · have hw := hw.2 c9
              refine AW.goto (pc := 53) (tgt := 120) dX3_noteHazardsOfGates_53 (by decide) ?_
              refine AW.iinc (v := (x1 + 1)) (L' := [.ref 23, .int (x1 + 1), .int r3]) (pc := 120) dX3_noteHazardsOfGates_120 rfl rfl (by decide) rfl rfl ?_
              refine AW.goto (pc := 123) (tgt := 2) dX3_noteHazardsOfGates_123 (by decide) ?_
              refine AW.locals (L' := [.ref 23, .int (x1 + 1), .null]) (aw_fewer_same (aw_fewer_same (aw_fewer_null aw_fewer_nil))) ?_
              exact ih (x1 + 1) m5 hw
set_option maxRecDepth 100000 in
set_option maxHeartbeats 4000000 in
theorem b_R_noteHazardsOfGates_23 {Z : Gz} {d k0 mc ms cs ss k t : Nat} {Q : Po} {ex : Hp} {o : Nat → Int64} {K : Mem → Prop}  (ht : tok t) (hd : 4 ≤ d) (hcs : cs + 0 ≤ mc) (hss : ss + 0 ≤ ms) (hQ : ∀ (m : Mem), K m → Q (.inl none) (lay t ex o m) k) {m : Mem}  (hw : w_R_noteHazardsOfGates 23  m K) : AW Z mX3_noteHazardsOfGates d k0 mc ms Q 0 [.ref 23, .null, .null] [] (lay t ex o m) k cs ss := by
  unfold w_R_noteHazardsOfGates at hw
  refine AW.iconst (v := 0) (pc := 0) dX3_noteHazardsOfGates_0 (by decide) ?_
  refine AW.istore_n (L' := [.ref 23, .int (0 : Int32), .null]) (pc := 1) dX3_noteHazardsOfGates_1 rfl (by decide) rfl rfl ?_
  refine l_R_noteHazardsOfGates_23_2 ht hd (by omega) (by omega) hQ ?_ 25 (0 : Int32) m hw
  intro y18 m19 hw
  exact AW.vret (pc := 126) dX3_noteHazardsOfGates_126 rfl (by omega) (by omega) (hQ _ hw)
set_option maxRecDepth 100000 in
set_option maxHeartbeats 4000000 in
theorem c_R_noteHazardsOfGates_23 {d k t : Nat} {ex : Hp} {o : Nat → Int64} {K : Mem → Prop} {m : Mem}  (ht : tok t) (hd : 4 ≤ d) (hw : w_R_noteHazardsOfGates 23  m K) : AM mX3_noteHazardsOfGates d [.ref 23] (lay t ex o m) k 0 0 (fun oc h' k' => k = k' ∧ ∃ (m' : Mem), oc = .inl none ∧ h' = lay t ex o m' ∧ K m') :=
  AM.intro (μ := mX3_noteHazardsOfGates) (n := 2) (by decide) rfl rfl rfl (b_R_noteHazardsOfGates_23 ht hd (by omega) (by omega) (fun _ hK => ⟨rfl, _, rfl, rfl, hK⟩)  hw)
set_option maxRecDepth 100000 in
set_option maxHeartbeats 4000000 in
theorem l_R_noteHazardsOfGates_35_2 {Z : Gz} {d k0 mc ms cs ss k t : Nat} {Q : Po} {ex : Hp} {o : Nat → Int64} {K : Mem → Prop}  (ht : tok t) (hd : 4 ≤ d) (hcs : cs ≤ mc) (hss : ss ≤ ms) (hQ : ∀ (m : Mem), K m → Q (.inl none) (lay t ex o m) k) {E126 : Int32 → Mem → Prop} (hE126 : ∀ (x1 : Int32) (m : Mem), E126 x1 m → AW Z mX3_noteHazardsOfGates d k0 mc ms Q 126 [.ref 35, .int x1, .null] [] (lay t ex o m) k cs ss) : ∀ (n : Nat) (x1 : Int32) (m : Mem),  w_R_noteHazardsOfGates_2 n 35 x1 m E126 K → AW Z mX3_noteHazardsOfGates d k0 mc ms Q 2 [.ref 35, .int x1, .null] [] (lay t ex o m) k cs ss := by
  intro n
  induction n with
  | zero =>
    intros; rename_i hw; exact absurd hw (by simp [w_R_noteHazardsOfGates_2])
  | succ n ih =>
    intro x1 m hw
    unfold w_R_noteHazardsOfGates_2 at hw
    refine AW.iload_n (pc := 2) dX3_noteHazardsOfGates_2 rfl rfl ?_
    refine AW.bipush (v := 24) (pc := 3) dX3_noteHazardsOfGates_3 (by decide) ?_
    refine AW.icmp_ge (pc := 5) (tgt := 126) dX3_noteHazardsOfGates_5 (by decide) (fun c1 => ?_) (fun c1 => ?_)
    · have hw := hw.1 c1
      exact hE126 x1 m hw
    · have hw := hw.2 c1
      refine AW.aload_n (pc := 8) dX3_noteHazardsOfGates_8 rfl rfl ?_
      refine LW.get (pc := 9) (f := 0) (ci := 3) (T := TX3) ht (by decide) rfl dX3_noteHazardsOfGates_9 tw_552 rfl (by decide) rfl ?_
      refine AW.iload_n (pc := 12) dX3_noteHazardsOfGates_12 rfl rfl ?_
      refine AW.callV (pc := 13) (S' := []) dX3_noteHazardsOfGates_13 (c_C_firstLineOf (d := d - 1) ht (by omega) hw) ok_X1_firstLineOf tw_121 tw_122 tw_291 (fix_pos (by decide)) (lay_at ht (by decide)) (show aw_cl[1]? = some _ from rfl) rfl rfl (by omega) rfl (Nat.le_of_ble_eq_true rfl) (by omega) (by omega) ?_ (fun E h' k' hq => by obtain ⟨rfl, r3, m2, hv, -⟩ := hq; cases hv)
      intro v h' k' hq
      obtain ⟨rfl, r3, m2, hv, rfl, hw⟩ := hq
      cases hv
      show AW _ _ _ _ _ _ _ 16 [.ref 35, .int x1, .null] [.int r3] (lay t ex o m2) k _ _
      refine AW.istore_n (L' := [.ref 35, .int x1, .int r3]) (pc := 16) dX3_noteHazardsOfGates_16 rfl (by decide) rfl rfl ?_
      refine AW.iload_n (pc := 17) dX3_noteHazardsOfGates_17 rfl rfl ?_
      refine AW.iconst (v := -1) (pc := 18) dX3_noteHazardsOfGates_18 (by decide) ?_
      refine AW.icmp_eq (pc := 19) (tgt := 120) dX3_noteHazardsOfGates_19 (by decide) (fun c4 => ?_) (fun c4 => ?_)
      · have hw := hw.1 c4
        refine AW.iinc (v := (x1 + 1)) (L' := [.ref 35, .int (x1 + 1), .int r3]) (pc := 120) dX3_noteHazardsOfGates_120 rfl rfl (by decide) rfl rfl ?_
        refine AW.goto (pc := 123) (tgt := 2) dX3_noteHazardsOfGates_123 (by decide) ?_
        refine AW.locals (L' := [.ref 35, .int (x1 + 1), .null]) (aw_fewer_same (aw_fewer_same (aw_fewer_null aw_fewer_nil))) ?_
        exact ih (x1 + 1) m2 hw
      · have hw := hw.2 c4
        refine AW.aload_n (pc := 22) dX3_noteHazardsOfGates_22 rfl rfl ?_
        refine LW.get (pc := 23) (f := 0) (ci := 3) (T := TX3) ht (by decide) rfl dX3_noteHazardsOfGates_23 tw_552 rfl (by decide) rfl ?_
        refine AW.iload_n (pc := 26) dX3_noteHazardsOfGates_26 rfl rfl ?_
        refine AW.callV (pc := 27) (S' := []) dX3_noteHazardsOfGates_27 (c_C_isGate (d := d - 1) ht (by omega) hw) ok_X1_isGate tw_126 tw_127 tw_292 (fix_pos (by decide)) (lay_at ht (by decide)) (show aw_cl[1]? = some _ from rfl) rfl rfl (by omega) rfl (Nat.le_of_ble_eq_true rfl) (by omega) (by omega) ?_ (fun E h' k' hq => by obtain ⟨rfl, r6, m5, hv, -⟩ := hq; cases hv)
        intro v h' k' hq
        obtain ⟨rfl, r6, m5, hv, rfl, hw⟩ := hq
        cases hv
        show AW _ _ _ _ _ _ _ 30 [.ref 35, .int x1, .int r3] [.int r6] (lay t ex o m5) k _ _
        refine AW.if_eq (pc := 30) (tgt := 120) dX3_noteHazardsOfGates_30 (by decide) (fun c7 => ?_) (fun c7 => ?_)
        · have hw := hw.1 c7
          refine AW.iinc (v := (x1 + 1)) (L' := [.ref 35, .int (x1 + 1), .int r3]) (pc := 120) dX3_noteHazardsOfGates_120 rfl rfl (by decide) rfl rfl ?_
          refine AW.goto (pc := 123) (tgt := 2) dX3_noteHazardsOfGates_123 (by decide) ?_
          refine AW.locals (L' := [.ref 35, .int (x1 + 1), .null]) (aw_fewer_same (aw_fewer_same (aw_fewer_null aw_fewer_nil))) ?_
          exact ih (x1 + 1) m5 hw
        · have hw := hw.2 c7
          refine AW.aload_n (pc := 33) dX3_noteHazardsOfGates_33 rfl rfl ?_
          refine LW.get (pc := 34) (f := 4) (ci := 3) (T := TX3) ht (by decide) rfl dX3_noteHazardsOfGates_34 tw_559 rfl (by decide) rfl ?_
          refine AW.iload_n (pc := 37) dX3_noteHazardsOfGates_37 rfl rfl ?_
          obtain ⟨hin, hw⟩ := hw
          refine LW.iald (pc := 38) (j := x1.toNatClampNeg) ht (by decide) rfl dX3_noteHazardsOfGates_38 hin rfl ?_
          refine AW.iconst (v := 2) (pc := 39) dX3_noteHazardsOfGates_39 (by decide) ?_
          refine AW.icmp_eq (pc := 40) (tgt := 120) dX3_noteHazardsOfGates_40 (by decide) (fun c8 => ?_) (fun c8 => ?_)
          · have hw := hw.1 c8
            refine AW.iinc (v := (x1 + 1)) (L' := [.ref 35, .int (x1 + 1), .int r3]) (pc := 120) dX3_noteHazardsOfGates_120 rfl rfl (by decide) rfl rfl ?_
            refine AW.goto (pc := 123) (tgt := 2) dX3_noteHazardsOfGates_123 (by decide) ?_
            refine AW.locals (L' := [.ref 35, .int (x1 + 1), .null]) (aw_fewer_same (aw_fewer_same (aw_fewer_null aw_fewer_nil))) ?_
            exact ih (x1 + 1) m5 hw
          · have hw := hw.2 c8
            refine AW.aload_n (pc := 43) dX3_noteHazardsOfGates_43 rfl rfl ?_
            refine LW.get (pc := 44) (f := 1) (ci := 3) (T := TX3) ht (by decide) rfl dX3_noteHazardsOfGates_44 tw_553 rfl (by decide) rfl ?_
            refine AW.iload_n (pc := 47) dX3_noteHazardsOfGates_47 rfl rfl ?_
            obtain ⟨hin, hw⟩ := hw
            refine LW.iald (pc := 48) (j := x1.toNatClampNeg) ht (by decide) rfl dX3_noteHazardsOfGates_48 hin rfl ?_
            refine AW.iconst (v := 2) (pc := 49) dX3_noteHazardsOfGates_49 (by decide) ?_
            refine AW.icmp_ne (pc := 50) (tgt := 56) dX3_noteHazardsOfGates_50 (by decide) (fun c9 => ?_) (fun c9 => ?_)
            · have hw := hw.1 c9
              refine AW.aload_n (pc := 56) dX3_noteHazardsOfGates_56 rfl rfl ?_
              refine LW.get (pc := 57) (f := 1) (ci := 3) (T := TX3) ht (by decide) rfl dX3_noteHazardsOfGates_57 tw_553 rfl (by decide) rfl ?_
              refine AW.iload_n (pc := 60) dX3_noteHazardsOfGates_60 rfl rfl ?_
              obtain ⟨hin, hw⟩ := hw
              refine LW.iald (pc := 61) (j := x1.toNatClampNeg) ht (by decide) rfl dX3_noteHazardsOfGates_61 hin rfl ?_
              refine AW.aload_n (pc := 62) dX3_noteHazardsOfGates_62 rfl rfl ?_
              refine LW.get (pc := 63) (f := 4) (ci := 3) (T := TX3) ht (by decide) rfl dX3_noteHazardsOfGates_63 tw_559 rfl (by decide) rfl ?_
              refine AW.iload_n (pc := 66) dX3_noteHazardsOfGates_66 rfl rfl ?_
              obtain ⟨hin, hw⟩ := hw
              refine LW.iald (pc := 67) (j := x1.toNatClampNeg) ht (by decide) rfl dX3_noteHazardsOfGates_67 hin rfl ?_
              have hw := hw (fun m10 => AW Z mX3_noteHazardsOfGates d k0 mc ms Q 89 [.ref 35, .int x1, .int r3] [] (lay t ex o m10) k (cs) (ss)) (by
                  intro m10 hw
                  refine AW.aload_n (pc := 89) dX3_noteHazardsOfGates_89 rfl rfl ?_
                  refine LW.get (pc := 90) (f := 1) (ci := 3) (T := TX3) ht (by decide) rfl dX3_noteHazardsOfGates_90 tw_553 rfl (by decide) rfl ?_
                  refine AW.iload_n (pc := 93) dX3_noteHazardsOfGates_93 rfl rfl ?_
                  obtain ⟨hin, hw⟩ := hw
                  refine LW.iald (pc := 94) (j := x1.toNatClampNeg) ht (by decide) rfl dX3_noteHazardsOfGates_94 hin rfl ?_
                  refine AW.aload_n (pc := 95) dX3_noteHazardsOfGates_95 rfl rfl ?_
                  refine LW.get (pc := 96) (f := 4) (ci := 3) (T := TX3) ht (by decide) rfl dX3_noteHazardsOfGates_96 tw_559 rfl (by decide) rfl ?_
                  refine AW.iload_n (pc := 99) dX3_noteHazardsOfGates_99 rfl rfl ?_
                  obtain ⟨hin, hw⟩ := hw
                  refine LW.iald (pc := 100) (j := x1.toNatClampNeg) ht (by decide) rfl dX3_noteHazardsOfGates_100 hin rfl ?_
                  refine AW.icmp_eq (pc := 101) (tgt := 120) dX3_noteHazardsOfGates_101 (by decide) (fun c15 => ?_) (fun c15 => ?_)
                  · have hw := hw.1 c15
                    refine AW.iinc (v := (x1 + 1)) (L' := [.ref 35, .int (x1 + 1), .int r3]) (pc := 120) dX3_noteHazardsOfGates_120 rfl rfl (by decide) rfl rfl ?_
                    refine AW.goto (pc := 123) (tgt := 2) dX3_noteHazardsOfGates_123 (by decide) ?_
                    refine AW.locals (L' := [.ref 35, .int (x1 + 1), .null]) (aw_fewer_same (aw_fewer_same (aw_fewer_null aw_fewer_nil))) ?_
                    exact ih (x1 + 1) m10 hw
                  · have hw := hw.2 c15
                    refine AW.aload_n (pc := 104) dX3_noteHazardsOfGates_104 rfl rfl ?_
                    refine LW.get (pc := 105) (f := 3) (ci := 3) (T := TX3) ht (by decide) rfl dX3_noteHazardsOfGates_105 tw_557 rfl (by decide) rfl ?_
                    refine AW.iload_n (pc := 108) dX3_noteHazardsOfGates_108 rfl rfl ?_
                    obtain ⟨hin, hw⟩ := hw
                    refine LW.iald (pc := 109) (j := x1.toNatClampNeg) ht (by decide) rfl dX3_noteHazardsOfGates_109 hin rfl ?_
                    refine AW.iconst (v := 3) (pc := 110) dX3_noteHazardsOfGates_110 (by decide) ?_
                    refine AW.icmp_lt (pc := 111) (tgt := 120) dX3_noteHazardsOfGates_111 (by decide) (fun c16 => ?_) (fun c16 => ?_)
                    · have hw := hw.1 c16
                      refine AW.iinc (v := (x1 + 1)) (L' := [.ref 35, .int (x1 + 1), .int r3]) (pc := 120) dX3_noteHazardsOfGates_120 rfl rfl (by decide) rfl rfl ?_
                      refine AW.goto (pc := 123) (tgt := 2) dX3_noteHazardsOfGates_123 (by decide) ?_
                      refine AW.locals (L' := [.ref 35, .int (x1 + 1), .null]) (aw_fewer_same (aw_fewer_same (aw_fewer_null aw_fewer_nil))) ?_
                      exact ih (x1 + 1) m10 hw
                    · have hw := hw.2 c16
                      refine AW.aload_n (pc := 114) dX3_noteHazardsOfGates_114 rfl rfl ?_
                      refine AW.iconst (v := 2) (pc := 115) dX3_noteHazardsOfGates_115 (by decide) ?_
                      refine AW.iload_n (pc := 116) dX3_noteHazardsOfGates_116 rfl rfl ?_
                      refine AW.callV (pc := 117) (S' := []) dX3_noteHazardsOfGates_117 (c_R_noteHazard_35 (d := d - 1) ht (by omega) hw) ok_X3_noteHazard tw_232 ts_11 tw_230 (fix_pos (by decide)) (lay_at ht (by decide)) (show aw_cl[3]? = some _ from rfl) rfl rfl (by omega) rfl (Nat.le_of_ble_eq_true rfl) (by omega) (by omega) ?_ (fun E h' k' hq => by obtain ⟨rfl, m17, hv, -⟩ := hq; cases hv)
                      intro v h' k' hq
                      obtain ⟨rfl, m17, hv, rfl, hw⟩ := hq
                      cases hv
                      show AW _ _ _ _ _ _ _ 120 [.ref 35, .int x1, .int r3] [] (lay t ex o m17) k _ _
                      refine AW.iinc (v := (x1 + 1)) (L' := [.ref 35, .int (x1 + 1), .int r3]) (pc := 120) dX3_noteHazardsOfGates_120 rfl rfl (by decide) rfl rfl ?_
                      refine AW.goto (pc := 123) (tgt := 2) dX3_noteHazardsOfGates_123 (by decide) ?_
                      refine AW.locals (L' := [.ref 35, .int (x1 + 1), .null]) (aw_fewer_same (aw_fewer_same (aw_fewer_null aw_fewer_nil))) ?_
                      exact ih (x1 + 1) m17 hw)
              refine AW.icmp_ne (pc := 68) (tgt := 89) dX3_noteHazardsOfGates_68 (by decide) (fun c12 => ?_) (fun c12 => ?_)
              · have hw := hw.1 c12
                exact hw
              · have hw := hw.2 c12
                refine AW.aload_n (pc := 71) dX3_noteHazardsOfGates_71 rfl rfl ?_
                refine LW.get (pc := 72) (f := 3) (ci := 3) (T := TX3) ht (by decide) rfl dX3_noteHazardsOfGates_72 tw_557 rfl (by decide) rfl ?_
                refine AW.iload_n (pc := 75) dX3_noteHazardsOfGates_75 rfl rfl ?_
                obtain ⟨hin, hw⟩ := hw
                refine LW.iald (pc := 76) (j := x1.toNatClampNeg) ht (by decide) rfl dX3_noteHazardsOfGates_76 hin rfl ?_
                refine AW.if_le (pc := 77) (tgt := 89) dX3_noteHazardsOfGates_77 (by decide) (fun c13 => ?_) (fun c13 => ?_)
                · have hw := hw.1 c13
                  exact hw
                · have hw := hw.2 c13
                  refine AW.aload_n (pc := 80) dX3_noteHazardsOfGates_80 rfl rfl ?_
                  refine AW.iconst (v := 1) (pc := 81) dX3_noteHazardsOfGates_81 (by decide) ?_
                  refine AW.iload_n (pc := 82) dX3_noteHazardsOfGates_82 rfl rfl ?_
                  refine AW.callV (pc := 83) (S' := []) dX3_noteHazardsOfGates_83 (c_R_noteHazard_35 (d := d - 1) ht (by omega) hw) ok_X3_noteHazard tw_232 ts_11 tw_230 (fix_pos (by decide)) (lay_at ht (by decide)) (show aw_cl[3]? = some _ from rfl) rfl rfl (by omega) rfl (Nat.le_of_ble_eq_true rfl) (by omega) (by omega) ?_ (fun E h' k' hq => by obtain ⟨rfl, m14, hv, -⟩ := hq; cases hv)
                  intro v h' k' hq
                  obtain ⟨rfl, m14, hv, rfl, hw⟩ := hq
                  cases hv
                  show AW _ _ _ _ _ _ _ 86 [.ref 35, .int x1, .int r3] [] (lay t ex o m14) k _ _
                  refine AW.goto (pc := 86) (tgt := 120) dX3_noteHazardsOfGates_86 (by decide) ?_
                  refine AW.iinc (v := (x1 + 1)) (L' := [.ref 35, .int (x1 + 1), .int r3]) (pc := 120) dX3_noteHazardsOfGates_120 rfl rfl (by decide) rfl rfl ?_
                  refine AW.goto (pc := 123) (tgt := 2) dX3_noteHazardsOfGates_123 (by decide) ?_
                  refine AW.locals (L' := [.ref 35, .int (x1 + 1), .null]) (aw_fewer_same (aw_fewer_same (aw_fewer_null aw_fewer_nil))) ?_
                  exact ih (x1 + 1) m14 hw
            · have hw := hw.2 c9
              refine AW.goto (pc := 53) (tgt := 120) dX3_noteHazardsOfGates_53 (by decide) ?_
              refine AW.iinc (v := (x1 + 1)) (L' := [.ref 35, .int (x1 + 1), .int r3]) (pc := 120) dX3_noteHazardsOfGates_120 rfl rfl (by decide) rfl rfl ?_
              refine AW.goto (pc := 123) (tgt := 2) dX3_noteHazardsOfGates_123 (by decide) ?_
              refine AW.locals (L' := [.ref 35, .int (x1 + 1), .null]) (aw_fewer_same (aw_fewer_same (aw_fewer_null aw_fewer_nil))) ?_
              exact ih (x1 + 1) m5 hw
set_option maxRecDepth 100000 in
set_option maxHeartbeats 4000000 in
theorem b_R_noteHazardsOfGates_35 {Z : Gz} {d k0 mc ms cs ss k t : Nat} {Q : Po} {ex : Hp} {o : Nat → Int64} {K : Mem → Prop}  (ht : tok t) (hd : 4 ≤ d) (hcs : cs + 0 ≤ mc) (hss : ss + 0 ≤ ms) (hQ : ∀ (m : Mem), K m → Q (.inl none) (lay t ex o m) k) {m : Mem}  (hw : w_R_noteHazardsOfGates 35  m K) : AW Z mX3_noteHazardsOfGates d k0 mc ms Q 0 [.ref 35, .null, .null] [] (lay t ex o m) k cs ss := by
  unfold w_R_noteHazardsOfGates at hw
  refine AW.iconst (v := 0) (pc := 0) dX3_noteHazardsOfGates_0 (by decide) ?_
  refine AW.istore_n (L' := [.ref 35, .int (0 : Int32), .null]) (pc := 1) dX3_noteHazardsOfGates_1 rfl (by decide) rfl rfl ?_
  refine l_R_noteHazardsOfGates_35_2 ht hd (by omega) (by omega) hQ ?_ 25 (0 : Int32) m hw
  intro y18 m19 hw
  exact AW.vret (pc := 126) dX3_noteHazardsOfGates_126 rfl (by omega) (by omega) (hQ _ hw)
set_option maxRecDepth 100000 in
set_option maxHeartbeats 4000000 in
theorem c_R_noteHazardsOfGates_35 {d k t : Nat} {ex : Hp} {o : Nat → Int64} {K : Mem → Prop} {m : Mem}  (ht : tok t) (hd : 4 ≤ d) (hw : w_R_noteHazardsOfGates 35  m K) : AM mX3_noteHazardsOfGates d [.ref 35] (lay t ex o m) k 0 0 (fun oc h' k' => k = k' ∧ ∃ (m' : Mem), oc = .inl none ∧ h' = lay t ex o m' ∧ K m') :=
  AM.intro (μ := mX3_noteHazardsOfGates) (n := 2) (by decide) rfl rfl rfl (b_R_noteHazardsOfGates_35 ht hd (by omega) (by omega) (fun _ hK => ⟨rfl, _, rfl, rfl, hK⟩)  hw)
def w_R_comeToRest (r : Nat) (m : Mem) (K : Int32 → Mem → Prop) : Prop :=
  w_R_letCome r (2147483647 : Int32) m (fun r2 m1 => w_R_noteHazardsOfGates r  m1 (fun m3 => w_R_beginCounting r  m3 (fun m4 => K r2 m4)))
set_option maxRecDepth 100000 in
set_option maxHeartbeats 4000000 in
theorem b_R_comeToRest_23 {Z : Gz} {d k0 mc ms cs ss k t : Nat} {Q : Po} {ex : Hp} {o : Nat → Int64} {K : Int32 → Mem → Prop}  (ht : tok t) (hd : 7 ≤ d) (hcs : cs + 0 ≤ mc) (hss : ss + 0 ≤ ms) (hQ : ∀ (r : Int32) (m : Mem), K r m → Q (.inl (some (.int r))) (lay t ex o m) k) {m : Mem}  (hw : w_R_comeToRest 23  m K) : AW Z mX3_comeToRest d k0 mc ms Q 0 [.ref 23, .null] [] (lay t ex o m) k cs ss := by
  unfold w_R_comeToRest at hw
  refine AW.aload_n (pc := 0) dX3_comeToRest_0 rfl rfl ?_
  refine AW.ldc (pc := 1) dX3_comeToRest_1 tw_285 ?_
  refine AW.callV (pc := 3) (S' := []) dX3_comeToRest_3 (c_R_letCome_23 (d := d - 1) ht (by omega) hw) ok_X3_letCome tw_262 tw_263 tw_286 (fix_pos (by decide)) (lay_at ht (by decide)) (show aw_cl[3]? = some _ from rfl) rfl rfl (by omega) rfl (Nat.le_of_ble_eq_true rfl) (by omega) (by omega) ?_ (fun E h' k' hq => by obtain ⟨rfl, r2, m1, hv, -⟩ := hq; cases hv)
  intro v h' k' hq
  obtain ⟨rfl, r2, m1, hv, rfl, hw⟩ := hq
  cases hv
  show AW _ _ _ _ _ _ _ 6 [.ref 23, .null] [.int r2] (lay t ex o m1) k _ _
  refine AW.istore_n (L' := [.ref 23, .int r2]) (pc := 6) dX3_comeToRest_6 rfl (by decide) rfl rfl ?_
  refine AW.aload_n (pc := 7) dX3_comeToRest_7 rfl rfl ?_
  refine AW.callV (pc := 8) (S' := []) dX3_comeToRest_8 (c_R_noteHazardsOfGates_23 (d := d - 1) ht (by omega) hw) ok_X3_noteHazardsOfGates tw_289 ts_16 tw_287 (fix_pos (by decide)) (lay_at ht (by decide)) (show aw_cl[3]? = some _ from rfl) rfl rfl (by omega) rfl (Nat.le_of_ble_eq_true rfl) (by omega) (by omega) ?_ (fun E h' k' hq => by obtain ⟨rfl, m3, hv, -⟩ := hq; cases hv)
  intro v h' k' hq
  obtain ⟨rfl, m3, hv, rfl, hw⟩ := hq
  cases hv
  show AW _ _ _ _ _ _ _ 11 [.ref 23, .int r2] [] (lay t ex o m3) k _ _
  refine AW.aload_n (pc := 11) dX3_comeToRest_11 rfl rfl ?_
  refine AW.callV (pc := 12) (S' := []) dX3_comeToRest_12 (c_R_beginCounting_23 (d := d - 1) ht (by omega) hw) ok_X3_beginCounting tw_192 ts_4 tw_190 (fix_pos (by decide)) (lay_at ht (by decide)) (show aw_cl[3]? = some _ from rfl) rfl rfl (by omega) rfl (Nat.le_of_ble_eq_true rfl) (by omega) (by omega) ?_ (fun E h' k' hq => by obtain ⟨rfl, m4, hv, -⟩ := hq; cases hv)
  intro v h' k' hq
  obtain ⟨rfl, m4, hv, rfl, hw⟩ := hq
  cases hv
  show AW _ _ _ _ _ _ _ 15 [.ref 23, .int r2] [] (lay t ex o m4) k _ _
  refine AW.iload_n (pc := 15) dX3_comeToRest_15 rfl rfl ?_
  exact AW.iret (pc := 16) dX3_comeToRest_16 rfl rfl (by omega) (by omega) (hQ _ _ hw)
set_option maxRecDepth 100000 in
set_option maxHeartbeats 4000000 in
theorem c_R_comeToRest_23 {d k t : Nat} {ex : Hp} {o : Nat → Int64} {K : Int32 → Mem → Prop} {m : Mem}  (ht : tok t) (hd : 7 ≤ d) (hw : w_R_comeToRest 23  m K) : AM mX3_comeToRest d [.ref 23] (lay t ex o m) k 0 0 (fun oc h' k' => k = k' ∧ ∃ (r : Int32) (m' : Mem), oc = .inl (some (.int r)) ∧ h' = lay t ex o m' ∧ K r m') :=
  AM.intro (μ := mX3_comeToRest) (n := 1) (by decide) rfl rfl rfl (b_R_comeToRest_23 ht hd (by omega) (by omega) (fun _ _ hK => ⟨rfl, _, _, rfl, rfl, hK⟩)  hw)
set_option maxRecDepth 100000 in
set_option maxHeartbeats 4000000 in
theorem b_R_comeToRest_35 {Z : Gz} {d k0 mc ms cs ss k t : Nat} {Q : Po} {ex : Hp} {o : Nat → Int64} {K : Int32 → Mem → Prop}  (ht : tok t) (hd : 7 ≤ d) (hcs : cs + 0 ≤ mc) (hss : ss + 0 ≤ ms) (hQ : ∀ (r : Int32) (m : Mem), K r m → Q (.inl (some (.int r))) (lay t ex o m) k) {m : Mem}  (hw : w_R_comeToRest 35  m K) : AW Z mX3_comeToRest d k0 mc ms Q 0 [.ref 35, .null] [] (lay t ex o m) k cs ss := by
  unfold w_R_comeToRest at hw
  refine AW.aload_n (pc := 0) dX3_comeToRest_0 rfl rfl ?_
  refine AW.ldc (pc := 1) dX3_comeToRest_1 tw_285 ?_
  refine AW.callV (pc := 3) (S' := []) dX3_comeToRest_3 (c_R_letCome_35 (d := d - 1) ht (by omega) hw) ok_X3_letCome tw_262 tw_263 tw_286 (fix_pos (by decide)) (lay_at ht (by decide)) (show aw_cl[3]? = some _ from rfl) rfl rfl (by omega) rfl (Nat.le_of_ble_eq_true rfl) (by omega) (by omega) ?_ (fun E h' k' hq => by obtain ⟨rfl, r2, m1, hv, -⟩ := hq; cases hv)
  intro v h' k' hq
  obtain ⟨rfl, r2, m1, hv, rfl, hw⟩ := hq
  cases hv
  show AW _ _ _ _ _ _ _ 6 [.ref 35, .null] [.int r2] (lay t ex o m1) k _ _
  refine AW.istore_n (L' := [.ref 35, .int r2]) (pc := 6) dX3_comeToRest_6 rfl (by decide) rfl rfl ?_
  refine AW.aload_n (pc := 7) dX3_comeToRest_7 rfl rfl ?_
  refine AW.callV (pc := 8) (S' := []) dX3_comeToRest_8 (c_R_noteHazardsOfGates_35 (d := d - 1) ht (by omega) hw) ok_X3_noteHazardsOfGates tw_289 ts_16 tw_287 (fix_pos (by decide)) (lay_at ht (by decide)) (show aw_cl[3]? = some _ from rfl) rfl rfl (by omega) rfl (Nat.le_of_ble_eq_true rfl) (by omega) (by omega) ?_ (fun E h' k' hq => by obtain ⟨rfl, m3, hv, -⟩ := hq; cases hv)
  intro v h' k' hq
  obtain ⟨rfl, m3, hv, rfl, hw⟩ := hq
  cases hv
  show AW _ _ _ _ _ _ _ 11 [.ref 35, .int r2] [] (lay t ex o m3) k _ _
  refine AW.aload_n (pc := 11) dX3_comeToRest_11 rfl rfl ?_
  refine AW.callV (pc := 12) (S' := []) dX3_comeToRest_12 (c_R_beginCounting_35 (d := d - 1) ht (by omega) hw) ok_X3_beginCounting tw_192 ts_4 tw_190 (fix_pos (by decide)) (lay_at ht (by decide)) (show aw_cl[3]? = some _ from rfl) rfl rfl (by omega) rfl (Nat.le_of_ble_eq_true rfl) (by omega) (by omega) ?_ (fun E h' k' hq => by obtain ⟨rfl, m4, hv, -⟩ := hq; cases hv)
  intro v h' k' hq
  obtain ⟨rfl, m4, hv, rfl, hw⟩ := hq
  cases hv
  show AW _ _ _ _ _ _ _ 15 [.ref 35, .int r2] [] (lay t ex o m4) k _ _
  refine AW.iload_n (pc := 15) dX3_comeToRest_15 rfl rfl ?_
  exact AW.iret (pc := 16) dX3_comeToRest_16 rfl rfl (by omega) (by omega) (hQ _ _ hw)
set_option maxRecDepth 100000 in
set_option maxHeartbeats 4000000 in
theorem c_R_comeToRest_35 {d k t : Nat} {ex : Hp} {o : Nat → Int64} {K : Int32 → Mem → Prop} {m : Mem}  (ht : tok t) (hd : 7 ≤ d) (hw : w_R_comeToRest 35  m K) : AM mX3_comeToRest d [.ref 35] (lay t ex o m) k 0 0 (fun oc h' k' => k = k' ∧ ∃ (r : Int32) (m' : Mem), oc = .inl (some (.int r)) ∧ h' = lay t ex o m' ∧ K r m') :=
  AM.intro (μ := mX3_comeToRest) (n := 1) (by decide) rfl rfl rfl (b_R_comeToRest_35 ht hd (by omega) (by omega) (fun _ _ hK => ⟨rfl, _, _, rfl, rfl, hK⟩)  hw)
def w_R_put (r : Nat) (p1 : Int32) (p2 : Int32) (m : Mem) (K : Mem → Prop) : Prop :=
  w_R_beginCounting r  m (fun m1 => w_R_change r p1 p2 m1 (fun m2 => K m2))
set_option maxRecDepth 100000 in
set_option maxHeartbeats 4000000 in
theorem b_R_put_23 {Z : Gz} {d k0 mc ms cs ss k t : Nat} {Q : Po} {ex : Hp} {o : Nat → Int64} {K : Mem → Prop}  (ht : tok t) (hd : 6 ≤ d) (hcs : cs + 0 ≤ mc) (hss : ss + 0 ≤ ms) (hQ : ∀ (m : Mem), K m → Q (.inl none) (lay t ex o m) k) {m : Mem} (p1 : Int32) (p2 : Int32) (hw : w_R_put 23 p1 p2 m K) : AW Z mX3_put d k0 mc ms Q 0 [.ref 23, .int p1, .int p2] [] (lay t ex o m) k cs ss := by
  unfold w_R_put at hw
  refine AW.aload_n (pc := 0) dX3_put_0 rfl rfl ?_
  refine AW.callV (pc := 1) (S' := []) dX3_put_1 (c_R_beginCounting_23 (d := d - 1) ht (by omega) hw) ok_X3_beginCounting tw_192 ts_4 tw_190 (fix_pos (by decide)) (lay_at ht (by decide)) (show aw_cl[3]? = some _ from rfl) rfl rfl (by omega) rfl (Nat.le_of_ble_eq_true rfl) (by omega) (by omega) ?_ (fun E h' k' hq => by obtain ⟨rfl, m1, hv, -⟩ := hq; cases hv)
  intro v h' k' hq
  obtain ⟨rfl, m1, hv, rfl, hw⟩ := hq
  cases hv
  show AW _ _ _ _ _ _ _ 4 [.ref 23, .int p1, .int p2] [] (lay t ex o m1) k _ _
  refine AW.aload_n (pc := 4) dX3_put_4 rfl rfl ?_
  refine AW.iload_n (pc := 5) dX3_put_5 rfl rfl ?_
  refine AW.iload_n (pc := 6) dX3_put_6 rfl rfl ?_
  refine AW.callV (pc := 7) (S' := []) dX3_put_7 (c_R_change_23 (d := d - 1) ht (by omega) hw) ok_X3_change tw_203 ts_5 tw_201 (fix_pos (by decide)) (lay_at ht (by decide)) (show aw_cl[3]? = some _ from rfl) rfl rfl (by omega) rfl (Nat.le_of_ble_eq_true rfl) (by omega) (by omega) ?_ (fun E h' k' hq => by obtain ⟨rfl, m2, hv, -⟩ := hq; cases hv)
  intro v h' k' hq
  obtain ⟨rfl, m2, hv, rfl, hw⟩ := hq
  cases hv
  show AW _ _ _ _ _ _ _ 10 [.ref 23, .int p1, .int p2] [] (lay t ex o m2) k _ _
  exact AW.vret (pc := 10) dX3_put_10 rfl (by omega) (by omega) (hQ _ hw)
set_option maxRecDepth 100000 in
set_option maxHeartbeats 4000000 in
theorem c_R_put_23 {d k t : Nat} {ex : Hp} {o : Nat → Int64} {K : Mem → Prop} {m : Mem} {p1 : Int32} {p2 : Int32} (ht : tok t) (hd : 6 ≤ d) (hw : w_R_put 23 p1 p2 m K) : AM mX3_put d [.ref 23, .int p1, .int p2] (lay t ex o m) k 0 0 (fun oc h' k' => k = k' ∧ ∃ (m' : Mem), oc = .inl none ∧ h' = lay t ex o m' ∧ K m') :=
  AM.intro (μ := mX3_put) (n := 0) (by decide) rfl rfl rfl (b_R_put_23 ht hd (by omega) (by omega) (fun _ hK => ⟨rfl, _, rfl, rfl, hK⟩) p1 p2 hw)
set_option maxRecDepth 100000 in
set_option maxHeartbeats 4000000 in
theorem b_R_put_35 {Z : Gz} {d k0 mc ms cs ss k t : Nat} {Q : Po} {ex : Hp} {o : Nat → Int64} {K : Mem → Prop}  (ht : tok t) (hd : 6 ≤ d) (hcs : cs + 0 ≤ mc) (hss : ss + 0 ≤ ms) (hQ : ∀ (m : Mem), K m → Q (.inl none) (lay t ex o m) k) {m : Mem} (p1 : Int32) (p2 : Int32) (hw : w_R_put 35 p1 p2 m K) : AW Z mX3_put d k0 mc ms Q 0 [.ref 35, .int p1, .int p2] [] (lay t ex o m) k cs ss := by
  unfold w_R_put at hw
  refine AW.aload_n (pc := 0) dX3_put_0 rfl rfl ?_
  refine AW.callV (pc := 1) (S' := []) dX3_put_1 (c_R_beginCounting_35 (d := d - 1) ht (by omega) hw) ok_X3_beginCounting tw_192 ts_4 tw_190 (fix_pos (by decide)) (lay_at ht (by decide)) (show aw_cl[3]? = some _ from rfl) rfl rfl (by omega) rfl (Nat.le_of_ble_eq_true rfl) (by omega) (by omega) ?_ (fun E h' k' hq => by obtain ⟨rfl, m1, hv, -⟩ := hq; cases hv)
  intro v h' k' hq
  obtain ⟨rfl, m1, hv, rfl, hw⟩ := hq
  cases hv
  show AW _ _ _ _ _ _ _ 4 [.ref 35, .int p1, .int p2] [] (lay t ex o m1) k _ _
  refine AW.aload_n (pc := 4) dX3_put_4 rfl rfl ?_
  refine AW.iload_n (pc := 5) dX3_put_5 rfl rfl ?_
  refine AW.iload_n (pc := 6) dX3_put_6 rfl rfl ?_
  refine AW.callV (pc := 7) (S' := []) dX3_put_7 (c_R_change_35 (d := d - 1) ht (by omega) hw) ok_X3_change tw_203 ts_5 tw_201 (fix_pos (by decide)) (lay_at ht (by decide)) (show aw_cl[3]? = some _ from rfl) rfl rfl (by omega) rfl (Nat.le_of_ble_eq_true rfl) (by omega) (by omega) ?_ (fun E h' k' hq => by obtain ⟨rfl, m2, hv, -⟩ := hq; cases hv)
  intro v h' k' hq
  obtain ⟨rfl, m2, hv, rfl, hw⟩ := hq
  cases hv
  show AW _ _ _ _ _ _ _ 10 [.ref 35, .int p1, .int p2] [] (lay t ex o m2) k _ _
  exact AW.vret (pc := 10) dX3_put_10 rfl (by omega) (by omega) (hQ _ hw)
set_option maxRecDepth 100000 in
set_option maxHeartbeats 4000000 in
theorem c_R_put_35 {d k t : Nat} {ex : Hp} {o : Nat → Int64} {K : Mem → Prop} {m : Mem} {p1 : Int32} {p2 : Int32} (ht : tok t) (hd : 6 ≤ d) (hw : w_R_put 35 p1 p2 m K) : AM mX3_put d [.ref 35, .int p1, .int p2] (lay t ex o m) k 0 0 (fun oc h' k' => k = k' ∧ ∃ (m' : Mem), oc = .inl none ∧ h' = lay t ex o m' ∧ K m') :=
  AM.intro (μ := mX3_put) (n := 0) (by decide) rfl rfl rfl (b_R_put_35 ht hd (by omega) (by omega) (fun _ hK => ⟨rfl, _, rfl, rfl, hK⟩) p1 p2 hw)
