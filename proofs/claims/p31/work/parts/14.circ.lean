/-! printed by wip/tools/gen.py: X4_isWire, X1_firstLineOf, X1_isGate, X1_noteUse, X1_add, X1_isFirstDrivenBy, X1_isUsedBy, X1_pinsOf, X4_isWithin -/
abbrev mX4_isWire : Mt := (yX4_isWire, cX4_isWire, 1, (some .boolean), [])
set_option maxRecDepth 20000 in
theorem ok_X4_isWire : aw_mok mX4_isWire 1 := ⟨rfl, tw_26, tw_2, ⟨by decide, by decide⟩, by decide +kernel, by decide⟩
abbrev mX1_firstLineOf : Mt := (yX1_firstLineOf, cX1_firstLineOf, 3, (some .int), [])
set_option maxRecDepth 20000 in
theorem ok_X1_firstLineOf : aw_mok mX1_firstLineOf 1 := ⟨rfl, tw_123, tw_3, ⟨by decide, by decide⟩, by decide +kernel, by decide⟩
abbrev mX1_isGate : Mt := (yX1_isGate, cX1_isGate, 2, (some .boolean), [])
set_option maxRecDepth 20000 in
theorem ok_X1_isGate : aw_mok mX1_isGate 1 := ⟨rfl, tw_128, tw_3, ⟨by decide, by decide⟩, by decide +kernel, by decide⟩
abbrev mX1_noteUse : Mt := (yX1_noteUse, cX1_noteUse, 3, none, [])
set_option maxRecDepth 20000 in
theorem ok_X1_noteUse : aw_mok mX1_noteUse 2 := ⟨rfl, tw_734, tw_3, ⟨by decide, by decide⟩, by decide +kernel, by decide⟩
abbrev mX1_add : Mt := (yX1_add, cX1_add, 8, (some .int), [])
set_option maxRecDepth 20000 in
theorem ok_X1_add : aw_mok mX1_add 6 := ⟨rfl, tw_730, tw_3, ⟨by decide, by decide⟩, by decide +kernel, by decide⟩
abbrev mX1_isFirstDrivenBy : Mt := (yX1_isFirstDrivenBy, cX1_isFirstDrivenBy, 4, (some .boolean), [])
set_option maxRecDepth 20000 in
theorem ok_X1_isFirstDrivenBy : aw_mok mX1_isFirstDrivenBy 2 := ⟨rfl, tw_167, tw_3, ⟨by decide, by decide⟩, by decide +kernel, by decide⟩
abbrev mX1_isUsedBy : Mt := (yX1_isUsedBy, cX1_isUsedBy, 3, (some .boolean), [])
set_option maxRecDepth 20000 in
theorem ok_X1_isUsedBy : aw_mok mX1_isUsedBy 2 := ⟨rfl, tw_209, tw_3, ⟨by decide, by decide⟩, by decide +kernel, by decide⟩
abbrev mX1_pinsOf : Mt := (yX1_pinsOf, cX1_pinsOf, 2, (some .int), [])
set_option maxRecDepth 20000 in
theorem ok_X1_pinsOf : aw_mok mX1_pinsOf 1 := ⟨rfl, tw_757, tw_3, ⟨by decide, by decide⟩, by decide +kernel, by decide⟩
abbrev mX4_isWithin : Mt := (yX4_isWithin, cX4_isWithin, 2, (some .boolean), [])
set_option maxRecDepth 20000 in
theorem ok_X4_isWithin : aw_mok mX4_isWithin 2 := ⟨rfl, tw_259, tw_2, ⟨by decide, by decide⟩, by decide +kernel, by decide⟩
def w_N_isWire (p0 : Int32) (m : Mem) (K : Int32 → Mem → Prop) : Prop :=
  ((p0 < 0 → K (0 : Int32) m) ∧ (¬ (p0 < 0) → (((24 : Int32) ≤ p0 → K (0 : Int32) m) ∧ (¬ ((24 : Int32) ≤ p0) → K (1 : Int32) m))))
set_option maxRecDepth 100000 in
set_option maxHeartbeats 4000000 in
theorem b_N_isWire {Z : Gz} {d k0 mc ms cs ss k t : Nat} {Q : Po} {ex : Hp} {o : Nat → Int64} {K : Int32 → Mem → Prop}  (ht : tok t) (hd : 2 ≤ d) (hcs : cs + 0 ≤ mc) (hss : ss + 0 ≤ ms) (hQ : ∀ (r : Int32) (m : Mem), K r m → Q (.inl (some (.int r))) (lay t ex o m) k) {m : Mem} (p0 : Int32) (hw : w_N_isWire p0 m K) : AW Z mX4_isWire d k0 mc ms Q 0 [.int p0] [] (lay t ex o m) k cs ss := by
  unfold w_N_isWire at hw
  refine AW.iload_n (pc := 0) dX4_isWire_0 rfl rfl ?_
  refine AW.if_lt (pc := 1) (tgt := 14) dX4_isWire_1 (by decide) (fun c1 => ?_) (fun c1 => ?_)
  · have hw := hw.1 c1
    refine AW.iconst (v := 0) (pc := 14) dX4_isWire_14 (by decide) ?_
    exact AW.iret (pc := 15) dX4_isWire_15 rfl (by decide) (by omega) (by omega) (hQ _ _ hw)
  · have hw := hw.2 c1
    refine AW.iload_n (pc := 4) dX4_isWire_4 rfl rfl ?_
    refine AW.bipush (v := 24) (pc := 5) dX4_isWire_5 (by decide) ?_
    refine AW.icmp_ge (pc := 7) (tgt := 14) dX4_isWire_7 (by decide) (fun c2 => ?_) (fun c2 => ?_)
    · have hw := hw.1 c2
      refine AW.iconst (v := 0) (pc := 14) dX4_isWire_14 (by decide) ?_
      exact AW.iret (pc := 15) dX4_isWire_15 rfl (by decide) (by omega) (by omega) (hQ _ _ hw)
    · have hw := hw.2 c2
      refine AW.iconst (v := 1) (pc := 10) dX4_isWire_10 (by decide) ?_
      refine AW.goto (pc := 11) (tgt := 15) dX4_isWire_11 (by decide) ?_
      exact AW.iret (pc := 15) dX4_isWire_15 rfl (by decide) (by omega) (by omega) (hQ _ _ hw)
set_option maxRecDepth 100000 in
set_option maxHeartbeats 4000000 in
theorem c_N_isWire {d k t : Nat} {ex : Hp} {o : Nat → Int64} {K : Int32 → Mem → Prop} {m : Mem} {p0 : Int32} (ht : tok t) (hd : 2 ≤ d) (hw : w_N_isWire p0 m K) : AM mX4_isWire d [.int p0] (lay t ex o m) k 0 0 (fun oc h' k' => k = k' ∧ ∃ (r : Int32) (m' : Mem), oc = .inl (some (.int r)) ∧ h' = lay t ex o m' ∧ K r m') :=
  AM.intro (μ := mX4_isWire) (n := 0) (by decide) rfl rfl rfl (b_N_isWire ht hd (by omega) (by omega) (fun _ _ hK => ⟨rfl, _, _, rfl, rfl, hK⟩) p0 hw)
def w_C_firstLineOf (p1 : Int32) (m : Mem) (K : Int32 → Mem → Prop) : Prop :=
  w_N_isWire p1 m (fun r2 m1 => (∀ J5 : Int32 → Mem → Prop, (∀ (v3 : Int32) (m4 : Mem), (((v3 < 0 → K (-1 : Int32) m4) ∧ (¬ (v3 < 0) → (((m4 2 11) ≤ v3 → K (-1 : Int32) m4) ∧ (¬ ((m4 2 11) ≤ v3) → K v3 m4))))) → J5 v3 m4) → ((r2 = 0 → J5 (-1 : Int32) m1) ∧ (¬ (r2 = 0) → vp_in p1 24 ∧ J5 (m1 13 (p1).toNatClampNeg) m1))))
set_option maxRecDepth 100000 in
set_option maxHeartbeats 4000000 in
theorem b_C_firstLineOf {Z : Gz} {d k0 mc ms cs ss k t : Nat} {Q : Po} {ex : Hp} {o : Nat → Int64} {K : Int32 → Mem → Prop}  (ht : tok t) (hd : 3 ≤ d) (hcs : cs + 0 ≤ mc) (hss : ss + 0 ≤ ms) (hQ : ∀ (r : Int32) (m : Mem), K r m → Q (.inl (some (.int r))) (lay t ex o m) k) {m : Mem} (p1 : Int32) (hw : w_C_firstLineOf p1 m K) : AW Z mX1_firstLineOf d k0 mc ms Q 0 [.ref 2, .int p1, .null] [] (lay t ex o m) k cs ss := by
  unfold w_C_firstLineOf at hw
  refine AW.iload_n (pc := 0) dX1_firstLineOf_0 rfl rfl ?_
  refine AW.callSN (pc := 1) (S' := []) dX1_firstLineOf_1 (c_N_isWire (d := d - 1) ht (by omega) hw) ok_X4_isWire tw_25 tw_124 rfl (by omega) rfl (Nat.le_of_ble_eq_true rfl) (by omega) (by omega) (fun E h' k' hq => by obtain ⟨rfl, r2, m1, hv, -⟩ := hq; cases hv) ?_
  intro v h' k' hq
  obtain ⟨rfl, r2, m1, hv, rfl, hw⟩ := hq
  cases hv
  show AW _ _ _ _ _ _ _ 4 [.ref 2, .int p1, .null] [.int r2] (lay t ex o m1) k _ _
  have hw := hw (fun v3 m4 => AW Z mX1_firstLineOf d k0 mc ms Q 17 [.ref 2, .int p1, .null] [.int v3] (lay t ex o m4) k (cs) (ss)) (by
      intro v3 m4 hw
      refine AW.istore_n (L' := [.ref 2, .int p1, .int v3]) (pc := 17) dX1_firstLineOf_17 rfl (by decide) rfl rfl ?_
      refine AW.iload_n (pc := 18) dX1_firstLineOf_18 rfl rfl ?_
      refine AW.if_lt (pc := 19) (tgt := 34) dX1_firstLineOf_19 (by decide) (fun c7 => ?_) (fun c7 => ?_)
      · have hw := hw.1 c7
        refine AW.iconst (v := -1) (pc := 34) dX1_firstLineOf_34 (by decide) ?_
        exact AW.iret (pc := 35) dX1_firstLineOf_35 rfl rfl (by omega) (by omega) (hQ _ _ hw)
      · have hw := hw.2 c7
        refine AW.iload_n (pc := 22) dX1_firstLineOf_22 rfl rfl ?_
        refine AW.aload_n (pc := 23) dX1_firstLineOf_23 rfl rfl ?_
        refine LW.get (pc := 24) (f := 11) (ci := 1) (T := TX1) ht (by decide) rfl dX1_firstLineOf_24 tw_472 rfl (by decide) rfl ?_
        refine AW.icmp_ge (pc := 27) (tgt := 34) dX1_firstLineOf_27 (by decide) (fun c8 => ?_) (fun c8 => ?_)
        · have hw := hw.1 c8
          refine AW.iconst (v := -1) (pc := 34) dX1_firstLineOf_34 (by decide) ?_
          exact AW.iret (pc := 35) dX1_firstLineOf_35 rfl rfl (by omega) (by omega) (hQ _ _ hw)
        · have hw := hw.2 c8
          refine AW.iload_n (pc := 30) dX1_firstLineOf_30 rfl rfl ?_
          refine AW.goto (pc := 31) (tgt := 35) dX1_firstLineOf_31 (by decide) ?_
          exact AW.iret (pc := 35) dX1_firstLineOf_35 rfl rfl (by omega) (by omega) (hQ _ _ hw))
  refine AW.if_eq (pc := 4) (tgt := 16) dX1_firstLineOf_4 (by decide) (fun c6 => ?_) (fun c6 => ?_)
  · have hw := hw.1 c6
    refine AW.iconst (v := -1) (pc := 16) dX1_firstLineOf_16 (by decide) ?_
    exact hw
  · have hw := hw.2 c6
    refine AW.aload_n (pc := 7) dX1_firstLineOf_7 rfl rfl ?_
    refine LW.get (pc := 8) (f := 10) (ci := 1) (T := TX1) ht (by decide) rfl dX1_firstLineOf_8 tw_471 rfl (by decide) rfl ?_
    refine AW.iload_n (pc := 11) dX1_firstLineOf_11 rfl rfl ?_
    obtain ⟨hin, hw⟩ := hw
    refine LW.iald (pc := 12) (j := p1.toNatClampNeg) ht (by decide) rfl dX1_firstLineOf_12 hin rfl ?_
    refine AW.goto (pc := 13) (tgt := 17) dX1_firstLineOf_13 (by decide) ?_
    exact hw
set_option maxRecDepth 100000 in
set_option maxHeartbeats 4000000 in
theorem c_C_firstLineOf {d k t : Nat} {ex : Hp} {o : Nat → Int64} {K : Int32 → Mem → Prop} {m : Mem} {p1 : Int32} (ht : tok t) (hd : 3 ≤ d) (hw : w_C_firstLineOf p1 m K) : AM mX1_firstLineOf d [.ref 2, .int p1] (lay t ex o m) k 0 0 (fun oc h' k' => k = k' ∧ ∃ (r : Int32) (m' : Mem), oc = .inl (some (.int r)) ∧ h' = lay t ex o m' ∧ K r m') :=
  AM.intro (μ := mX1_firstLineOf) (n := 1) (by decide) rfl rfl rfl (b_C_firstLineOf ht hd (by omega) (by omega) (fun _ _ hK => ⟨rfl, _, _, rfl, rfl, hK⟩) p1 hw)
def w_C_isGate (p1 : Int32) (m : Mem) (K : Int32 → Mem → Prop) : Prop :=
  vp_in p1 30 ∧ (((7 : Int32) < (m 3 (p1).toNatClampNeg) → K (0 : Int32) m) ∧ (¬ ((7 : Int32) < (m 3 (p1).toNatClampNeg)) → K (1 : Int32) m))
set_option maxRecDepth 100000 in
set_option maxHeartbeats 4000000 in
theorem b_C_isGate {Z : Gz} {d k0 mc ms cs ss k t : Nat} {Q : Po} {ex : Hp} {o : Nat → Int64} {K : Int32 → Mem → Prop}  (ht : tok t) (hd : 2 ≤ d) (hcs : cs + 0 ≤ mc) (hss : ss + 0 ≤ ms) (hQ : ∀ (r : Int32) (m : Mem), K r m → Q (.inl (some (.int r))) (lay t ex o m) k) {m : Mem} (p1 : Int32) (hw : w_C_isGate p1 m K) : AW Z mX1_isGate d k0 mc ms Q 0 [.ref 2, .int p1] [] (lay t ex o m) k cs ss := by
  unfold w_C_isGate at hw
  refine AW.aload_n (pc := 0) dX1_isGate_0 rfl rfl ?_
  refine LW.get (pc := 1) (f := 0) (ci := 1) (T := TX1) ht (by decide) rfl dX1_isGate_1 tw_442 rfl (by decide) rfl ?_
  refine AW.iload_n (pc := 4) dX1_isGate_4 rfl rfl ?_
  obtain ⟨hin, hw⟩ := hw
  refine LW.iald (pc := 5) (j := p1.toNatClampNeg) ht (by decide) rfl dX1_isGate_5 hin rfl ?_
  refine AW.bipush (v := 7) (pc := 6) dX1_isGate_6 (by decide) ?_
  refine AW.icmp_gt (pc := 8) (tgt := 15) dX1_isGate_8 (by decide) (fun c1 => ?_) (fun c1 => ?_)
  · have hw := hw.1 c1
    refine AW.iconst (v := 0) (pc := 15) dX1_isGate_15 (by decide) ?_
    exact AW.iret (pc := 16) dX1_isGate_16 rfl (by decide) (by omega) (by omega) (hQ _ _ hw)
  · have hw := hw.2 c1
    refine AW.iconst (v := 1) (pc := 11) dX1_isGate_11 (by decide) ?_
    refine AW.goto (pc := 12) (tgt := 16) dX1_isGate_12 (by decide) ?_
    exact AW.iret (pc := 16) dX1_isGate_16 rfl (by decide) (by omega) (by omega) (hQ _ _ hw)
set_option maxRecDepth 100000 in
set_option maxHeartbeats 4000000 in
theorem c_C_isGate {d k t : Nat} {ex : Hp} {o : Nat → Int64} {K : Int32 → Mem → Prop} {m : Mem} {p1 : Int32} (ht : tok t) (hd : 2 ≤ d) (hw : w_C_isGate p1 m K) : AM mX1_isGate d [.ref 2, .int p1] (lay t ex o m) k 0 0 (fun oc h' k' => k = k' ∧ ∃ (r : Int32) (m' : Mem), oc = .inl (some (.int r)) ∧ h' = lay t ex o m' ∧ K r m') :=
  AM.intro (μ := mX1_isGate) (n := 0) (by decide) rfl rfl rfl (b_C_isGate ht hd (by omega) (by omega) (fun _ _ hK => ⟨rfl, _, _, rfl, rfl, hK⟩) p1 hw)
def w_C_noteUse (p1 : Int32) (p2 : Int32) (m : Mem) (K : Mem → Prop) : Prop :=
  w_N_isWire p2 m (fun r2 m1 => ((r2 = 0 → K m1) ∧ (¬ (r2 = 0) → vp_in p2 24 ∧ vp_in p2 24 ∧ ∀ m4 : Mem, m4 = up2 m1 11 (p2.toNatClampNeg) ((m1 11 (p2).toNatClampNeg) ||| ((1 : Int32) <<< (p1 &&& 31))) → K m4)))
set_option maxRecDepth 100000 in
set_option maxHeartbeats 4000000 in
theorem b_C_noteUse {Z : Gz} {d k0 mc ms cs ss k t : Nat} {Q : Po} {ex : Hp} {o : Nat → Int64} {K : Mem → Prop}  (ht : tok t) (hd : 3 ≤ d) (hcs : cs + 0 ≤ mc) (hss : ss + 0 ≤ ms) (hQ : ∀ (m : Mem), K m → Q (.inl none) (lay t ex o m) k) {m : Mem} (p1 : Int32) (p2 : Int32) (hw : w_C_noteUse p1 p2 m K) : AW Z mX1_noteUse d k0 mc ms Q 0 [.ref 2, .int p1, .int p2] [] (lay t ex o m) k cs ss := by
  unfold w_C_noteUse at hw
  refine AW.iload_n (pc := 0) dX1_noteUse_0 rfl rfl ?_
  refine AW.callSN (pc := 1) (S' := []) dX1_noteUse_1 (c_N_isWire (d := d - 1) ht (by omega) hw) ok_X4_isWire tw_25 tw_124 rfl (by omega) rfl (Nat.le_of_ble_eq_true rfl) (by omega) (by omega) (fun E h' k' hq => by obtain ⟨rfl, r2, m1, hv, -⟩ := hq; cases hv) ?_
  intro v h' k' hq
  obtain ⟨rfl, r2, m1, hv, rfl, hw⟩ := hq
  cases hv
  show AW _ _ _ _ _ _ _ 4 [.ref 2, .int p1, .int p2] [.int r2] (lay t ex o m1) k _ _
  refine AW.if_eq (pc := 4) (tgt := 19) dX1_noteUse_4 (by decide) (fun c3 => ?_) (fun c3 => ?_)
  · have hw := hw.1 c3
    exact AW.vret (pc := 19) dX1_noteUse_19 rfl (by omega) (by omega) (hQ _ hw)
  · have hw := hw.2 c3
    refine AW.aload_n (pc := 7) dX1_noteUse_7 rfl rfl ?_
    refine LW.get (pc := 8) (f := 8) (ci := 1) (T := TX1) ht (by decide) rfl dX1_noteUse_8 tw_465 rfl (by decide) rfl ?_
    refine AW.iload_n (pc := 11) dX1_noteUse_11 rfl rfl ?_
    refine AW.dup2 (pc := 12) dX1_noteUse_12 rfl rfl ?_
    obtain ⟨hin, hw⟩ := hw
    refine LW.iald (pc := 13) (j := p2.toNatClampNeg) ht (by decide) rfl dX1_noteUse_13 hin rfl ?_
    refine AW.iconst (v := 1) (pc := 14) dX1_noteUse_14 (by decide) ?_
    refine AW.iload_n (pc := 15) dX1_noteUse_15 rfl rfl ?_
    refine AW.ishl (pc := 16) dX1_noteUse_16 ?_
    refine AW.ior (pc := 17) dX1_noteUse_17 ?_
    obtain ⟨hin, hw⟩ := hw
    have hw := hw _ rfl
    refine LW.iast (pc := 18) (j := p2.toNatClampNeg) ht (by decide) (fun _ => rfl) dX1_noteUse_18 hin rfl ?_
    generalize up2 m1 11 (p2.toNatClampNeg) ((m1 11 (p2).toNatClampNeg) ||| ((1 : Int32) <<< (p1 &&& 31))) = m4 at hw ⊢
    exact AW.vret (pc := 19) dX1_noteUse_19 rfl (by omega) (by omega) (hQ _ hw)
set_option maxRecDepth 100000 in
set_option maxHeartbeats 4000000 in
theorem c_C_noteUse {d k t : Nat} {ex : Hp} {o : Nat → Int64} {K : Mem → Prop} {m : Mem} {p1 : Int32} {p2 : Int32} (ht : tok t) (hd : 3 ≤ d) (hw : w_C_noteUse p1 p2 m K) : AM mX1_noteUse d [.ref 2, .int p1, .int p2] (lay t ex o m) k 0 0 (fun oc h' k' => k = k' ∧ ∃ (m' : Mem), oc = .inl none ∧ h' = lay t ex o m' ∧ K m') :=
  AM.intro (μ := mX1_noteUse) (n := 0) (by decide) rfl rfl rfl (b_C_noteUse ht hd (by omega) (by omega) (fun _ hK => ⟨rfl, _, rfl, rfl, hK⟩) p1 p2 hw)
def w_C_add (p1 : Int32) (p2 : Int32) (p3 : Int32) (p4 : Int32) (p5 : Int32) (p6 : Int32) (m : Mem) (K : Int32 → Mem → Prop) : Prop :=
  (((30 : Int32) ≤ (m 2 11) → K (-1 : Int32) m) ∧ (¬ ((30 : Int32) ≤ (m 2 11)) → w_N_isWire p2 m (fun r3 m2 => ((¬ (r3 = 0) → vp_in (m2 2 11) 30 ∧ ∀ m5 : Mem, m5 = up2 m2 3 ((m2 2 11).toNatClampNeg) p1 → vp_in (m2 2 11) 30 ∧ ∀ m6 : Mem, m6 = up2 m5 4 ((m2 2 11).toNatClampNeg) p2 → vp_in (m2 2 11) 30 ∧ ∀ m7 : Mem, m7 = up2 m6 5 ((m2 2 11).toNatClampNeg) p3 → vp_in (m2 2 11) 30 ∧ ∀ m8 : Mem, m8 = up2 m7 6 ((m2 2 11).toNatClampNeg) p4 → vp_in (m2 2 11) 30 ∧ ∀ m9 : Mem, m9 = up2 m8 7 ((m2 2 11).toNatClampNeg) p5 → vp_in (m2 2 11) 30 ∧ ∀ m10 : Mem, m10 = up2 m9 8 ((m2 2 11).toNatClampNeg) p6 → w_C_noteUse (m2 2 11) p3 m10 (fun m11 => w_C_noteUse (m2 2 11) p4 m11 (fun m12 => w_C_noteUse (m2 2 11) p5 m12 (fun m13 => vp_in p2 24 ∧ (∀ J15 : Mem → Prop, (∀  (m14 : Mem), (vp_in p2 24 ∧ vp_in p2 24 ∧ ∀ m18 : Mem, m18 = up2 m14 12 (p2.toNatClampNeg) ((m14 12 (p2).toNatClampNeg) + (1 : Int32)) → ∀ m19 : Mem, m19 = up2 m18 2 11 ((m18 2 11) + (1 : Int32)) → K (m2 2 11) m19) → J15 m14) → ((¬ ((m13 12 (p2).toNatClampNeg) = 0) → J15  m13) ∧ ((m13 12 (p2).toNatClampNeg) = 0 → vp_in p2 24 ∧ ∀ m17 : Mem, m17 = up2 m13 13 (p2.toNatClampNeg) (m2 2 11) → J15  m17))))))) ∧ (r3 = 0 → K (-1 : Int32) m2)))))
set_option maxRecDepth 100000 in
set_option maxHeartbeats 4000000 in
theorem b_C_add {Z : Gz} {d k0 mc ms cs ss k t : Nat} {Q : Po} {ex : Hp} {o : Nat → Int64} {K : Int32 → Mem → Prop}  (ht : tok t) (hd : 4 ≤ d) (hcs : cs + 0 ≤ mc) (hss : ss + 0 ≤ ms) (hQ : ∀ (r : Int32) (m : Mem), K r m → Q (.inl (some (.int r))) (lay t ex o m) k) {m : Mem} (p1 : Int32) (p2 : Int32) (p3 : Int32) (p4 : Int32) (p5 : Int32) (p6 : Int32) (hw : w_C_add p1 p2 p3 p4 p5 p6 m K) : AW Z mX1_add d k0 mc ms Q 0 [.ref 2, .int p1, .int p2, .int p3, .int p4, .int p5, .int p6, .null] [] (lay t ex o m) k cs ss := by
  unfold w_C_add at hw
  refine AW.aload_n (pc := 0) dX1_add_0 rfl rfl ?_
  refine LW.get (pc := 1) (f := 11) (ci := 1) (T := TX1) ht (by decide) rfl dX1_add_1 tw_472 rfl (by decide) rfl ?_
  refine AW.bipush (v := 30) (pc := 4) dX1_add_4 (by decide) ?_
  refine AW.icmp_ge (pc := 6) (tgt := 16) dX1_add_6 (by decide) (fun c1 => ?_) (fun c1 => ?_)
  · have hw := hw.1 c1
    refine AW.iconst (v := -1) (pc := 16) dX1_add_16 (by decide) ?_
    exact AW.iret (pc := 17) dX1_add_17 rfl rfl (by omega) (by omega) (hQ _ _ hw)
  · have hw := hw.2 c1
    refine AW.iload_n (pc := 9) dX1_add_9 rfl rfl ?_
    refine AW.callSN (pc := 10) (S' := []) dX1_add_10 (c_N_isWire (d := d - 1) ht (by omega) hw) ok_X4_isWire tw_25 tw_124 rfl (by omega) rfl (Nat.le_of_ble_eq_true rfl) (by omega) (by omega) (fun E h' k' hq => by obtain ⟨rfl, r3, m2, hv, -⟩ := hq; cases hv) ?_
    intro v h' k' hq
    obtain ⟨rfl, r3, m2, hv, rfl, hw⟩ := hq
    cases hv
    show AW _ _ _ _ _ _ _ 13 [.ref 2, .int p1, .int p2, .int p3, .int p4, .int p5, .int p6, .null] [.int r3] (lay t ex o m2) k _ _
    refine AW.if_ne (pc := 13) (tgt := 18) dX1_add_13 (by decide) (fun c4 => ?_) (fun c4 => ?_)
    · have hw := hw.1 c4
      refine AW.aload_n (pc := 18) dX1_add_18 rfl rfl ?_
      refine LW.get (pc := 19) (f := 11) (ci := 1) (T := TX1) ht (by decide) rfl dX1_add_19 tw_472 rfl (by decide) rfl ?_
      refine AW.istore (L' := [.ref 2, .int p1, .int p2, .int p3, .int p4, .int p5, .int p6, .int (m2 2 11)]) (pc := 22) dX1_add_22 (by decide) rfl rfl ?_
      refine AW.aload_n (pc := 24) dX1_add_24 rfl rfl ?_
      refine LW.get (pc := 25) (f := 0) (ci := 1) (T := TX1) ht (by decide) rfl dX1_add_25 tw_442 rfl (by decide) rfl ?_
      refine AW.iload (pc := 28) dX1_add_28 rfl ?_
      refine AW.iload_n (pc := 30) dX1_add_30 rfl rfl ?_
      obtain ⟨hin, hw⟩ := hw
      have hw := hw _ rfl
      refine LW.iast (pc := 31) (j := (m2 2 11).toNatClampNeg) ht (by decide) (fun _ => rfl) dX1_add_31 hin rfl ?_
      generalize up2 m2 3 ((m2 2 11).toNatClampNeg) p1 = m5 at hw ⊢
      refine AW.aload_n (pc := 32) dX1_add_32 rfl rfl ?_
      refine LW.get (pc := 33) (f := 1) (ci := 1) (T := TX1) ht (by decide) rfl dX1_add_33 tw_446 rfl (by decide) rfl ?_
      refine AW.iload (pc := 36) dX1_add_36 rfl ?_
      refine AW.iload_n (pc := 38) dX1_add_38 rfl rfl ?_
      obtain ⟨hin, hw⟩ := hw
      have hw := hw _ rfl
      refine LW.iast (pc := 39) (j := (m2 2 11).toNatClampNeg) ht (by decide) (fun _ => rfl) dX1_add_39 hin rfl ?_
      generalize up2 m5 4 ((m2 2 11).toNatClampNeg) p2 = m6 at hw ⊢
      refine AW.aload_n (pc := 40) dX1_add_40 rfl rfl ?_
      refine LW.get (pc := 41) (f := 2) (ci := 1) (T := TX1) ht (by decide) rfl dX1_add_41 tw_449 rfl (by decide) rfl ?_
      refine AW.iload (pc := 44) dX1_add_44 rfl ?_
      refine AW.iload_n (pc := 46) dX1_add_46 rfl rfl ?_
      obtain ⟨hin, hw⟩ := hw
      have hw := hw _ rfl
      refine LW.iast (pc := 47) (j := (m2 2 11).toNatClampNeg) ht (by decide) (fun _ => rfl) dX1_add_47 hin rfl ?_
      generalize up2 m6 5 ((m2 2 11).toNatClampNeg) p3 = m7 at hw ⊢
      refine AW.aload_n (pc := 48) dX1_add_48 rfl rfl ?_
      refine LW.get (pc := 49) (f := 3) (ci := 1) (T := TX1) ht (by decide) rfl dX1_add_49 tw_452 rfl (by decide) rfl ?_
      refine AW.iload (pc := 52) dX1_add_52 rfl ?_
      refine AW.iload (pc := 54) dX1_add_54 rfl ?_
      obtain ⟨hin, hw⟩ := hw
      have hw := hw _ rfl
      refine LW.iast (pc := 56) (j := (m2 2 11).toNatClampNeg) ht (by decide) (fun _ => rfl) dX1_add_56 hin rfl ?_
      generalize up2 m7 6 ((m2 2 11).toNatClampNeg) p4 = m8 at hw ⊢
      refine AW.aload_n (pc := 57) dX1_add_57 rfl rfl ?_
      refine LW.get (pc := 58) (f := 4) (ci := 1) (T := TX1) ht (by decide) rfl dX1_add_58 tw_455 rfl (by decide) rfl ?_
      refine AW.iload (pc := 61) dX1_add_61 rfl ?_
      refine AW.iload (pc := 63) dX1_add_63 rfl ?_
      obtain ⟨hin, hw⟩ := hw
      have hw := hw _ rfl
      refine LW.iast (pc := 65) (j := (m2 2 11).toNatClampNeg) ht (by decide) (fun _ => rfl) dX1_add_65 hin rfl ?_
      generalize up2 m8 7 ((m2 2 11).toNatClampNeg) p5 = m9 at hw ⊢
      refine AW.aload_n (pc := 66) dX1_add_66 rfl rfl ?_
      refine LW.get (pc := 67) (f := 5) (ci := 1) (T := TX1) ht (by decide) rfl dX1_add_67 tw_458 rfl (by decide) rfl ?_
      refine AW.iload (pc := 70) dX1_add_70 rfl ?_
      refine AW.iload (pc := 72) dX1_add_72 rfl ?_
      obtain ⟨hin, hw⟩ := hw
      have hw := hw _ rfl
      refine LW.iast (pc := 74) (j := (m2 2 11).toNatClampNeg) ht (by decide) (fun _ => rfl) dX1_add_74 hin rfl ?_
      generalize up2 m9 8 ((m2 2 11).toNatClampNeg) p6 = m10 at hw ⊢
      refine AW.aload_n (pc := 75) dX1_add_75 rfl rfl ?_
      refine AW.iload (pc := 76) dX1_add_76 rfl ?_
      refine AW.iload_n (pc := 78) dX1_add_78 rfl rfl ?_
      refine AW.callV (pc := 79) (S' := []) dX1_add_79 (c_C_noteUse (d := d - 1) ht (by omega) hw) ok_X1_noteUse tw_733 ts_29 tw_731 (fix_pos (by decide)) (lay_at ht (by decide)) (show aw_cl[1]? = some _ from rfl) rfl rfl (by omega) rfl (Nat.le_of_ble_eq_true rfl) (by omega) (by omega) ?_ (fun E h' k' hq => by obtain ⟨rfl, m11, hv, -⟩ := hq; cases hv)
      intro v h' k' hq
      obtain ⟨rfl, m11, hv, rfl, hw⟩ := hq
      cases hv
      show AW _ _ _ _ _ _ _ 82 [.ref 2, .int p1, .int p2, .int p3, .int p4, .int p5, .int p6, .int (m2 2 11)] [] (lay t ex o m11) k _ _
      refine AW.aload_n (pc := 82) dX1_add_82 rfl rfl ?_
      refine AW.iload (pc := 83) dX1_add_83 rfl ?_
      refine AW.iload (pc := 85) dX1_add_85 rfl ?_
      refine AW.callV (pc := 87) (S' := []) dX1_add_87 (c_C_noteUse (d := d - 1) ht (by omega) hw) ok_X1_noteUse tw_733 ts_29 tw_731 (fix_pos (by decide)) (lay_at ht (by decide)) (show aw_cl[1]? = some _ from rfl) rfl rfl (by omega) rfl (Nat.le_of_ble_eq_true rfl) (by omega) (by omega) ?_ (fun E h' k' hq => by obtain ⟨rfl, m12, hv, -⟩ := hq; cases hv)
      intro v h' k' hq
      obtain ⟨rfl, m12, hv, rfl, hw⟩ := hq
      cases hv
      show AW _ _ _ _ _ _ _ 90 [.ref 2, .int p1, .int p2, .int p3, .int p4, .int p5, .int p6, .int (m2 2 11)] [] (lay t ex o m12) k _ _
      refine AW.aload_n (pc := 90) dX1_add_90 rfl rfl ?_
      refine AW.iload (pc := 91) dX1_add_91 rfl ?_
      refine AW.iload (pc := 93) dX1_add_93 rfl ?_
      refine AW.callV (pc := 95) (S' := []) dX1_add_95 (c_C_noteUse (d := d - 1) ht (by omega) hw) ok_X1_noteUse tw_733 ts_29 tw_731 (fix_pos (by decide)) (lay_at ht (by decide)) (show aw_cl[1]? = some _ from rfl) rfl rfl (by omega) rfl (Nat.le_of_ble_eq_true rfl) (by omega) (by omega) ?_ (fun E h' k' hq => by obtain ⟨rfl, m13, hv, -⟩ := hq; cases hv)
      intro v h' k' hq
      obtain ⟨rfl, m13, hv, rfl, hw⟩ := hq
      cases hv
      show AW _ _ _ _ _ _ _ 98 [.ref 2, .int p1, .int p2, .int p3, .int p4, .int p5, .int p6, .int (m2 2 11)] [] (lay t ex o m13) k _ _
      refine AW.aload_n (pc := 98) dX1_add_98 rfl rfl ?_
      refine LW.get (pc := 99) (f := 9) (ci := 1) (T := TX1) ht (by decide) rfl dX1_add_99 tw_468 rfl (by decide) rfl ?_
      refine AW.iload_n (pc := 102) dX1_add_102 rfl rfl ?_
      obtain ⟨hin, hw⟩ := hw
      refine LW.iald (pc := 103) (j := p2.toNatClampNeg) ht (by decide) rfl dX1_add_103 hin rfl ?_
      have hw := hw (fun m14 => AW Z mX1_add d k0 mc ms Q 115 [.ref 2, .int p1, .int p2, .int p3, .int p4, .int p5, .int p6, .int (m2 2 11)] [] (lay t ex o m14) k (cs) (ss)) (by
          intro m14 hw
          refine AW.aload_n (pc := 115) dX1_add_115 rfl rfl ?_
          refine LW.get (pc := 116) (f := 9) (ci := 1) (T := TX1) ht (by decide) rfl dX1_add_116 tw_468 rfl (by decide) rfl ?_
          refine AW.iload_n (pc := 119) dX1_add_119 rfl rfl ?_
          refine AW.dup2 (pc := 120) dX1_add_120 rfl rfl ?_
          obtain ⟨hin, hw⟩ := hw
          refine LW.iald (pc := 121) (j := p2.toNatClampNeg) ht (by decide) rfl dX1_add_121 hin rfl ?_
          refine AW.iconst (v := 1) (pc := 122) dX1_add_122 (by decide) ?_
          refine AW.iadd (pc := 123) dX1_add_123 ?_
          obtain ⟨hin, hw⟩ := hw
          have hw := hw _ rfl
          refine LW.iast (pc := 124) (j := p2.toNatClampNeg) ht (by decide) (fun _ => rfl) dX1_add_124 hin rfl ?_
          generalize up2 m14 12 (p2.toNatClampNeg) ((m14 12 (p2).toNatClampNeg) + (1 : Int32)) = m18 at hw ⊢
          refine AW.aload_n (pc := 125) dX1_add_125 rfl rfl ?_
          refine AW.dup (pc := 126) dX1_add_126 rfl ?_
          refine LW.get (pc := 127) (f := 11) (ci := 1) (T := TX1) ht (by decide) rfl dX1_add_127 tw_472 rfl (by decide) rfl ?_
          refine AW.iconst (v := 1) (pc := 130) dX1_add_130 (by decide) ?_
          refine AW.iadd (pc := 131) dX1_add_131 ?_
          have hw := hw _ rfl
          refine LW.put (pc := 132) (f := 11) (ci := 1) (T := TX1) ht (by decide) rfl sp_2_11 dX1_add_132 tw_472 rfl (by decide) (Nat.le_of_ble_eq_true rfl) rfl ⟨rfl, rfl⟩ ?_
          generalize up2 m18 2 11 ((m18 2 11) + (1 : Int32)) = m19 at hw ⊢
          refine AW.iload (pc := 135) dX1_add_135 rfl ?_
          exact AW.iret (pc := 137) dX1_add_137 rfl rfl (by omega) (by omega) (hQ _ _ hw))
      refine AW.if_ne (pc := 104) (tgt := 115) dX1_add_104 (by decide) (fun c16 => ?_) (fun c16 => ?_)
      · have hw := hw.1 c16
        exact hw
      · have hw := hw.2 c16
        refine AW.aload_n (pc := 107) dX1_add_107 rfl rfl ?_
        refine LW.get (pc := 108) (f := 10) (ci := 1) (T := TX1) ht (by decide) rfl dX1_add_108 tw_471 rfl (by decide) rfl ?_
        refine AW.iload_n (pc := 111) dX1_add_111 rfl rfl ?_
        refine AW.iload (pc := 112) dX1_add_112 rfl ?_
        obtain ⟨hin, hw⟩ := hw
        have hw := hw _ rfl
        refine LW.iast (pc := 114) (j := p2.toNatClampNeg) ht (by decide) (fun _ => rfl) dX1_add_114 hin rfl ?_
        generalize up2 m13 13 (p2.toNatClampNeg) (m2 2 11) = m17 at hw ⊢
        exact hw
    · have hw := hw.2 c4
      refine AW.iconst (v := -1) (pc := 16) dX1_add_16 (by decide) ?_
      exact AW.iret (pc := 17) dX1_add_17 rfl rfl (by omega) (by omega) (hQ _ _ hw)
set_option maxRecDepth 100000 in
set_option maxHeartbeats 4000000 in
theorem c_C_add {d k t : Nat} {ex : Hp} {o : Nat → Int64} {K : Int32 → Mem → Prop} {m : Mem} {p1 : Int32} {p2 : Int32} {p3 : Int32} {p4 : Int32} {p5 : Int32} {p6 : Int32} (ht : tok t) (hd : 4 ≤ d) (hw : w_C_add p1 p2 p3 p4 p5 p6 m K) : AM mX1_add d [.ref 2, .int p1, .int p2, .int p3, .int p4, .int p5, .int p6] (lay t ex o m) k 0 0 (fun oc h' k' => k = k' ∧ ∃ (r : Int32) (m' : Mem), oc = .inl (some (.int r)) ∧ h' = lay t ex o m' ∧ K r m') :=
  AM.intro (μ := mX1_add) (n := 1) (by decide) rfl rfl rfl (b_C_add ht hd (by omega) (by omega) (fun _ _ hK => ⟨rfl, _, _, rfl, rfl, hK⟩) p1 p2 p3 p4 p5 p6 hw)
def w_C_isFirstDrivenBy (p1 : Int32) (p2 : Int32) (m : Mem) (K : Int32 → Mem → Prop) : Prop :=
  w_C_firstLineOf p1 m (fun r2 m1 => ((r2 = (-1 : Int32) → K (0 : Int32) m1) ∧ (¬ (r2 = (-1 : Int32)) → vp_in r2 30 ∧ ((¬ ((m1 3 (r2).toNatClampNeg) = p2) → K (0 : Int32) m1) ∧ ((m1 3 (r2).toNatClampNeg) = p2 → K (1 : Int32) m1)))))
set_option maxRecDepth 100000 in
set_option maxHeartbeats 4000000 in
theorem b_C_isFirstDrivenBy {Z : Gz} {d k0 mc ms cs ss k t : Nat} {Q : Po} {ex : Hp} {o : Nat → Int64} {K : Int32 → Mem → Prop}  (ht : tok t) (hd : 4 ≤ d) (hcs : cs + 0 ≤ mc) (hss : ss + 0 ≤ ms) (hQ : ∀ (r : Int32) (m : Mem), K r m → Q (.inl (some (.int r))) (lay t ex o m) k) {m : Mem} (p1 : Int32) (p2 : Int32) (hw : w_C_isFirstDrivenBy p1 p2 m K) : AW Z mX1_isFirstDrivenBy d k0 mc ms Q 0 [.ref 2, .int p1, .int p2, .null] [] (lay t ex o m) k cs ss := by
  unfold w_C_isFirstDrivenBy at hw
  refine AW.aload_n (pc := 0) dX1_isFirstDrivenBy_0 rfl rfl ?_
  refine AW.iload_n (pc := 1) dX1_isFirstDrivenBy_1 rfl rfl ?_
  refine AW.callV (pc := 2) (S' := []) dX1_isFirstDrivenBy_2 (c_C_firstLineOf (d := d - 1) ht (by omega) hw) ok_X1_firstLineOf tw_121 tw_122 tw_168 (fix_pos (by decide)) (lay_at ht (by decide)) (show aw_cl[1]? = some _ from rfl) rfl rfl (by omega) rfl (Nat.le_of_ble_eq_true rfl) (by omega) (by omega) ?_ (fun E h' k' hq => by obtain ⟨rfl, r2, m1, hv, -⟩ := hq; cases hv)
  intro v h' k' hq
  obtain ⟨rfl, r2, m1, hv, rfl, hw⟩ := hq
  cases hv
  show AW _ _ _ _ _ _ _ 5 [.ref 2, .int p1, .int p2, .null] [.int r2] (lay t ex o m1) k _ _
  refine AW.istore_n (L' := [.ref 2, .int p1, .int p2, .int r2]) (pc := 5) dX1_isFirstDrivenBy_5 rfl (by decide) rfl rfl ?_
  refine AW.iload_n (pc := 6) dX1_isFirstDrivenBy_6 rfl rfl ?_
  refine AW.iconst (v := -1) (pc := 7) dX1_isFirstDrivenBy_7 (by decide) ?_
  refine AW.icmp_eq (pc := 8) (tgt := 25) dX1_isFirstDrivenBy_8 (by decide) (fun c3 => ?_) (fun c3 => ?_)
  · have hw := hw.1 c3
    refine AW.iconst (v := 0) (pc := 25) dX1_isFirstDrivenBy_25 (by decide) ?_
    exact AW.iret (pc := 26) dX1_isFirstDrivenBy_26 rfl (by decide) (by omega) (by omega) (hQ _ _ hw)
  · have hw := hw.2 c3
    refine AW.aload_n (pc := 11) dX1_isFirstDrivenBy_11 rfl rfl ?_
    refine LW.get (pc := 12) (f := 0) (ci := 1) (T := TX1) ht (by decide) rfl dX1_isFirstDrivenBy_12 tw_442 rfl (by decide) rfl ?_
    refine AW.iload_n (pc := 15) dX1_isFirstDrivenBy_15 rfl rfl ?_
    obtain ⟨hin, hw⟩ := hw
    refine LW.iald (pc := 16) (j := r2.toNatClampNeg) ht (by decide) rfl dX1_isFirstDrivenBy_16 hin rfl ?_
    refine AW.iload_n (pc := 17) dX1_isFirstDrivenBy_17 rfl rfl ?_
    refine AW.icmp_ne (pc := 18) (tgt := 25) dX1_isFirstDrivenBy_18 (by decide) (fun c4 => ?_) (fun c4 => ?_)
    · have hw := hw.1 c4
      refine AW.iconst (v := 0) (pc := 25) dX1_isFirstDrivenBy_25 (by decide) ?_
      exact AW.iret (pc := 26) dX1_isFirstDrivenBy_26 rfl (by decide) (by omega) (by omega) (hQ _ _ hw)
    · have hw := hw.2 c4
      refine AW.iconst (v := 1) (pc := 21) dX1_isFirstDrivenBy_21 (by decide) ?_
      refine AW.goto (pc := 22) (tgt := 26) dX1_isFirstDrivenBy_22 (by decide) ?_
      exact AW.iret (pc := 26) dX1_isFirstDrivenBy_26 rfl (by decide) (by omega) (by omega) (hQ _ _ hw)
set_option maxRecDepth 100000 in
set_option maxHeartbeats 4000000 in
theorem c_C_isFirstDrivenBy {d k t : Nat} {ex : Hp} {o : Nat → Int64} {K : Int32 → Mem → Prop} {m : Mem} {p1 : Int32} {p2 : Int32} (ht : tok t) (hd : 4 ≤ d) (hw : w_C_isFirstDrivenBy p1 p2 m K) : AM mX1_isFirstDrivenBy d [.ref 2, .int p1, .int p2] (lay t ex o m) k 0 0 (fun oc h' k' => k = k' ∧ ∃ (r : Int32) (m' : Mem), oc = .inl (some (.int r)) ∧ h' = lay t ex o m' ∧ K r m') :=
  AM.intro (μ := mX1_isFirstDrivenBy) (n := 1) (by decide) rfl rfl rfl (b_C_isFirstDrivenBy ht hd (by omega) (by omega) (fun _ _ hK => ⟨rfl, _, _, rfl, rfl, hK⟩) p1 p2 hw)
def w_C_isUsedBy (p1 : Int32) (p2 : Int32) (m : Mem) (K : Int32 → Mem → Prop) : Prop :=
  vp_in p1 24 ∧ ((((m 11 (p1).toNatClampNeg) &&& ((1 : Int32) <<< (p2 &&& 31))) = 0 → K (0 : Int32) m) ∧ (¬ (((m 11 (p1).toNatClampNeg) &&& ((1 : Int32) <<< (p2 &&& 31))) = 0) → K (1 : Int32) m))
set_option maxRecDepth 100000 in
set_option maxHeartbeats 4000000 in
theorem b_C_isUsedBy {Z : Gz} {d k0 mc ms cs ss k t : Nat} {Q : Po} {ex : Hp} {o : Nat → Int64} {K : Int32 → Mem → Prop}  (ht : tok t) (hd : 2 ≤ d) (hcs : cs + 0 ≤ mc) (hss : ss + 0 ≤ ms) (hQ : ∀ (r : Int32) (m : Mem), K r m → Q (.inl (some (.int r))) (lay t ex o m) k) {m : Mem} (p1 : Int32) (p2 : Int32) (hw : w_C_isUsedBy p1 p2 m K) : AW Z mX1_isUsedBy d k0 mc ms Q 0 [.ref 2, .int p1, .int p2] [] (lay t ex o m) k cs ss := by
  unfold w_C_isUsedBy at hw
  refine AW.aload_n (pc := 0) dX1_isUsedBy_0 rfl rfl ?_
  refine LW.get (pc := 1) (f := 8) (ci := 1) (T := TX1) ht (by decide) rfl dX1_isUsedBy_1 tw_465 rfl (by decide) rfl ?_
  refine AW.iload_n (pc := 4) dX1_isUsedBy_4 rfl rfl ?_
  obtain ⟨hin, hw⟩ := hw
  refine LW.iald (pc := 5) (j := p1.toNatClampNeg) ht (by decide) rfl dX1_isUsedBy_5 hin rfl ?_
  refine AW.iconst (v := 1) (pc := 6) dX1_isUsedBy_6 (by decide) ?_
  refine AW.iload_n (pc := 7) dX1_isUsedBy_7 rfl rfl ?_
  refine AW.ishl (pc := 8) dX1_isUsedBy_8 ?_
  refine AW.iand (pc := 9) dX1_isUsedBy_9 ?_
  refine AW.if_eq (pc := 10) (tgt := 17) dX1_isUsedBy_10 (by decide) (fun c1 => ?_) (fun c1 => ?_)
  · have hw := hw.1 c1
    refine AW.iconst (v := 0) (pc := 17) dX1_isUsedBy_17 (by decide) ?_
    exact AW.iret (pc := 18) dX1_isUsedBy_18 rfl (by decide) (by omega) (by omega) (hQ _ _ hw)
  · have hw := hw.2 c1
    refine AW.iconst (v := 1) (pc := 13) dX1_isUsedBy_13 (by decide) ?_
    refine AW.goto (pc := 14) (tgt := 18) dX1_isUsedBy_14 (by decide) ?_
    exact AW.iret (pc := 18) dX1_isUsedBy_18 rfl (by decide) (by omega) (by omega) (hQ _ _ hw)
set_option maxRecDepth 100000 in
set_option maxHeartbeats 4000000 in
theorem c_C_isUsedBy {d k t : Nat} {ex : Hp} {o : Nat → Int64} {K : Int32 → Mem → Prop} {m : Mem} {p1 : Int32} {p2 : Int32} (ht : tok t) (hd : 2 ≤ d) (hw : w_C_isUsedBy p1 p2 m K) : AM mX1_isUsedBy d [.ref 2, .int p1, .int p2] (lay t ex o m) k 0 0 (fun oc h' k' => k = k' ∧ ∃ (r : Int32) (m' : Mem), oc = .inl (some (.int r)) ∧ h' = lay t ex o m' ∧ K r m') :=
  AM.intro (μ := mX1_isUsedBy) (n := 0) (by decide) rfl rfl rfl (b_C_isUsedBy ht hd (by omega) (by omega) (fun _ _ hK => ⟨rfl, _, _, rfl, rfl, hK⟩) p1 p2 hw)
def w_C_pinsOf (p1 : Int32) (m : Mem) (K : Int32 → Mem → Prop) : Prop :=
  vp_in p1 30 ∧ vp_in p1 30 ∧ vp_in p1 30 ∧ K ((((1 : Int32) <<< ((m 5 (p1).toNatClampNeg) &&& 31)) ||| ((1 : Int32) <<< ((m 6 (p1).toNatClampNeg) &&& 31))) ||| ((1 : Int32) <<< ((m 7 (p1).toNatClampNeg) &&& 31))) m
set_option maxRecDepth 100000 in
set_option maxHeartbeats 4000000 in
theorem b_C_pinsOf {Z : Gz} {d k0 mc ms cs ss k t : Nat} {Q : Po} {ex : Hp} {o : Nat → Int64} {K : Int32 → Mem → Prop}  (ht : tok t) (hd : 2 ≤ d) (hcs : cs + 0 ≤ mc) (hss : ss + 0 ≤ ms) (hQ : ∀ (r : Int32) (m : Mem), K r m → Q (.inl (some (.int r))) (lay t ex o m) k) {m : Mem} (p1 : Int32) (hw : w_C_pinsOf p1 m K) : AW Z mX1_pinsOf d k0 mc ms Q 0 [.ref 2, .int p1] [] (lay t ex o m) k cs ss := by
  unfold w_C_pinsOf at hw
  refine AW.iconst (v := 1) (pc := 0) dX1_pinsOf_0 (by decide) ?_
  refine AW.aload_n (pc := 1) dX1_pinsOf_1 rfl rfl ?_
  refine LW.get (pc := 2) (f := 2) (ci := 1) (T := TX1) ht (by decide) rfl dX1_pinsOf_2 tw_449 rfl (by decide) rfl ?_
  refine AW.iload_n (pc := 5) dX1_pinsOf_5 rfl rfl ?_
  obtain ⟨hin, hw⟩ := hw
  refine LW.iald (pc := 6) (j := p1.toNatClampNeg) ht (by decide) rfl dX1_pinsOf_6 hin rfl ?_
  refine AW.ishl (pc := 7) dX1_pinsOf_7 ?_
  refine AW.iconst (v := 1) (pc := 8) dX1_pinsOf_8 (by decide) ?_
  refine AW.aload_n (pc := 9) dX1_pinsOf_9 rfl rfl ?_
  refine LW.get (pc := 10) (f := 3) (ci := 1) (T := TX1) ht (by decide) rfl dX1_pinsOf_10 tw_452 rfl (by decide) rfl ?_
  refine AW.iload_n (pc := 13) dX1_pinsOf_13 rfl rfl ?_
  obtain ⟨hin, hw⟩ := hw
  refine LW.iald (pc := 14) (j := p1.toNatClampNeg) ht (by decide) rfl dX1_pinsOf_14 hin rfl ?_
  refine AW.ishl (pc := 15) dX1_pinsOf_15 ?_
  refine AW.ior (pc := 16) dX1_pinsOf_16 ?_
  refine AW.iconst (v := 1) (pc := 17) dX1_pinsOf_17 (by decide) ?_
  refine AW.aload_n (pc := 18) dX1_pinsOf_18 rfl rfl ?_
  refine LW.get (pc := 19) (f := 4) (ci := 1) (T := TX1) ht (by decide) rfl dX1_pinsOf_19 tw_455 rfl (by decide) rfl ?_
  refine AW.iload_n (pc := 22) dX1_pinsOf_22 rfl rfl ?_
  obtain ⟨hin, hw⟩ := hw
  refine LW.iald (pc := 23) (j := p1.toNatClampNeg) ht (by decide) rfl dX1_pinsOf_23 hin rfl ?_
  refine AW.ishl (pc := 24) dX1_pinsOf_24 ?_
  refine AW.ior (pc := 25) dX1_pinsOf_25 ?_
  exact AW.iret (pc := 26) dX1_pinsOf_26 rfl rfl (by omega) (by omega) (hQ _ _ hw)
set_option maxRecDepth 100000 in
set_option maxHeartbeats 4000000 in
theorem c_C_pinsOf {d k t : Nat} {ex : Hp} {o : Nat → Int64} {K : Int32 → Mem → Prop} {m : Mem} {p1 : Int32} (ht : tok t) (hd : 2 ≤ d) (hw : w_C_pinsOf p1 m K) : AM mX1_pinsOf d [.ref 2, .int p1] (lay t ex o m) k 0 0 (fun oc h' k' => k = k' ∧ ∃ (r : Int32) (m' : Mem), oc = .inl (some (.int r)) ∧ h' = lay t ex o m' ∧ K r m') :=
  AM.intro (μ := mX1_pinsOf) (n := 0) (by decide) rfl rfl rfl (b_C_pinsOf ht hd (by omega) (by omega) (fun _ _ hK => ⟨rfl, _, _, rfl, rfl, hK⟩) p1 hw)
def w_N_isWithin (p0 : Int32) (p1 : Int32) (m : Mem) (K : Int32 → Mem → Prop) : Prop :=
  ((p0 < 0 → K (0 : Int32) m) ∧ (¬ (p0 < 0) → ((p1 < p0 → K (0 : Int32) m) ∧ (¬ (p1 < p0) → K (1 : Int32) m))))
set_option maxRecDepth 100000 in
set_option maxHeartbeats 4000000 in
theorem b_N_isWithin {Z : Gz} {d k0 mc ms cs ss k t : Nat} {Q : Po} {ex : Hp} {o : Nat → Int64} {K : Int32 → Mem → Prop}  (ht : tok t) (hd : 2 ≤ d) (hcs : cs + 0 ≤ mc) (hss : ss + 0 ≤ ms) (hQ : ∀ (r : Int32) (m : Mem), K r m → Q (.inl (some (.int r))) (lay t ex o m) k) {m : Mem} (p0 : Int32) (p1 : Int32) (hw : w_N_isWithin p0 p1 m K) : AW Z mX4_isWithin d k0 mc ms Q 0 [.int p0, .int p1] [] (lay t ex o m) k cs ss := by
  unfold w_N_isWithin at hw
  refine AW.iload_n (pc := 0) dX4_isWithin_0 rfl rfl ?_
  refine AW.if_lt (pc := 1) (tgt := 13) dX4_isWithin_1 (by decide) (fun c1 => ?_) (fun c1 => ?_)
  · have hw := hw.1 c1
    refine AW.iconst (v := 0) (pc := 13) dX4_isWithin_13 (by decide) ?_
    exact AW.iret (pc := 14) dX4_isWithin_14 rfl (by decide) (by omega) (by omega) (hQ _ _ hw)
  · have hw := hw.2 c1
    refine AW.iload_n (pc := 4) dX4_isWithin_4 rfl rfl ?_
    refine AW.iload_n (pc := 5) dX4_isWithin_5 rfl rfl ?_
    refine AW.icmp_gt (pc := 6) (tgt := 13) dX4_isWithin_6 (by decide) (fun c2 => ?_) (fun c2 => ?_)
    · have hw := hw.1 c2
      refine AW.iconst (v := 0) (pc := 13) dX4_isWithin_13 (by decide) ?_
      exact AW.iret (pc := 14) dX4_isWithin_14 rfl (by decide) (by omega) (by omega) (hQ _ _ hw)
    · have hw := hw.2 c2
      refine AW.iconst (v := 1) (pc := 9) dX4_isWithin_9 (by decide) ?_
      refine AW.goto (pc := 10) (tgt := 14) dX4_isWithin_10 (by decide) ?_
      exact AW.iret (pc := 14) dX4_isWithin_14 rfl (by decide) (by omega) (by omega) (hQ _ _ hw)
set_option maxRecDepth 100000 in
set_option maxHeartbeats 4000000 in
theorem c_N_isWithin {d k t : Nat} {ex : Hp} {o : Nat → Int64} {K : Int32 → Mem → Prop} {m : Mem} {p0 : Int32} {p1 : Int32} (ht : tok t) (hd : 2 ≤ d) (hw : w_N_isWithin p0 p1 m K) : AM mX4_isWithin d [.int p0, .int p1] (lay t ex o m) k 0 0 (fun oc h' k' => k = k' ∧ ∃ (r : Int32) (m' : Mem), oc = .inl (some (.int r)) ∧ h' = lay t ex o m' ∧ K r m') :=
  AM.intro (μ := mX4_isWithin) (n := 0) (by decide) rfl rfl rfl (b_N_isWithin ht hd (by omega) (by omega) (fun _ _ hK => ⟨rfl, _, _, rfl, rfl, hK⟩) p0 p1 hw)
