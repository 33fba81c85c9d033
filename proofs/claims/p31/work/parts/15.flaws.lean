/-! printed by wip/tools/gen.py: X2_findReach, X2_note, X2_reachOf, X2_find -/
abbrev mX2_findReach : Mt := (yX2_findReach, cX2_findReach, 4, none, [])
set_option maxRecDepth 20000 in
theorem ok_X2_findReach : aw_mok mX2_findReach 1 := ⟨rfl, tw_746, tw_5, ⟨by decide, by decide⟩, by decide +kernel, by decide⟩
abbrev mX2_note : Mt := (yX2_note, cX2_note, 3, none, [])
set_option maxRecDepth 20000 in
theorem ok_X2_note : aw_mok mX2_note 2 := ⟨rfl, tw_742, tw_5, ⟨by decide, by decide⟩, by decide +kernel, by decide⟩
abbrev mX2_reachOf : Mt := (yX2_reachOf, cX2_reachOf, 2, (some .int), [])
set_option maxRecDepth 20000 in
theorem ok_X2_reachOf : aw_mok mX2_reachOf 1 := ⟨rfl, tw_752, tw_5, ⟨by decide, by decide⟩, by decide +kernel, by decide⟩
abbrev mX2_find : Mt := (yX2_find, cX2_find, 3, none, [])
set_option maxRecDepth 20000 in
theorem ok_X2_find : aw_mok mX2_find 1 := ⟨rfl, tw_738, tw_5, ⟨by decide, by decide⟩, by decide +kernel, by decide⟩
def w_F_findReach_19 : Nat → Int32 → Int32 → Mem → (Int32 → Int32 → Mem → Prop) → (Mem → Prop) → Prop
  | 0, _, _, _, _, _ => False
  | n + 1, x2, x3, m, E67, K => (((m 2 11) ≤ x3 → E67 x2 x3 m) ∧ (¬ ((m 2 11) ≤ x3) → w_C_isGate x3 m (fun r5 m4 => ((r5 = 0 → w_F_findReach_19 n x2 (x3 + 1) m4 E67 K) ∧ (¬ (r5 = 0) → w_C_isUsedBy x2 x3 m4 (fun r8 m7 => ((r8 = 0 → w_F_findReach_19 n x2 (x3 + 1) m7 E67 K) ∧ (¬ (r8 = 0) → vp_in x2 24 ∧ vp_in x3 30 ∧ vp_in x2 24 ∧ ∀ m10 : Mem, m10 = up2 m7 18 (x2.toNatClampNeg) ((m7 18 (x2).toNatClampNeg) ||| ((1 : Int32) <<< ((m7 4 (x3).toNatClampNeg) &&& 31))) → w_F_findReach_19 n x2 (x3 + 1) m10 E67 K))))))))
def w_F_findReach_2 : Nat → Int32 → Mem → (Int32 → Mem → Prop) → (Mem → Prop) → Prop
  | 0, _, _, _, _ => False
  | n + 1, x2, m, E73, K => (((24 : Int32) ≤ x2 → E73 x2 m) ∧ (¬ ((24 : Int32) ≤ x2) → vp_in x2 24 ∧ ∀ m2 : Mem, m2 = up2 m 18 (x2.toNatClampNeg) ((1 : Int32) <<< (x2 &&& 31)) → w_F_findReach_19 31 x2 (0 : Int32) m2 (fun y11 y12 m13 => w_F_findReach_2 n (y11 + 1) m13 E73 K) K))
def w_F_findReach_83 : Nat → Int32 → Int32 → Mem → (Int32 → Int32 → Mem → Prop) → (Mem → Prop) → Prop
  | 0, _, _, _, _, _ => False
  | n + 1, x2, x3, m, E123, K => (((24 : Int32) ≤ x3 → E123 x2 x3 m) ∧ (¬ ((24 : Int32) ≤ x3) → vp_in x3 24 ∧ ((((m 18 (x3).toNatClampNeg) &&& ((1 : Int32) <<< (x2 &&& 31))) = 0 → w_F_findReach_83 n x2 (x3 + 1) m E123 K) ∧ (¬ (((m 18 (x3).toNatClampNeg) &&& ((1 : Int32) <<< (x2 &&& 31))) = 0) → vp_in x3 24 ∧ vp_in x2 24 ∧ vp_in x3 24 ∧ ∀ m19 : Mem, m19 = up2 m 18 (x3.toNatClampNeg) ((m 18 (x3).toNatClampNeg) ||| (m 18 (x2).toNatClampNeg)) → w_F_findReach_83 n x2 (x3 + 1) m19 E123 K))))
def w_F_findReach_75 : Nat → Int32 → Mem → (Int32 → Mem → Prop) → (Mem → Prop) → Prop
  | 0, _, _, _, _ => False
  | n + 1, x2, m, E129, K => (((24 : Int32) ≤ x2 → E129 x2 m) ∧ (¬ ((24 : Int32) ≤ x2) → w_F_findReach_83 25 x2 (0 : Int32) m (fun y20 y21 m22 => w_F_findReach_75 n (y20 + 1) m22 E129 K) K))
def w_F_findReach (m : Mem) (K : Mem → Prop) : Prop :=
  w_F_findReach_2 25 (0 : Int32) m (fun y14 m15 => w_F_findReach_75 25 (0 : Int32) m15 (fun y23 m24 => K m24) K) K
set_option maxRecDepth 100000 in
set_option maxHeartbeats 4000000 in
theorem l_F_findReach_19 {Z : Gz} {d k0 mc ms cs ss k t : Nat} {Q : Po} {ex : Hp} {o : Nat → Int64} {K : Mem → Prop}  (ht : tok t) (hd : 3 ≤ d) (hcs : cs ≤ mc) (hss : ss ≤ ms) (hQ : ∀ (m : Mem), K m → Q (.inl none) (lay t ex o m) k) {E67 : Int32 → Int32 → Mem → Prop} (hE67 : ∀ (x2 : Int32) (x3 : Int32) (m : Mem), E67 x2 x3 m → AW Z mX2_findReach d k0 mc ms Q 67 [.ref 14, .ref 2, .int x2, .int x3] [] (lay t ex o m) k cs ss) : ∀ (n : Nat) (x2 : Int32) (x3 : Int32) (m : Mem),  w_F_findReach_19 n x2 x3 m E67 K → AW Z mX2_findReach d k0 mc ms Q 19 [.ref 14, .ref 2, .int x2, .int x3] [] (lay t ex o m) k cs ss := by
  intro n
  induction n with
  | zero =>
    intros; rename_i hw; exact absurd hw (by simp [w_F_findReach_19])
  | succ n ih =>
    intro x2 x3 m hw
    unfold w_F_findReach_19 at hw
    refine AW.iload_n (pc := 19) dX2_findReach_19 rfl rfl ?_
    refine AW.aload_n (pc := 20) dX2_findReach_20 rfl rfl ?_
    refine LW.getN (pc := 21) (f := 11) (ci := 1) (T := TX1) ht (by decide) rfl dX2_findReach_21 tw_473 rfl (by decide) rfl ?_
    refine AW.icmp_ge (pc := 24) (tgt := 67) dX2_findReach_24 (by decide) (fun c3 => ?_) (fun c3 => ?_)
    · have hw := hw.1 c3
      exact hE67 x2 x3 m hw
    · have hw := hw.2 c3
      refine AW.aload_n (pc := 27) dX2_findReach_27 rfl rfl ?_
      refine AW.iload_n (pc := 28) dX2_findReach_28 rfl rfl ?_
      refine AW.callV (pc := 29) (S' := []) dX2_findReach_29 (c_C_isGate (d := d - 1) ht (by omega) hw) ok_X1_isGate tw_126 tw_127 tw_747 (fix_pos (by decide)) (lay_at ht (by decide)) (show aw_cl[1]? = some _ from rfl) rfl rfl (by omega) rfl (Nat.le_of_ble_eq_true rfl) (by omega) (by omega) ?_ (fun E h' k' hq => by obtain ⟨rfl, r5, m4, hv, -⟩ := hq; cases hv)
      intro v h' k' hq
      obtain ⟨rfl, r5, m4, hv, rfl, hw⟩ := hq
      cases hv
      show AW _ _ _ _ _ _ _ 32 [.ref 14, .ref 2, .int x2, .int x3] [.int r5] (lay t ex o m4) k _ _
      refine AW.if_eq (pc := 32) (tgt := 61) dX2_findReach_32 (by decide) (fun c6 => ?_) (fun c6 => ?_)
      · have hw := hw.1 c6
        refine AW.iinc (v := (x3 + 1)) (L' := [.ref 14, .ref 2, .int x2, .int (x3 + 1)]) (pc := 61) dX2_findReach_61 rfl rfl (by decide) rfl rfl ?_
        refine AW.goto (pc := 64) (tgt := 19) dX2_findReach_64 (by decide) ?_
        exact ih x2 (x3 + 1) m4 hw
      · have hw := hw.2 c6
        refine AW.aload_n (pc := 35) dX2_findReach_35 rfl rfl ?_
        refine AW.iload_n (pc := 36) dX2_findReach_36 rfl rfl ?_
        refine AW.iload_n (pc := 37) dX2_findReach_37 rfl rfl ?_
        refine AW.callV (pc := 38) (S' := []) dX2_findReach_38 (c_C_isUsedBy (d := d - 1) ht (by omega) hw) ok_X1_isUsedBy tw_207 tw_208 tw_748 (fix_pos (by decide)) (lay_at ht (by decide)) (show aw_cl[1]? = some _ from rfl) rfl rfl (by omega) rfl (Nat.le_of_ble_eq_true rfl) (by omega) (by omega) ?_ (fun E h' k' hq => by obtain ⟨rfl, r8, m7, hv, -⟩ := hq; cases hv)
        intro v h' k' hq
        obtain ⟨rfl, r8, m7, hv, rfl, hw⟩ := hq
        cases hv
        show AW _ _ _ _ _ _ _ 41 [.ref 14, .ref 2, .int x2, .int x3] [.int r8] (lay t ex o m7) k _ _
        refine AW.if_eq (pc := 41) (tgt := 61) dX2_findReach_41 (by decide) (fun c9 => ?_) (fun c9 => ?_)
        · have hw := hw.1 c9
          refine AW.iinc (v := (x3 + 1)) (L' := [.ref 14, .ref 2, .int x2, .int (x3 + 1)]) (pc := 61) dX2_findReach_61 rfl rfl (by decide) rfl rfl ?_
          refine AW.goto (pc := 64) (tgt := 19) dX2_findReach_64 (by decide) ?_
          exact ih x2 (x3 + 1) m7 hw
        · have hw := hw.2 c9
          refine AW.aload_n (pc := 44) dX2_findReach_44 rfl rfl ?_
          refine LW.get (pc := 45) (f := 3) (ci := 2) (T := TX2) ht (by decide) rfl dX2_findReach_45 tw_514 rfl (by decide) rfl ?_
          refine AW.iload_n (pc := 48) dX2_findReach_48 rfl rfl ?_
          refine AW.dup2 (pc := 49) dX2_findReach_49 rfl rfl ?_
          obtain ⟨hin, hw⟩ := hw
          refine LW.iald (pc := 50) (j := x2.toNatClampNeg) ht (by decide) rfl dX2_findReach_50 hin rfl ?_
          refine AW.iconst (v := 1) (pc := 51) dX2_findReach_51 (by decide) ?_
          refine AW.aload_n (pc := 52) dX2_findReach_52 rfl rfl ?_
          refine LW.getN (pc := 53) (f := 1) (ci := 1) (T := TX1) ht (by decide) rfl dX2_findReach_53 tw_447 rfl (by decide) rfl ?_
          refine AW.iload_n (pc := 56) dX2_findReach_56 rfl rfl ?_
          obtain ⟨hin, hw⟩ := hw
          refine LW.iald (pc := 57) (j := x3.toNatClampNeg) ht (by decide) rfl dX2_findReach_57 hin rfl ?_
          refine AW.ishl (pc := 58) dX2_findReach_58 ?_
          refine AW.ior (pc := 59) dX2_findReach_59 ?_
          obtain ⟨hin, hw⟩ := hw
          have hw := hw _ rfl
          refine LW.iast (pc := 60) (j := x2.toNatClampNeg) ht (by decide) (fun _ => rfl) dX2_findReach_60 hin rfl ?_
          generalize up2 m7 18 (x2.toNatClampNeg) ((m7 18 (x2).toNatClampNeg) ||| ((1 : Int32) <<< ((m7 4 (x3).toNatClampNeg) &&& 31))) = m10 at hw ⊢
          refine AW.iinc (v := (x3 + 1)) (L' := [.ref 14, .ref 2, .int x2, .int (x3 + 1)]) (pc := 61) dX2_findReach_61 rfl rfl (by decide) rfl rfl ?_
          refine AW.goto (pc := 64) (tgt := 19) dX2_findReach_64 (by decide) ?_
          exact ih x2 (x3 + 1) m10 hw
set_option maxRecDepth 100000 in
set_option maxHeartbeats 4000000 in
theorem l_F_findReach_2 {Z : Gz} {d k0 mc ms cs ss k t : Nat} {Q : Po} {ex : Hp} {o : Nat → Int64} {K : Mem → Prop}  (ht : tok t) (hd : 3 ≤ d) (hcs : cs ≤ mc) (hss : ss ≤ ms) (hQ : ∀ (m : Mem), K m → Q (.inl none) (lay t ex o m) k) {E73 : Int32 → Mem → Prop} (hE73 : ∀ (x2 : Int32) (m : Mem), E73 x2 m → AW Z mX2_findReach d k0 mc ms Q 73 [.ref 14, .ref 2, .int x2, .null] [] (lay t ex o m) k cs ss) : ∀ (n : Nat) (x2 : Int32) (m : Mem),  w_F_findReach_2 n x2 m E73 K → AW Z mX2_findReach d k0 mc ms Q 2 [.ref 14, .ref 2, .int x2, .null] [] (lay t ex o m) k cs ss := by
  intro n
  induction n with
  | zero =>
    intros; rename_i hw; exact absurd hw (by simp [w_F_findReach_2])
  | succ n ih =>
    intro x2 m hw
    unfold w_F_findReach_2 at hw
    refine AW.iload_n (pc := 2) dX2_findReach_2 rfl rfl ?_
    refine AW.bipush (v := 24) (pc := 3) dX2_findReach_3 (by decide) ?_
    refine AW.icmp_ge (pc := 5) (tgt := 73) dX2_findReach_5 (by decide) (fun c1 => ?_) (fun c1 => ?_)
    · have hw := hw.1 c1
      exact hE73 x2 m hw
    · have hw := hw.2 c1
      refine AW.aload_n (pc := 8) dX2_findReach_8 rfl rfl ?_
      refine LW.get (pc := 9) (f := 3) (ci := 2) (T := TX2) ht (by decide) rfl dX2_findReach_9 tw_514 rfl (by decide) rfl ?_
      refine AW.iload_n (pc := 12) dX2_findReach_12 rfl rfl ?_
      refine AW.iconst (v := 1) (pc := 13) dX2_findReach_13 (by decide) ?_
      refine AW.iload_n (pc := 14) dX2_findReach_14 rfl rfl ?_
      refine AW.ishl (pc := 15) dX2_findReach_15 ?_
      obtain ⟨hin, hw⟩ := hw
      have hw := hw _ rfl
      refine LW.iast (pc := 16) (j := x2.toNatClampNeg) ht (by decide) (fun _ => rfl) dX2_findReach_16 hin rfl ?_
      generalize up2 m 18 (x2.toNatClampNeg) ((1 : Int32) <<< (x2 &&& 31)) = m2 at hw ⊢
      refine AW.iconst (v := 0) (pc := 17) dX2_findReach_17 (by decide) ?_
      refine AW.istore_n (L' := [.ref 14, .ref 2, .int x2, .int (0 : Int32)]) (pc := 18) dX2_findReach_18 rfl (by decide) rfl rfl ?_
      refine l_F_findReach_19 ht hd (by omega) (by omega) hQ ?_ 31 x2 (0 : Int32) m2 hw
      intro y11 y12 m13 hw
      refine AW.iinc (v := (y11 + 1)) (L' := [.ref 14, .ref 2, .int (y11 + 1), .int y12]) (pc := 67) dX2_findReach_67 rfl rfl (by decide) rfl rfl ?_
      refine AW.goto (pc := 70) (tgt := 2) dX2_findReach_70 (by decide) ?_
      refine AW.locals (L' := [.ref 14, .ref 2, .int (y11 + 1), .null]) (aw_fewer_same (aw_fewer_same (aw_fewer_same (aw_fewer_null aw_fewer_nil)))) ?_
      exact ih (y11 + 1) m13 hw
set_option maxRecDepth 100000 in
set_option maxHeartbeats 4000000 in
theorem l_F_findReach_83 {Z : Gz} {d k0 mc ms cs ss k t : Nat} {Q : Po} {ex : Hp} {o : Nat → Int64} {K : Mem → Prop}  (ht : tok t) (hd : 3 ≤ d) (hcs : cs ≤ mc) (hss : ss ≤ ms) (hQ : ∀ (m : Mem), K m → Q (.inl none) (lay t ex o m) k) {E123 : Int32 → Int32 → Mem → Prop} (hE123 : ∀ (x2 : Int32) (x3 : Int32) (m : Mem), E123 x2 x3 m → AW Z mX2_findReach d k0 mc ms Q 123 [.ref 14, .ref 2, .int x2, .int x3] [] (lay t ex o m) k cs ss) : ∀ (n : Nat) (x2 : Int32) (x3 : Int32) (m : Mem),  w_F_findReach_83 n x2 x3 m E123 K → AW Z mX2_findReach d k0 mc ms Q 83 [.ref 14, .ref 2, .int x2, .int x3] [] (lay t ex o m) k cs ss := by
  intro n
  induction n with
  | zero =>
    intros; rename_i hw; exact absurd hw (by simp [w_F_findReach_83])
  | succ n ih =>
    intro x2 x3 m hw
    unfold w_F_findReach_83 at hw
    refine AW.iload_n (pc := 83) dX2_findReach_83 rfl rfl ?_
    refine AW.bipush (v := 24) (pc := 84) dX2_findReach_84 (by decide) ?_
    refine AW.icmp_ge (pc := 86) (tgt := 123) dX2_findReach_86 (by decide) (fun c17 => ?_) (fun c17 => ?_)
    · have hw := hw.1 c17
      exact hE123 x2 x3 m hw
    · have hw := hw.2 c17
      refine AW.aload_n (pc := 89) dX2_findReach_89 rfl rfl ?_
      refine LW.get (pc := 90) (f := 3) (ci := 2) (T := TX2) ht (by decide) rfl dX2_findReach_90 tw_514 rfl (by decide) rfl ?_
      refine AW.iload_n (pc := 93) dX2_findReach_93 rfl rfl ?_
      obtain ⟨hin, hw⟩ := hw
      refine LW.iald (pc := 94) (j := x3.toNatClampNeg) ht (by decide) rfl dX2_findReach_94 hin rfl ?_
      refine AW.iconst (v := 1) (pc := 95) dX2_findReach_95 (by decide) ?_
      refine AW.iload_n (pc := 96) dX2_findReach_96 rfl rfl ?_
      refine AW.ishl (pc := 97) dX2_findReach_97 ?_
      refine AW.iand (pc := 98) dX2_findReach_98 ?_
      refine AW.if_eq (pc := 99) (tgt := 117) dX2_findReach_99 (by decide) (fun c18 => ?_) (fun c18 => ?_)
      · have hw := hw.1 c18
        refine AW.iinc (v := (x3 + 1)) (L' := [.ref 14, .ref 2, .int x2, .int (x3 + 1)]) (pc := 117) dX2_findReach_117 rfl rfl (by decide) rfl rfl ?_
        refine AW.goto (pc := 120) (tgt := 83) dX2_findReach_120 (by decide) ?_
        exact ih x2 (x3 + 1) m hw
      · have hw := hw.2 c18
        refine AW.aload_n (pc := 102) dX2_findReach_102 rfl rfl ?_
        refine LW.get (pc := 103) (f := 3) (ci := 2) (T := TX2) ht (by decide) rfl dX2_findReach_103 tw_514 rfl (by decide) rfl ?_
        refine AW.iload_n (pc := 106) dX2_findReach_106 rfl rfl ?_
        refine AW.dup2 (pc := 107) dX2_findReach_107 rfl rfl ?_
        obtain ⟨hin, hw⟩ := hw
        refine LW.iald (pc := 108) (j := x3.toNatClampNeg) ht (by decide) rfl dX2_findReach_108 hin rfl ?_
        refine AW.aload_n (pc := 109) dX2_findReach_109 rfl rfl ?_
        refine LW.get (pc := 110) (f := 3) (ci := 2) (T := TX2) ht (by decide) rfl dX2_findReach_110 tw_514 rfl (by decide) rfl ?_
        refine AW.iload_n (pc := 113) dX2_findReach_113 rfl rfl ?_
        obtain ⟨hin, hw⟩ := hw
        refine LW.iald (pc := 114) (j := x2.toNatClampNeg) ht (by decide) rfl dX2_findReach_114 hin rfl ?_
        refine AW.ior (pc := 115) dX2_findReach_115 ?_
        obtain ⟨hin, hw⟩ := hw
        have hw := hw _ rfl
        refine LW.iast (pc := 116) (j := x3.toNatClampNeg) ht (by decide) (fun _ => rfl) dX2_findReach_116 hin rfl ?_
        generalize up2 m 18 (x3.toNatClampNeg) ((m 18 (x3).toNatClampNeg) ||| (m 18 (x2).toNatClampNeg)) = m19 at hw ⊢
        refine AW.iinc (v := (x3 + 1)) (L' := [.ref 14, .ref 2, .int x2, .int (x3 + 1)]) (pc := 117) dX2_findReach_117 rfl rfl (by decide) rfl rfl ?_
        refine AW.goto (pc := 120) (tgt := 83) dX2_findReach_120 (by decide) ?_
        exact ih x2 (x3 + 1) m19 hw
set_option maxRecDepth 100000 in
set_option maxHeartbeats 4000000 in
theorem l_F_findReach_75 {Z : Gz} {d k0 mc ms cs ss k t : Nat} {Q : Po} {ex : Hp} {o : Nat → Int64} {K : Mem → Prop}  (ht : tok t) (hd : 3 ≤ d) (hcs : cs ≤ mc) (hss : ss ≤ ms) (hQ : ∀ (m : Mem), K m → Q (.inl none) (lay t ex o m) k) {E129 : Int32 → Mem → Prop} (hE129 : ∀ (x2 : Int32) (m : Mem), E129 x2 m → AW Z mX2_findReach d k0 mc ms Q 129 [.ref 14, .ref 2, .int x2, .null] [] (lay t ex o m) k cs ss) : ∀ (n : Nat) (x2 : Int32) (m : Mem),  w_F_findReach_75 n x2 m E129 K → AW Z mX2_findReach d k0 mc ms Q 75 [.ref 14, .ref 2, .int x2, .null] [] (lay t ex o m) k cs ss := by
  intro n
  induction n with
  | zero =>
    intros; rename_i hw; exact absurd hw (by simp [w_F_findReach_75])
  | succ n ih =>
    intro x2 m hw
    unfold w_F_findReach_75 at hw
    refine AW.iload_n (pc := 75) dX2_findReach_75 rfl rfl ?_
    refine AW.bipush (v := 24) (pc := 76) dX2_findReach_76 (by decide) ?_
    refine AW.icmp_ge (pc := 78) (tgt := 129) dX2_findReach_78 (by decide) (fun c16 => ?_) (fun c16 => ?_)
    · have hw := hw.1 c16
      exact hE129 x2 m hw
    · have hw := hw.2 c16
      refine AW.iconst (v := 0) (pc := 81) dX2_findReach_81 (by decide) ?_
      refine AW.istore_n (L' := [.ref 14, .ref 2, .int x2, .int (0 : Int32)]) (pc := 82) dX2_findReach_82 rfl (by decide) rfl rfl ?_
      refine l_F_findReach_83 ht hd (by omega) (by omega) hQ ?_ 25 x2 (0 : Int32) m hw
      intro y20 y21 m22 hw
      refine AW.iinc (v := (y20 + 1)) (L' := [.ref 14, .ref 2, .int (y20 + 1), .int y21]) (pc := 123) dX2_findReach_123 rfl rfl (by decide) rfl rfl ?_
      refine AW.goto (pc := 126) (tgt := 75) dX2_findReach_126 (by decide) ?_
      refine AW.locals (L' := [.ref 14, .ref 2, .int (y20 + 1), .null]) (aw_fewer_same (aw_fewer_same (aw_fewer_same (aw_fewer_null aw_fewer_nil)))) ?_
      exact ih (y20 + 1) m22 hw
set_option maxRecDepth 100000 in
set_option maxHeartbeats 4000000 in
theorem b_F_findReach {Z : Gz} {d k0 mc ms cs ss k t : Nat} {Q : Po} {ex : Hp} {o : Nat → Int64} {K : Mem → Prop}  (ht : tok t) (hd : 3 ≤ d) (hcs : cs + 0 ≤ mc) (hss : ss + 0 ≤ ms) (hQ : ∀ (m : Mem), K m → Q (.inl none) (lay t ex o m) k) {m : Mem}  (hw : w_F_findReach  m K) : AW Z mX2_findReach d k0 mc ms Q 0 [.ref 14, .ref 2, .null, .null] [] (lay t ex o m) k cs ss := by
  unfold w_F_findReach at hw
  refine AW.iconst (v := 0) (pc := 0) dX2_findReach_0 (by decide) ?_
  refine AW.istore_n (L' := [.ref 14, .ref 2, .int (0 : Int32), .null]) (pc := 1) dX2_findReach_1 rfl (by decide) rfl rfl ?_
  refine l_F_findReach_2 ht hd (by omega) (by omega) hQ ?_ 25 (0 : Int32) m hw
  intro y14 m15 hw
  refine AW.iconst (v := 0) (pc := 73) dX2_findReach_73 (by decide) ?_
  refine AW.istore_n (L' := [.ref 14, .ref 2, .int (0 : Int32), .null]) (pc := 74) dX2_findReach_74 rfl (by decide) rfl rfl ?_
  refine l_F_findReach_75 ht hd (by omega) (by omega) hQ ?_ 25 (0 : Int32) m15 hw
  intro y23 m24 hw
  exact AW.vret (pc := 129) dX2_findReach_129 rfl (by omega) (by omega) (hQ _ hw)
set_option maxRecDepth 100000 in
set_option maxHeartbeats 4000000 in
theorem c_F_findReach {d k t : Nat} {ex : Hp} {o : Nat → Int64} {K : Mem → Prop} {m : Mem}  (ht : tok t) (hd : 3 ≤ d) (hw : w_F_findReach  m K) : AM mX2_findReach d [.ref 14, .ref 2] (lay t ex o m) k 0 0 (fun oc h' k' => k = k' ∧ ∃ (m' : Mem), oc = .inl none ∧ h' = lay t ex o m' ∧ K m') :=
  AM.intro (μ := mX2_findReach) (n := 2) (by decide) rfl rfl rfl (b_F_findReach ht hd (by omega) (by omega) (fun _ hK => ⟨rfl, _, rfl, rfl, hK⟩)  hw)
def w_F_note (p1 : Int32) (p2 : Int32) (m : Mem) (K : Mem → Prop) : Prop :=
  (((54 : Int32) ≤ (m 14 4) → K m) ∧ (¬ ((54 : Int32) ≤ (m 14 4)) → vp_in (m 14 4) 54 ∧ ∀ m2 : Mem, m2 = up2 m 15 ((m 14 4).toNatClampNeg) p1 → vp_in (m2 14 4) 54 ∧ ∀ m3 : Mem, m3 = up2 m2 16 ((m2 14 4).toNatClampNeg) p2 → ∀ m4 : Mem, m4 = up2 m3 14 4 ((m3 14 4) + (1 : Int32)) → K m4))
set_option maxRecDepth 100000 in
set_option maxHeartbeats 4000000 in
theorem b_F_note {Z : Gz} {d k0 mc ms cs ss k t : Nat} {Q : Po} {ex : Hp} {o : Nat → Int64} {K : Mem → Prop}  (ht : tok t) (hd : 2 ≤ d) (hcs : cs + 0 ≤ mc) (hss : ss + 0 ≤ ms) (hQ : ∀ (m : Mem), K m → Q (.inl none) (lay t ex o m) k) {m : Mem} (p1 : Int32) (p2 : Int32) (hw : w_F_note p1 p2 m K) : AW Z mX2_note d k0 mc ms Q 0 [.ref 14, .int p1, .int p2] [] (lay t ex o m) k cs ss := by
  unfold w_F_note at hw
  refine AW.aload_n (pc := 0) dX2_note_0 rfl rfl ?_
  refine LW.get (pc := 1) (f := 4) (ci := 2) (T := TX2) ht (by decide) rfl dX2_note_1 tw_515 rfl (by decide) rfl ?_
  refine AW.bipush (v := 54) (pc := 4) dX2_note_4 (by decide) ?_
  refine AW.icmp_ge (pc := 6) (tgt := 39) dX2_note_6 (by decide) (fun c1 => ?_) (fun c1 => ?_)
  · have hw := hw.1 c1
    exact AW.vret (pc := 39) dX2_note_39 rfl (by omega) (by omega) (hQ _ hw)
  · have hw := hw.2 c1
    refine AW.aload_n (pc := 9) dX2_note_9 rfl rfl ?_
    refine LW.get (pc := 10) (f := 0) (ci := 2) (T := TX2) ht (by decide) rfl dX2_note_10 tw_508 rfl (by decide) rfl ?_
    refine AW.aload_n (pc := 13) dX2_note_13 rfl rfl ?_
    refine LW.get (pc := 14) (f := 4) (ci := 2) (T := TX2) ht (by decide) rfl dX2_note_14 tw_515 rfl (by decide) rfl ?_
    refine AW.iload_n (pc := 17) dX2_note_17 rfl rfl ?_
    obtain ⟨hin, hw⟩ := hw
    have hw := hw _ rfl
    refine LW.iast (pc := 18) (j := (m 14 4).toNatClampNeg) ht (by decide) (fun _ => rfl) dX2_note_18 hin rfl ?_
    generalize up2 m 15 ((m 14 4).toNatClampNeg) p1 = m2 at hw ⊢
    refine AW.aload_n (pc := 19) dX2_note_19 rfl rfl ?_
    refine LW.get (pc := 20) (f := 1) (ci := 2) (T := TX2) ht (by decide) rfl dX2_note_20 tw_510 rfl (by decide) rfl ?_
    refine AW.aload_n (pc := 23) dX2_note_23 rfl rfl ?_
    refine LW.get (pc := 24) (f := 4) (ci := 2) (T := TX2) ht (by decide) rfl dX2_note_24 tw_515 rfl (by decide) rfl ?_
    refine AW.iload_n (pc := 27) dX2_note_27 rfl rfl ?_
    obtain ⟨hin, hw⟩ := hw
    have hw := hw _ rfl
    refine LW.iast (pc := 28) (j := (m2 14 4).toNatClampNeg) ht (by decide) (fun _ => rfl) dX2_note_28 hin rfl ?_
    generalize up2 m2 16 ((m2 14 4).toNatClampNeg) p2 = m3 at hw ⊢
    refine AW.aload_n (pc := 29) dX2_note_29 rfl rfl ?_
    refine AW.dup (pc := 30) dX2_note_30 rfl ?_
    refine LW.get (pc := 31) (f := 4) (ci := 2) (T := TX2) ht (by decide) rfl dX2_note_31 tw_515 rfl (by decide) rfl ?_
    refine AW.iconst (v := 1) (pc := 34) dX2_note_34 (by decide) ?_
    refine AW.iadd (pc := 35) dX2_note_35 ?_
    have hw := hw _ rfl
    refine LW.put (pc := 36) (f := 4) (ci := 2) (T := TX2) ht (by decide) rfl sp_14_4 dX2_note_36 tw_515 rfl (by decide) (Nat.le_of_ble_eq_true rfl) rfl ⟨rfl, rfl⟩ ?_
    generalize up2 m3 14 4 ((m3 14 4) + (1 : Int32)) = m4 at hw ⊢
    exact AW.vret (pc := 39) dX2_note_39 rfl (by omega) (by omega) (hQ _ hw)
set_option maxRecDepth 100000 in
set_option maxHeartbeats 4000000 in
theorem c_F_note {d k t : Nat} {ex : Hp} {o : Nat → Int64} {K : Mem → Prop} {m : Mem} {p1 : Int32} {p2 : Int32} (ht : tok t) (hd : 2 ≤ d) (hw : w_F_note p1 p2 m K) : AM mX2_note d [.ref 14, .int p1, .int p2] (lay t ex o m) k 0 0 (fun oc h' k' => k = k' ∧ ∃ (m' : Mem), oc = .inl none ∧ h' = lay t ex o m' ∧ K m') :=
  AM.intro (μ := mX2_note) (n := 0) (by decide) rfl rfl rfl (b_F_note ht hd (by omega) (by omega) (fun _ hK => ⟨rfl, _, rfl, rfl, hK⟩) p1 p2 hw)
def w_F_reachOf (p1 : Int32) (m : Mem) (K : Int32 → Mem → Prop) : Prop :=
  w_N_isWire p1 m (fun r2 m1 => ((r2 = 0 → K (0 : Int32) m1) ∧ (¬ (r2 = 0) → vp_in p1 24 ∧ K (m1 18 (p1).toNatClampNeg) m1)))
set_option maxRecDepth 100000 in
set_option maxHeartbeats 4000000 in
theorem b_F_reachOf {Z : Gz} {d k0 mc ms cs ss k t : Nat} {Q : Po} {ex : Hp} {o : Nat → Int64} {K : Int32 → Mem → Prop}  (ht : tok t) (hd : 3 ≤ d) (hcs : cs + 0 ≤ mc) (hss : ss + 0 ≤ ms) (hQ : ∀ (r : Int32) (m : Mem), K r m → Q (.inl (some (.int r))) (lay t ex o m) k) {m : Mem} (p1 : Int32) (hw : w_F_reachOf p1 m K) : AW Z mX2_reachOf d k0 mc ms Q 0 [.ref 14, .int p1] [] (lay t ex o m) k cs ss := by
  unfold w_F_reachOf at hw
  refine AW.iload_n (pc := 0) dX2_reachOf_0 rfl rfl ?_
  refine AW.callSN (pc := 1) (S' := []) dX2_reachOf_1 (c_N_isWire (d := d - 1) ht (by omega) hw) ok_X4_isWire tw_25 tw_753 rfl (by omega) rfl (Nat.le_of_ble_eq_true rfl) (by omega) (by omega) (fun E h' k' hq => by obtain ⟨rfl, r2, m1, hv, -⟩ := hq; cases hv) ?_
  intro v h' k' hq
  obtain ⟨rfl, r2, m1, hv, rfl, hw⟩ := hq
  cases hv
  show AW _ _ _ _ _ _ _ 4 [.ref 14, .int p1] [.int r2] (lay t ex o m1) k _ _
  refine AW.if_eq (pc := 4) (tgt := 16) dX2_reachOf_4 (by decide) (fun c3 => ?_) (fun c3 => ?_)
  · have hw := hw.1 c3
    refine AW.iconst (v := 0) (pc := 16) dX2_reachOf_16 (by decide) ?_
    exact AW.iret (pc := 17) dX2_reachOf_17 rfl rfl (by omega) (by omega) (hQ _ _ hw)
  · have hw := hw.2 c3
    refine AW.aload_n (pc := 7) dX2_reachOf_7 rfl rfl ?_
    refine LW.get (pc := 8) (f := 3) (ci := 2) (T := TX2) ht (by decide) rfl dX2_reachOf_8 tw_514 rfl (by decide) rfl ?_
    refine AW.iload_n (pc := 11) dX2_reachOf_11 rfl rfl ?_
    obtain ⟨hin, hw⟩ := hw
    refine LW.iald (pc := 12) (j := p1.toNatClampNeg) ht (by decide) rfl dX2_reachOf_12 hin rfl ?_
    refine AW.goto (pc := 13) (tgt := 17) dX2_reachOf_13 (by decide) ?_
    exact AW.iret (pc := 17) dX2_reachOf_17 rfl rfl (by omega) (by omega) (hQ _ _ hw)
set_option maxRecDepth 100000 in
set_option maxHeartbeats 4000000 in
theorem c_F_reachOf {d k t : Nat} {ex : Hp} {o : Nat → Int64} {K : Int32 → Mem → Prop} {m : Mem} {p1 : Int32} (ht : tok t) (hd : 3 ≤ d) (hw : w_F_reachOf p1 m K) : AM mX2_reachOf d [.ref 14, .int p1] (lay t ex o m) k 0 0 (fun oc h' k' => k = k' ∧ ∃ (r : Int32) (m' : Mem), oc = .inl (some (.int r)) ∧ h' = lay t ex o m' ∧ K r m') :=
  AM.intro (μ := mX2_reachOf) (n := 0) (by decide) rfl rfl rfl (b_F_reachOf ht hd (by omega) (by omega) (fun _ _ hK => ⟨rfl, _, _, rfl, rfl, hK⟩) p1 hw)
def w_F_find_7 : Nat → Int32 → Mem → (Int32 → Mem → Prop) → (Mem → Prop) → Prop
  | 0, _, _, _, _ => False
  | n + 1, x2, m, E62, K => (((24 : Int32) ≤ x2 → E62 x2 m) ∧ (¬ ((24 : Int32) ≤ x2) → vp_in x2 24 ∧ (((m 12 (x2).toNatClampNeg) ≤ (1 : Int32) → vp_in x2 24 ∧ ((¬ ((m 12 (x2).toNatClampNeg) = 0) → w_F_find_7 n (x2 + 1) m E62 K) ∧ ((m 12 (x2).toNatClampNeg) = 0 → vp_in x2 24 ∧ (((m 11 (x2).toNatClampNeg) = 0 → w_F_find_7 n (x2 + 1) m E62 K) ∧ (¬ ((m 11 (x2).toNatClampNeg) = 0) → w_F_note (2 : Int32) x2 m (fun m6 => w_F_find_7 n (x2 + 1) m6 E62 K)))))) ∧ (¬ ((m 12 (x2).toNatClampNeg) ≤ (1 : Int32)) → w_F_note (1 : Int32) x2 m (fun m7 => w_F_find_7 n (x2 + 1) m7 E62 K)))))
def w_F_find_85 : Nat → Int32 → Mem → (Int32 → Mem → Prop) → (Mem → Prop) → Prop
  | 0, _, _, _, _ => False
  | n + 1, x2, m, E152, K => (((m 2 11) ≤ x2 → E152 x2 m) ∧ (¬ ((m 2 11) ≤ x2) → w_C_isGate x2 m (fun r18 m17 => ((r18 = 0 → vp_in x2 30 ∧ ∀ m20 : Mem, m20 = up2 m17 17 (x2.toNatClampNeg) (0 : Int32) → vp_in x2 30 ∧ (((m20 17 (x2).toNatClampNeg) = 0 → w_F_find_85 n (x2 + 1) m20 E152 K) ∧ (¬ ((m20 17 (x2).toNatClampNeg) = 0) → w_F_note (3 : Int32) x2 m20 (fun m22 => w_F_find_85 n (x2 + 1) m22 E152 K)))) ∧ (¬ (r18 = 0) → vp_in x2 30 ∧ w_F_reachOf (m17 4 (x2).toNatClampNeg) m17 (fun r24 m23 => w_C_pinsOf x2 m23 (fun r26 m25 => (∀ J29 : Int32 → Mem → Prop, (∀ (v27 : Int32) (m28 : Mem), (vp_in x2 30 ∧ vp_nar .boolean v27 = v27 ∧ ∀ m31 : Mem, m31 = up2 m28 17 (x2.toNatClampNeg) v27 → vp_in x2 30 ∧ (((m31 17 (x2).toNatClampNeg) = 0 → w_F_find_85 n (x2 + 1) m31 E152 K) ∧ (¬ ((m31 17 (x2).toNatClampNeg) = 0) → w_F_note (3 : Int32) x2 m31 (fun m33 => w_F_find_85 n (x2 + 1) m33 E152 K)))) → J29 v27 m28) → (((r24 &&& r26) = 0 → J29 (0 : Int32) m25) ∧ (¬ ((r24 &&& r26) = 0) → J29 (1 : Int32) m25))))))))))
def w_F_find (m : Mem) (K : Mem → Prop) : Prop :=
  ∀ m1 : Mem, m1 = up2 m 14 4 (0 : Int32) → w_F_find_7 25 (0 : Int32) m1 (fun y8 m9 => (∀ J12 : Int32 → Mem → Prop, (∀ (v10 : Int32) (m11 : Mem), ((narrow .boolean (.int v10) = .int v10 ∧ fits .boolean (.int v10) = true) ∧ ∀ m14 : Mem, m14 = up2 m11 14 5 v10 → w_F_findReach  m14 (fun m15 => w_F_find_85 31 (0 : Int32) m15 (fun y34 m35 => K m35) K)) → J12 v10 m11) → (((m9 14 4) ≤ 0 → J12 (0 : Int32) m9) ∧ (¬ ((m9 14 4) ≤ 0) → J12 (1 : Int32) m9)))) K
set_option maxRecDepth 100000 in
set_option maxHeartbeats 4000000 in
theorem l_F_find_7 {Z : Gz} {d k0 mc ms cs ss k t : Nat} {Q : Po} {ex : Hp} {o : Nat → Int64} {K : Mem → Prop}  (ht : tok t) (hd : 4 ≤ d) (hcs : cs ≤ mc) (hss : ss ≤ ms) (hQ : ∀ (m : Mem), K m → Q (.inl none) (lay t ex o m) k) {E62 : Int32 → Mem → Prop} (hE62 : ∀ (x2 : Int32) (m : Mem), E62 x2 m → AW Z mX2_find d k0 mc ms Q 62 [.ref 14, .ref 2, .int x2] [] (lay t ex o m) k cs ss) : ∀ (n : Nat) (x2 : Int32) (m : Mem),  w_F_find_7 n x2 m E62 K → AW Z mX2_find d k0 mc ms Q 7 [.ref 14, .ref 2, .int x2] [] (lay t ex o m) k cs ss := by
  intro n
  induction n with
  | zero =>
    intros; rename_i hw; exact absurd hw (by simp [w_F_find_7])
  | succ n ih =>
    intro x2 m hw
    unfold w_F_find_7 at hw
    refine AW.iload_n (pc := 7) dX2_find_7 rfl rfl ?_
    refine AW.bipush (v := 24) (pc := 8) dX2_find_8 (by decide) ?_
    refine AW.icmp_ge (pc := 10) (tgt := 62) dX2_find_10 (by decide) (fun c2 => ?_) (fun c2 => ?_)
    · have hw := hw.1 c2
      exact hE62 x2 m hw
    · have hw := hw.2 c2
      refine AW.aload_n (pc := 13) dX2_find_13 rfl rfl ?_
      refine LW.getN (pc := 14) (f := 9) (ci := 1) (T := TX1) ht (by decide) rfl dX2_find_14 tw_469 rfl (by decide) rfl ?_
      refine AW.iload_n (pc := 17) dX2_find_17 rfl rfl ?_
      obtain ⟨hin, hw⟩ := hw
      refine LW.iald (pc := 18) (j := x2.toNatClampNeg) ht (by decide) rfl dX2_find_18 hin rfl ?_
      refine AW.iconst (v := 1) (pc := 19) dX2_find_19 (by decide) ?_
      refine AW.icmp_le (pc := 20) (tgt := 32) dX2_find_20 (by decide) (fun c3 => ?_) (fun c3 => ?_)
      · have hw := hw.1 c3
        refine AW.aload_n (pc := 32) dX2_find_32 rfl rfl ?_
        refine LW.getN (pc := 33) (f := 9) (ci := 1) (T := TX1) ht (by decide) rfl dX2_find_33 tw_469 rfl (by decide) rfl ?_
        refine AW.iload_n (pc := 36) dX2_find_36 rfl rfl ?_
        obtain ⟨hin, hw⟩ := hw
        refine LW.iald (pc := 37) (j := x2.toNatClampNeg) ht (by decide) rfl dX2_find_37 hin rfl ?_
        refine AW.if_ne (pc := 38) (tgt := 56) dX2_find_38 (by decide) (fun c4 => ?_) (fun c4 => ?_)
        · have hw := hw.1 c4
          refine AW.iinc (v := (x2 + 1)) (L' := [.ref 14, .ref 2, .int (x2 + 1)]) (pc := 56) dX2_find_56 rfl rfl (by decide) rfl rfl ?_
          refine AW.goto (pc := 59) (tgt := 7) dX2_find_59 (by decide) ?_
          exact ih (x2 + 1) m hw
        · have hw := hw.2 c4
          refine AW.aload_n (pc := 41) dX2_find_41 rfl rfl ?_
          refine LW.getN (pc := 42) (f := 8) (ci := 1) (T := TX1) ht (by decide) rfl dX2_find_42 tw_466 rfl (by decide) rfl ?_
          refine AW.iload_n (pc := 45) dX2_find_45 rfl rfl ?_
          obtain ⟨hin, hw⟩ := hw
          refine LW.iald (pc := 46) (j := x2.toNatClampNeg) ht (by decide) rfl dX2_find_46 hin rfl ?_
          refine AW.if_eq (pc := 47) (tgt := 56) dX2_find_47 (by decide) (fun c5 => ?_) (fun c5 => ?_)
          · have hw := hw.1 c5
            refine AW.iinc (v := (x2 + 1)) (L' := [.ref 14, .ref 2, .int (x2 + 1)]) (pc := 56) dX2_find_56 rfl rfl (by decide) rfl rfl ?_
            refine AW.goto (pc := 59) (tgt := 7) dX2_find_59 (by decide) ?_
            exact ih (x2 + 1) m hw
          · have hw := hw.2 c5
            refine AW.aload_n (pc := 50) dX2_find_50 rfl rfl ?_
            refine AW.iconst (v := 2) (pc := 51) dX2_find_51 (by decide) ?_
            refine AW.iload_n (pc := 52) dX2_find_52 rfl rfl ?_
            refine AW.callV (pc := 53) (S' := []) dX2_find_53 (c_F_note (d := d - 1) ht (by omega) hw) ok_X2_note tw_741 ts_30 tw_739 (fix_pos (by decide)) (lay_at ht (by decide)) (show aw_cl[2]? = some _ from rfl) rfl rfl (by omega) rfl (Nat.le_of_ble_eq_true rfl) (by omega) (by omega) ?_ (fun E h' k' hq => by obtain ⟨rfl, m6, hv, -⟩ := hq; cases hv)
            intro v h' k' hq
            obtain ⟨rfl, m6, hv, rfl, hw⟩ := hq
            cases hv
            show AW _ _ _ _ _ _ _ 56 [.ref 14, .ref 2, .int x2] [] (lay t ex o m6) k _ _
            refine AW.iinc (v := (x2 + 1)) (L' := [.ref 14, .ref 2, .int (x2 + 1)]) (pc := 56) dX2_find_56 rfl rfl (by decide) rfl rfl ?_
            refine AW.goto (pc := 59) (tgt := 7) dX2_find_59 (by decide) ?_
            exact ih (x2 + 1) m6 hw
      · have hw := hw.2 c3
        refine AW.aload_n (pc := 23) dX2_find_23 rfl rfl ?_
        refine AW.iconst (v := 1) (pc := 24) dX2_find_24 (by decide) ?_
        refine AW.iload_n (pc := 25) dX2_find_25 rfl rfl ?_
        refine AW.callV (pc := 26) (S' := []) dX2_find_26 (c_F_note (d := d - 1) ht (by omega) hw) ok_X2_note tw_741 ts_30 tw_739 (fix_pos (by decide)) (lay_at ht (by decide)) (show aw_cl[2]? = some _ from rfl) rfl rfl (by omega) rfl (Nat.le_of_ble_eq_true rfl) (by omega) (by omega) ?_ (fun E h' k' hq => by obtain ⟨rfl, m7, hv, -⟩ := hq; cases hv)
        intro v h' k' hq
        obtain ⟨rfl, m7, hv, rfl, hw⟩ := hq
        cases hv
        show AW _ _ _ _ _ _ _ 29 [.ref 14, .ref 2, .int x2] [] (lay t ex o m7) k _ _
        refine AW.goto (pc := 29) (tgt := 56) dX2_find_29 (by decide) ?_
        refine AW.iinc (v := (x2 + 1)) (L' := [.ref 14, .ref 2, .int (x2 + 1)]) (pc := 56) dX2_find_56 rfl rfl (by decide) rfl rfl ?_
        refine AW.goto (pc := 59) (tgt := 7) dX2_find_59 (by decide) ?_
        exact ih (x2 + 1) m7 hw
set_option maxRecDepth 100000 in
set_option maxHeartbeats 4000000 in
theorem l_F_find_85 {Z : Gz} {d k0 mc ms cs ss k t : Nat} {Q : Po} {ex : Hp} {o : Nat → Int64} {K : Mem → Prop}  (ht : tok t) (hd : 4 ≤ d) (hcs : cs ≤ mc) (hss : ss ≤ ms) (hQ : ∀ (m : Mem), K m → Q (.inl none) (lay t ex o m) k) {E152 : Int32 → Mem → Prop} (hE152 : ∀ (x2 : Int32) (m : Mem), E152 x2 m → AW Z mX2_find d k0 mc ms Q 152 [.ref 14, .ref 2, .int x2] [] (lay t ex o m) k cs ss) : ∀ (n : Nat) (x2 : Int32) (m : Mem),  w_F_find_85 n x2 m E152 K → AW Z mX2_find d k0 mc ms Q 85 [.ref 14, .ref 2, .int x2] [] (lay t ex o m) k cs ss := by
  intro n
  induction n with
  | zero =>
    intros; rename_i hw; exact absurd hw (by simp [w_F_find_85])
  | succ n ih =>
    intro x2 m hw
    unfold w_F_find_85 at hw
    refine AW.iload_n (pc := 85) dX2_find_85 rfl rfl ?_
    refine AW.aload_n (pc := 86) dX2_find_86 rfl rfl ?_
    refine LW.getN (pc := 87) (f := 11) (ci := 1) (T := TX1) ht (by decide) rfl dX2_find_87 tw_473 rfl (by decide) rfl ?_
    refine AW.icmp_ge (pc := 90) (tgt := 152) dX2_find_90 (by decide) (fun c16 => ?_) (fun c16 => ?_)
    · have hw := hw.1 c16
      exact hE152 x2 m hw
    · have hw := hw.2 c16
      refine AW.aload_n (pc := 93) dX2_find_93 rfl rfl ?_
      refine LW.get (pc := 94) (f := 2) (ci := 2) (T := TX2) ht (by decide) rfl dX2_find_94 tw_512 rfl (by decide) rfl ?_
      refine AW.iload_n (pc := 97) dX2_find_97 rfl rfl ?_
      refine AW.aload_n (pc := 98) dX2_find_98 rfl rfl ?_
      refine AW.iload_n (pc := 99) dX2_find_99 rfl rfl ?_
      refine AW.callV (pc := 100) (S' := [.int x2, .ref 17]) dX2_find_100 (c_C_isGate (d := d - 1) ht (by omega) hw) ok_X1_isGate tw_126 tw_127 tw_747 (fix_pos (by decide)) (lay_at ht (by decide)) (show aw_cl[1]? = some _ from rfl) rfl rfl (by omega) rfl (Nat.le_of_ble_eq_true rfl) (by omega) (by omega) ?_ (fun E h' k' hq => by obtain ⟨rfl, r18, m17, hv, -⟩ := hq; cases hv)
      intro v h' k' hq
      obtain ⟨rfl, r18, m17, hv, rfl, hw⟩ := hq
      cases hv
      show AW _ _ _ _ _ _ _ 103 [.ref 14, .ref 2, .int x2] [.int r18, .int x2, .ref 17] (lay t ex o m17) k _ _
      refine AW.if_eq (pc := 103) (tgt := 129) dX2_find_103 (by decide) (fun c19 => ?_) (fun c19 => ?_)
      · have hw := hw.1 c19
        refine AW.iconst (v := 0) (pc := 129) dX2_find_129 (by decide) ?_
        obtain ⟨hin, hw⟩ := hw
        have hw := hw _ rfl
        refine LW.zast (pc := 130) (j := x2.toNatClampNeg) ht (by decide) (fun _ => rfl) dX2_find_130 hin (by decide) rfl ?_
        generalize up2 m17 17 (x2.toNatClampNeg) (0 : Int32) = m20 at hw ⊢
        refine AW.aload_n (pc := 131) dX2_find_131 rfl rfl ?_
        refine LW.get (pc := 132) (f := 2) (ci := 2) (T := TX2) ht (by decide) rfl dX2_find_132 tw_512 rfl (by decide) rfl ?_
        refine AW.iload_n (pc := 135) dX2_find_135 rfl rfl ?_
        obtain ⟨hin, hw⟩ := hw
        refine LW.zald (pc := 136) (j := x2.toNatClampNeg) ht (by decide) rfl dX2_find_136 hin rfl ?_
        refine AW.if_eq (pc := 137) (tgt := 146) dX2_find_137 (by decide) (fun c21 => ?_) (fun c21 => ?_)
        · have hw := hw.1 c21
          refine AW.iinc (v := (x2 + 1)) (L' := [.ref 14, .ref 2, .int (x2 + 1)]) (pc := 146) dX2_find_146 rfl rfl (by decide) rfl rfl ?_
          refine AW.goto (pc := 149) (tgt := 85) dX2_find_149 (by decide) ?_
          exact ih (x2 + 1) m20 hw
        · have hw := hw.2 c21
          refine AW.aload_n (pc := 140) dX2_find_140 rfl rfl ?_
          refine AW.iconst (v := 3) (pc := 141) dX2_find_141 (by decide) ?_
          refine AW.iload_n (pc := 142) dX2_find_142 rfl rfl ?_
          refine AW.callV (pc := 143) (S' := []) dX2_find_143 (c_F_note (d := d - 1) ht (by omega) hw) ok_X2_note tw_741 ts_30 tw_739 (fix_pos (by decide)) (lay_at ht (by decide)) (show aw_cl[2]? = some _ from rfl) rfl rfl (by omega) rfl (Nat.le_of_ble_eq_true rfl) (by omega) (by omega) ?_ (fun E h' k' hq => by obtain ⟨rfl, m22, hv, -⟩ := hq; cases hv)
          intro v h' k' hq
          obtain ⟨rfl, m22, hv, rfl, hw⟩ := hq
          cases hv
          show AW _ _ _ _ _ _ _ 146 [.ref 14, .ref 2, .int x2] [] (lay t ex o m22) k _ _
          refine AW.iinc (v := (x2 + 1)) (L' := [.ref 14, .ref 2, .int (x2 + 1)]) (pc := 146) dX2_find_146 rfl rfl (by decide) rfl rfl ?_
          refine AW.goto (pc := 149) (tgt := 85) dX2_find_149 (by decide) ?_
          exact ih (x2 + 1) m22 hw
      · have hw := hw.2 c19
        refine AW.aload_n (pc := 106) dX2_find_106 rfl rfl ?_
        refine AW.aload_n (pc := 107) dX2_find_107 rfl rfl ?_
        refine LW.getN (pc := 108) (f := 1) (ci := 1) (T := TX1) ht (by decide) rfl dX2_find_108 tw_447 rfl (by decide) rfl ?_
        refine AW.iload_n (pc := 111) dX2_find_111 rfl rfl ?_
        obtain ⟨hin, hw⟩ := hw
        refine LW.iald (pc := 112) (j := x2.toNatClampNeg) ht (by decide) rfl dX2_find_112 hin rfl ?_
        refine AW.callV (pc := 113) (S' := [.int x2, .ref 17]) dX2_find_113 (c_F_reachOf (d := d - 1) ht (by omega) hw) ok_X2_reachOf tw_751 ts_32 tw_749 (fix_pos (by decide)) (lay_at ht (by decide)) (show aw_cl[2]? = some _ from rfl) rfl rfl (by omega) rfl (Nat.le_of_ble_eq_true rfl) (by omega) (by omega) ?_ (fun E h' k' hq => by obtain ⟨rfl, r24, m23, hv, -⟩ := hq; cases hv)
        intro v h' k' hq
        obtain ⟨rfl, r24, m23, hv, rfl, hw⟩ := hq
        cases hv
        show AW _ _ _ _ _ _ _ 116 [.ref 14, .ref 2, .int x2] [.int r24, .int x2, .ref 17] (lay t ex o m23) k _ _
        refine AW.aload_n (pc := 116) dX2_find_116 rfl rfl ?_
        refine AW.iload_n (pc := 117) dX2_find_117 rfl rfl ?_
        refine AW.callV (pc := 118) (S' := [.int r24, .int x2, .ref 17]) dX2_find_118 (c_C_pinsOf (d := d - 1) ht (by omega) hw) ok_X1_pinsOf tw_755 tw_756 tw_754 (fix_pos (by decide)) (lay_at ht (by decide)) (show aw_cl[1]? = some _ from rfl) rfl rfl (by omega) rfl (Nat.le_of_ble_eq_true rfl) (by omega) (by omega) ?_ (fun E h' k' hq => by obtain ⟨rfl, r26, m25, hv, -⟩ := hq; cases hv)
        intro v h' k' hq
        obtain ⟨rfl, r26, m25, hv, rfl, hw⟩ := hq
        cases hv
        show AW _ _ _ _ _ _ _ 121 [.ref 14, .ref 2, .int x2] [.int r26, .int r24, .int x2, .ref 17] (lay t ex o m25) k _ _
        refine AW.iand (pc := 121) dX2_find_121 ?_
        have hw := hw (fun v27 m28 => AW Z mX2_find d k0 mc ms Q 130 [.ref 14, .ref 2, .int x2] [.int v27, .int x2, .ref 17] (lay t ex o m28) k (cs) (ss)) (by
            intro v27 m28 hw
            obtain ⟨hin, hw⟩ := hw
            obtain ⟨hbl, hw⟩ := hw
            have hw := hw _ rfl
            refine LW.zast (pc := 130) (j := x2.toNatClampNeg) ht (by decide) (fun _ => rfl) dX2_find_130 hin hbl rfl ?_
            generalize up2 m28 17 (x2.toNatClampNeg) v27 = m31 at hw ⊢
            refine AW.aload_n (pc := 131) dX2_find_131 rfl rfl ?_
            refine LW.get (pc := 132) (f := 2) (ci := 2) (T := TX2) ht (by decide) rfl dX2_find_132 tw_512 rfl (by decide) rfl ?_
            refine AW.iload_n (pc := 135) dX2_find_135 rfl rfl ?_
            obtain ⟨hin, hw⟩ := hw
            refine LW.zald (pc := 136) (j := x2.toNatClampNeg) ht (by decide) rfl dX2_find_136 hin rfl ?_
            refine AW.if_eq (pc := 137) (tgt := 146) dX2_find_137 (by decide) (fun c32 => ?_) (fun c32 => ?_)
            · have hw := hw.1 c32
              refine AW.iinc (v := (x2 + 1)) (L' := [.ref 14, .ref 2, .int (x2 + 1)]) (pc := 146) dX2_find_146 rfl rfl (by decide) rfl rfl ?_
              refine AW.goto (pc := 149) (tgt := 85) dX2_find_149 (by decide) ?_
              exact ih (x2 + 1) m31 hw
            · have hw := hw.2 c32
              refine AW.aload_n (pc := 140) dX2_find_140 rfl rfl ?_
              refine AW.iconst (v := 3) (pc := 141) dX2_find_141 (by decide) ?_
              refine AW.iload_n (pc := 142) dX2_find_142 rfl rfl ?_
              refine AW.callV (pc := 143) (S' := []) dX2_find_143 (c_F_note (d := d - 1) ht (by omega) hw) ok_X2_note tw_741 ts_30 tw_739 (fix_pos (by decide)) (lay_at ht (by decide)) (show aw_cl[2]? = some _ from rfl) rfl rfl (by omega) rfl (Nat.le_of_ble_eq_true rfl) (by omega) (by omega) ?_ (fun E h' k' hq => by obtain ⟨rfl, m33, hv, -⟩ := hq; cases hv)
              intro v h' k' hq
              obtain ⟨rfl, m33, hv, rfl, hw⟩ := hq
              cases hv
              show AW _ _ _ _ _ _ _ 146 [.ref 14, .ref 2, .int x2] [] (lay t ex o m33) k _ _
              refine AW.iinc (v := (x2 + 1)) (L' := [.ref 14, .ref 2, .int (x2 + 1)]) (pc := 146) dX2_find_146 rfl rfl (by decide) rfl rfl ?_
              refine AW.goto (pc := 149) (tgt := 85) dX2_find_149 (by decide) ?_
              exact ih (x2 + 1) m33 hw)
        refine AW.if_eq (pc := 122) (tgt := 129) dX2_find_122 (by decide) (fun c30 => ?_) (fun c30 => ?_)
        · have hw := hw.1 c30
          refine AW.iconst (v := 0) (pc := 129) dX2_find_129 (by decide) ?_
          exact hw
        · have hw := hw.2 c30
          refine AW.iconst (v := 1) (pc := 125) dX2_find_125 (by decide) ?_
          refine AW.goto (pc := 126) (tgt := 130) dX2_find_126 (by decide) ?_
          exact hw
set_option maxRecDepth 100000 in
set_option maxHeartbeats 4000000 in
theorem b_F_find {Z : Gz} {d k0 mc ms cs ss k t : Nat} {Q : Po} {ex : Hp} {o : Nat → Int64} {K : Mem → Prop}  (ht : tok t) (hd : 4 ≤ d) (hcs : cs + 0 ≤ mc) (hss : ss + 0 ≤ ms) (hQ : ∀ (m : Mem), K m → Q (.inl none) (lay t ex o m) k) {m : Mem}  (hw : w_F_find  m K) : AW Z mX2_find d k0 mc ms Q 0 [.ref 14, .ref 2, .null] [] (lay t ex o m) k cs ss := by
  unfold w_F_find at hw
  refine AW.aload_n (pc := 0) dX2_find_0 rfl rfl ?_
  refine AW.iconst (v := 0) (pc := 1) dX2_find_1 (by decide) ?_
  have hw := hw _ rfl
  refine LW.put (pc := 2) (f := 4) (ci := 2) (T := TX2) ht (by decide) rfl sp_14_4 dX2_find_2 tw_515 rfl (by decide) (Nat.le_of_ble_eq_true rfl) rfl ⟨rfl, rfl⟩ ?_
  generalize up2 m 14 4 (0 : Int32) = m1 at hw ⊢
  refine AW.iconst (v := 0) (pc := 5) dX2_find_5 (by decide) ?_
  refine AW.istore_n (L' := [.ref 14, .ref 2, .int (0 : Int32)]) (pc := 6) dX2_find_6 rfl (by decide) rfl rfl ?_
  refine l_F_find_7 ht hd (by omega) (by omega) hQ ?_ 25 (0 : Int32) m1 hw
  intro y8 m9 hw
  refine AW.aload_n (pc := 62) dX2_find_62 rfl rfl ?_
  refine AW.aload_n (pc := 63) dX2_find_63 rfl rfl ?_
  refine LW.get (pc := 64) (f := 4) (ci := 2) (T := TX2) ht (by decide) rfl dX2_find_64 tw_515 rfl (by decide) rfl ?_
  have hw := hw (fun v10 m11 => AW Z mX2_find d k0 mc ms Q 75 [.ref 14, .ref 2, .int y8] [.int v10, .ref 14] (lay t ex o m11) k (cs) (ss)) (by
      intro v10 m11 hw
      obtain ⟨hin, hw⟩ := hw
      have hw := hw _ rfl
      refine LW.put (pc := 75) (f := 5) (ci := 2) (T := TX2) ht (by decide) rfl sp_14_5 dX2_find_75 tw_517 rfl (by decide) (Nat.le_of_ble_eq_true rfl) rfl hin ?_
      generalize up2 m11 14 5 v10 = m14 at hw ⊢
      refine AW.aload_n (pc := 78) dX2_find_78 rfl rfl ?_
      refine AW.aload_n (pc := 79) dX2_find_79 rfl rfl ?_
      refine AW.callV (pc := 80) (S' := []) dX2_find_80 (c_F_findReach (d := d - 1) ht (by omega) hw) ok_X2_findReach tw_745 ts_31 tw_743 (fix_pos (by decide)) (lay_at ht (by decide)) (show aw_cl[2]? = some _ from rfl) rfl rfl (by omega) rfl (Nat.le_of_ble_eq_true rfl) (by omega) (by omega) ?_ (fun E h' k' hq => by obtain ⟨rfl, m15, hv, -⟩ := hq; cases hv)
      intro v h' k' hq
      obtain ⟨rfl, m15, hv, rfl, hw⟩ := hq
      cases hv
      show AW _ _ _ _ _ _ _ 83 [.ref 14, .ref 2, .int y8] [] (lay t ex o m15) k _ _
      refine AW.iconst (v := 0) (pc := 83) dX2_find_83 (by decide) ?_
      refine AW.istore_n (L' := [.ref 14, .ref 2, .int (0 : Int32)]) (pc := 84) dX2_find_84 rfl (by decide) rfl rfl ?_
      refine l_F_find_85 ht hd (by omega) (by omega) hQ ?_ 31 (0 : Int32) m15 hw
      intro y34 m35 hw
      exact AW.vret (pc := 152) dX2_find_152 rfl (by omega) (by omega) (hQ _ hw))
  refine AW.if_le (pc := 67) (tgt := 74) dX2_find_67 (by decide) (fun c13 => ?_) (fun c13 => ?_)
  · have hw := hw.1 c13
    refine AW.iconst (v := 0) (pc := 74) dX2_find_74 (by decide) ?_
    exact hw
  · have hw := hw.2 c13
    refine AW.iconst (v := 1) (pc := 70) dX2_find_70 (by decide) ?_
    refine AW.goto (pc := 71) (tgt := 75) dX2_find_71 (by decide) ?_
    exact hw
set_option maxRecDepth 100000 in
set_option maxHeartbeats 4000000 in
theorem c_F_find {d k t : Nat} {ex : Hp} {o : Nat → Int64} {K : Mem → Prop} {m : Mem}  (ht : tok t) (hd : 4 ≤ d) (hw : w_F_find  m K) : AM mX2_find d [.ref 14, .ref 2] (lay t ex o m) k 0 0 (fun oc h' k' => k = k' ∧ ∃ (m' : Mem), oc = .inl none ∧ h' = lay t ex o m' ∧ K m') :=
  AM.intro (μ := mX2_find) (n := 1) (by decide) rfl rfl rfl (b_F_find ht hd (by omega) (by omega) (fun _ hK => ⟨rfl, _, rfl, rfl, hK⟩)  hw)
