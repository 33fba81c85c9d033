/-! start of the reference, by wip/tools/mk_start.py -/
abbrev mX5_start : Mt := (yX5_start, cX5_start, 2, (some .int), [])
set_option maxRecDepth 20000 in
theorem ok_X5_start : aw_mok mX5_start 0 := ⟨rfl, tw_983, tw_8, ⟨by decide, by decide⟩, by decide +kernel, by decide⟩
def w_M_start_36_43 : Nat → Int32 → Mem → (Int32 → Mem → Prop) → (Int32 → Mem → Prop) → Prop
  | 0, _, _, _, _ => False
  | n + 1, x1, m, E78, K => (((m 47 1) ≤ x1 → E78 x1 m) ∧ (¬ ((m 47 1) ≤ x1) → vp_in x1 30 ∧ ((¬ ((m 48 (x1).toNatClampNeg) = (-1 : Int32)) → w_M_start_36_43 n (x1 + 1) m E78 K) ∧ ((m 48 (x1).toNatClampNeg) = (-1 : Int32) → vp_in x1 30 ∧ w_M_change (m 49 (x1).toNatClampNeg) (0 : Int32) m (fun m4 => w_M_start_36_43 n (x1 + 1) m4 E78 K)))))
def w_M_start_36 (m : Mem) (K : Int32 → Mem → Prop) : Prop :=
  ∀ m1 : Mem, m1 = up2 m 47 11 (1 : Int32) → w_M_start_36_43 31 (0 : Int32) m1 (fun y5 m6 => w_M_pendingLines  m6 (fun r8 m7 => K r8 m7)) K
set_option maxRecDepth 100000 in
set_option maxHeartbeats 4000000 in
theorem l_M_start_36_43 {Z : Gz} {d k0 mc ms cs ss k t : Nat} {Q : Po} {ex : Hp} {o : Nat → Int64} {K : Int32 → Mem → Prop}  (ht : tok t) (hd : 6 ≤ d) (hcs : cs ≤ mc) (hss : ss ≤ ms) (hQ : ∀ (r : Int32) (m : Mem), K r m → Q (.inl (some (.int r))) (lay t ex o m) k) {E78 : Int32 → Mem → Prop} (hE78 : ∀ (x1 : Int32) (m : Mem), E78 x1 m → AW Z mX5_start d k0 mc ms Q 78 [.ref 47, .int x1] [] (lay t ex o m) k cs ss) : ∀ (n : Nat) (x1 : Int32) (m : Mem),  w_M_start_36_43 n x1 m E78 K → AW Z mX5_start d k0 mc ms Q 43 [.ref 47, .int x1] [] (lay t ex o m) k cs ss := by
  intro n
  induction n with
  | zero =>
    intros; rename_i hw; exact absurd hw (by simp [w_M_start_36_43])
  | succ n ih =>
    intro x1 m hw
    unfold w_M_start_36_43 at hw
    refine AW.iload_n (pc := 43) dX5_start_43 rfl rfl ?_
    refine AW.aload_n (pc := 44) dX5_start_44 rfl rfl ?_
    refine LW.get (pc := 45) (f := 1) (ci := 5) (T := TX5) ht (by decide) rfl dX5_start_45 tw_799 rfl (by decide) rfl ?_
    refine AW.icmp_ge (pc := 48) (tgt := 78) dX5_start_48 (by decide) (fun c2 => ?_) (fun c2 => ?_)
    · have hw := hw.1 c2
      exact hE78 x1 m hw
    · have hw := hw.2 c2
      refine AW.aload_n (pc := 51) dX5_start_51 rfl rfl ?_
      refine LW.get (pc := 52) (f := 2) (ci := 5) (T := TX5) ht (by decide) rfl dX5_start_52 tw_800 rfl (by decide) rfl ?_
      refine AW.iload_n (pc := 55) dX5_start_55 rfl rfl ?_
      obtain ⟨hin, hw⟩ := hw
      refine LW.iald (pc := 56) (j := x1.toNatClampNeg) ht (by decide) rfl dX5_start_56 hin rfl ?_
      refine AW.iconst (v := -1) (pc := 57) dX5_start_57 (by decide) ?_
      refine AW.icmp_ne (pc := 58) (tgt := 72) dX5_start_58 (by decide) (fun c3 => ?_) (fun c3 => ?_)
      · have hw := hw.1 c3
        refine AW.iinc (v := (x1 + 1)) (L' := [.ref 47, .int (x1 + 1)]) (pc := 72) dX5_start_72 rfl rfl (by decide) rfl rfl ?_
        refine AW.goto (pc := 75) (tgt := 43) dX5_start_75 (by decide) ?_
        exact ih (x1 + 1) m hw
      · have hw := hw.2 c3
        refine AW.aload_n (pc := 61) dX5_start_61 rfl rfl ?_
        refine AW.aload_n (pc := 62) dX5_start_62 rfl rfl ?_
        refine LW.get (pc := 63) (f := 3) (ci := 5) (T := TX5) ht (by decide) rfl dX5_start_63 tw_801 rfl (by decide) rfl ?_
        refine AW.iload_n (pc := 66) dX5_start_66 rfl rfl ?_
        obtain ⟨hin, hw⟩ := hw
        refine LW.iald (pc := 67) (j := x1.toNatClampNeg) ht (by decide) rfl dX5_start_67 hin rfl ?_
        refine AW.iconst (v := 0) (pc := 68) dX5_start_68 (by decide) ?_
        refine AW.callV (pc := 69) (S' := []) dX5_start_69 (c_M_change (d := d - 1) ht (by omega) hw) ok_X5_change tw_986 ts_49 tw_984 (fix_pos (by decide)) (lay_at ht (by decide)) (show aw_cl[5]? = some _ from rfl) rfl rfl (by omega) rfl (Nat.le_of_ble_eq_true rfl) (by omega) (by omega) ?_ (fun E h' k' hq => by obtain ⟨rfl, m4, hv, -⟩ := hq; cases hv)
        intro v h' k' hq
        obtain ⟨rfl, m4, hv, rfl, hw⟩ := hq
        cases hv
        show AW _ _ _ _ _ _ _ 72 [.ref 47, .int x1] [] (lay t ex o m4) k _ _
        refine AW.iinc (v := (x1 + 1)) (L' := [.ref 47, .int (x1 + 1)]) (pc := 72) dX5_start_72 rfl rfl (by decide) rfl rfl ?_
        refine AW.goto (pc := 75) (tgt := 43) dX5_start_75 (by decide) ?_
        exact ih (x1 + 1) m4 hw
set_option maxRecDepth 100000 in
set_option maxHeartbeats 4000000 in
theorem b_M_start_36 {Z : Gz} {d k0 mc ms cs ss k t : Nat} {Q : Po} {ex : Hp} {o : Nat → Int64} {K : Int32 → Mem → Prop}  (ht : tok t) (hd : 6 ≤ d) (hcs : cs + 0 ≤ mc) (hss : ss + 0 ≤ ms) (hQ : ∀ (r : Int32) (m : Mem), K r m → Q (.inl (some (.int r))) (lay t ex o m) k) {m : Mem}  (hw : w_M_start_36  m K) : AW Z mX5_start d k0 mc ms Q 36 [.ref 47, .null] [] (lay t ex o m) k cs ss := by
  unfold w_M_start_36 at hw
  refine AW.aload_n (pc := 36) dX5_start_36 rfl rfl ?_
  refine AW.iconst (v := 1) (pc := 37) dX5_start_37 (by decide) ?_
  have hw := hw _ rfl
  refine LW.put (pc := 38) (f := 11) (ci := 5) (T := TX5) ht (by decide) rfl sp_47_11 dX5_start_38 tw_809 rfl (by decide) (Nat.le_of_ble_eq_true rfl) rfl ⟨by decide, by decide⟩ ?_
  generalize up2 m 47 11 (1 : Int32) = m1 at hw ⊢
  refine AW.iconst (v := 0) (pc := 41) dX5_start_41 (by decide) ?_
  refine AW.istore_n (L' := [.ref 47, .int (0 : Int32)]) (pc := 42) dX5_start_42 rfl (by decide) rfl rfl ?_
  refine l_M_start_36_43 ht hd (by omega) (by omega) hQ ?_ 31 (0 : Int32) m1 hw
  intro y5 m6 hw
  refine AW.aload_n (pc := 78) dX5_start_78 rfl rfl ?_
  refine AW.callV (pc := 79) (S' := []) dX5_start_79 (c_M_pendingLines (d := d - 1) ht (by omega) hw) ok_X5_pendingLines tw_1020 ts_56 tw_1018 (fix_pos (by decide)) (lay_at ht (by decide)) (show aw_cl[5]? = some _ from rfl) rfl rfl (by omega) rfl (Nat.le_of_ble_eq_true rfl) (by omega) (by omega) ?_ (fun E h' k' hq => by obtain ⟨rfl, r8, m7, hv, -⟩ := hq; cases hv)
  intro v h' k' hq
  obtain ⟨rfl, r8, m7, hv, rfl, hw⟩ := hq
  cases hv
  show AW _ _ _ _ _ _ _ 82 [.ref 47, .int y5] [.int r8] (lay t ex o m7) k _ _
  exact AW.iret (pc := 82) dX5_start_82 rfl rfl (by omega) (by omega) (hQ _ _ hw)
def w_M_start (m : Mem) (K : Int32 → Mem → Prop) : Prop :=
  ∀ m1 : Mem, m1 = up2 m 47 0 (0 : Int32) → w_M_noteFlaws  m1 (fun m2 => (∀ J7 : Mem → Prop, (∀  (m6 : Mem), (w_M_clear m6 (fun m1 => w_M_start_36 m1 K)) → J7 m6) → (((m2 47 12) ≤ 0 → J7  m2) ∧ (¬ ((m2 47 12) ≤ 0) → (((3 : Int32) ≤ (m2 57 0) → J7  m2) ∧ (¬ ((3 : Int32) ≤ (m2 57 0)) → w_M_no (1 : Int32) m2 (fun r11 m10 => K r11 m10)))))))
set_option maxRecDepth 100000 in
set_option maxHeartbeats 4000000 in
theorem c_M_start {d k t : Nat} {ex : Hp} {o : Nat → Int64} {K : Int32 → Mem → Prop} {m : Mem} (ht : tok t) (hd : 6 ≤ d) (hk : kok t k) (hw : w_M_start m K) : AM mX5_start d [.ref 47] (lay t ex o m) k 32 1086 (fun oc h' k' => ∃ (t' : Nat) (ex' : Hp) (r : Int32) (m' : Mem), tok t' ∧ kok t' k' ∧ oc = .inl (some (.int r)) ∧ h' = lay t' ex' o m' ∧ K r m') := by
  unfold w_M_start at hw
  refine AM.intro (μ := mX5_start) (n := 1) (by decide) rfl rfl rfl ?_
  have key : ∀ (Z : Gz) (k0 : Nat) (Q : Po) (cs ss mc ms : Nat), cs + 32 ≤ mc → ss + 1086 ≤ ms → (∀ {k2 t2 : Nat} {ex2 : Hp}, tok t2 → kok t2 k2 → ∀ (r : Int32) (m : Mem), K r m → Q (.inl (some (.int r))) (lay t2 ex2 o m) k2) → AW Z mX5_start d k0 mc ms Q 0 [.ref 47, .null] [] (lay t ex o m) k cs ss := by
    intro Z k0 Q cs ss mc ms hcs hss hQ
    refine AW.aload_n (pc := 0) dX5_start_0 rfl rfl ?_
    refine AW.iconst (v := 0) (pc := 1) dX5_start_1 (by decide) ?_
    have hw := hw _ rfl
    refine LW.put (pc := 2) (f := 0) (ci := 5) (T := TX5) ht (by decide) rfl sp_47_0 dX5_start_2 tw_798 rfl (by decide) (Nat.le_of_ble_eq_true rfl) rfl ⟨rfl, rfl⟩ ?_
    generalize up2 m 47 0 (0 : Int32) = m1 at hw ⊢
    refine AW.aload_n (pc := 5) dX5_start_5 rfl rfl ?_
    refine AW.callV (pc := 6) (S' := []) dX5_start_6 (c_M_noteFlaws (d := d - 1) ht (by omega) hk hw) ok_X5_noteFlaws tw_906 ts_36 tw_904 (fix_pos (by decide)) (lay_at ht (by decide)) (show aw_cl[5]? = some _ from rfl) rfl rfl (by omega) rfl (Nat.le_of_ble_eq_true rfl) (by omega) (by omega) ?_ (fun E h' k' hq => by obtain ⟨ex4, m2, hx5, hv, -⟩ := hq; cases hv)
    intro v h' k3 hq
    obtain ⟨ex4, m2, hx5, hv, rfl, hw⟩ := hq
    cases hv
    show AW _ _ _ _ _ _ _ 9 [.ref 47, .null] [] (lay t ex4 o m2) k3 _ _
    refine AW.aload_n (pc := 9) dX5_start_9 rfl rfl ?_
    refine LW.get (pc := 10) (f := 12) (ci := 5) (T := TX5) ht (by decide) rfl dX5_start_10 tw_810 rfl (by decide) rfl ?_
    have hw := hw (fun m6 => AW Z mX5_start d k0 mc ms Q 32 [.ref 47, .null] [] (lay t ex4 o m6) k3 (cs + 31) (ss + 744)) (by
        intro m6 hw
        refine AW.aload_n (pc := 32) dX5_start_32 rfl rfl ?_
        refine AW.callV (pc := 33) (S' := []) dX5_start_33 (c_M_clear (d := d - 1) ht (by omega) (hk.le hx5) hw) ok_X5_clear tw_796 ts_31 tw_794 (fix_pos (by decide)) (lay_at ht (by decide)) (show aw_cl[5]? = some _ from rfl) rfl rfl (by omega) rfl (Nat.le_of_ble_eq_true rfl) (by omega) (by omega) ?_ (fun E h' k' hq => by obtain ⟨_, _, _, -, -, hv, -⟩ := hq; cases hv)
        intro v h' k' hq
        obtain ⟨t2, ex9, m9, ht2, hk2, hv, rfl, hw⟩ := hq
        cases hv
        exact b_M_start_36 ht2 (by omega) (by omega) (by omega) (fun r m hK => hQ ht2 hk2 r m hK) hw)
    refine AW.if_le (pc := 13) (tgt := 32) dX5_start_13 (by decide) (fun c8 => ?_) (fun c8 => ?_)
    · have hw := hw.1 c8
      exact hw
    · have hw := hw.2 c8
      refine AW.aload_n (pc := 16) dX5_start_16 rfl rfl ?_
      refine LW.get (pc := 17) (f := 13) (ci := 5) (T := TX5) ht (by decide) rfl dX5_start_17 tw_811 rfl (by decide) rfl ?_
      refine AW.iconst (v := 0) (pc := 20) dX5_start_20 (by decide) ?_
      refine LW.iald (pc := 21) (j := 0) ht (by decide) rfl dX5_start_21 (vp_lit (by decide)) (by decide) ?_
      refine AW.iconst (v := 3) (pc := 22) dX5_start_22 (by decide) ?_
      refine AW.icmp_ge (pc := 23) (tgt := 32) dX5_start_23 (by decide) (fun c9 => ?_) (fun c9 => ?_)
      · have hw := hw.1 c9
        exact hw
      · have hw := hw.2 c9
        refine AW.aload_n (pc := 26) dX5_start_26 rfl rfl ?_
        refine AW.iconst (v := 1) (pc := 27) dX5_start_27 (by decide) ?_
        refine AW.callV (pc := 28) (S' := []) dX5_start_28 (c_M_no (d := d - 1) ht (by omega) hw) ok_X5_no tw_863 ts_32 tw_861 (fix_pos (by decide)) (lay_at ht (by decide)) (show aw_cl[5]? = some _ from rfl) rfl rfl (by omega) rfl (Nat.le_of_ble_eq_true rfl) (by omega) (by omega) ?_ (fun E h' k' hq => by obtain ⟨rfl, r11, m10, hv, -⟩ := hq; cases hv)
        intro v h' k' hq
        obtain ⟨rfl, r11, m10, hv, rfl, hw⟩ := hq
        cases hv
        show AW _ _ _ _ _ _ _ 31 [.ref 47, .null] [.int r11] (lay t ex4 o m10) k3 _ _
        exact AW.iret (pc := 31) dX5_start_31 rfl rfl (by omega) (by omega) (hQ ht (hk.le hx5) _ _ hw)
  exact key _ _ _ 0 0 32 1086 (by omega) (by omega) (fun h1 h2 _ _ hK => ⟨_, _, _, _, h1, h2, rfl, rfl, hK⟩)
