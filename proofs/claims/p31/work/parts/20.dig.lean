/-! printed by wip/tools/gen.py: X4_digestOfCircuit, X4_digestOfRun, X4_digestOfTimes, X4_digestOfWires, X4_digest -/
abbrev mX4_digestOfCircuit : Mt := (yX4_digestOfCircuit, cX4_digestOfCircuit, 6, (some .long), [])
set_option maxRecDepth 20000 in
theorem ok_X4_digestOfCircuit : aw_mok mX4_digestOfCircuit 1 := ⟨rfl, tw_392, tw_2, ⟨by decide, by decide⟩, by decide +kernel, by decide⟩
abbrev mX4_digestOfRun : Mt := (yX4_digestOfRun, cX4_digestOfRun, 7, (some .long), [])
set_option maxRecDepth 20000 in
theorem ok_X4_digestOfRun : aw_mok mX4_digestOfRun 1 := ⟨rfl, tw_419, tw_2, ⟨by decide, by decide⟩, by decide +kernel, by decide⟩
abbrev mX4_digestOfTimes : Mt := (yX4_digestOfTimes, cX4_digestOfTimes, 6, (some .long), [])
set_option maxRecDepth 20000 in
theorem ok_X4_digestOfTimes : aw_mok mX4_digestOfTimes 1 := ⟨rfl, tw_387, tw_2, ⟨by decide, by decide⟩, by decide +kernel, by decide⟩
abbrev mX4_digestOfWires : Mt := (yX4_digestOfWires, cX4_digestOfWires, 7, (some .long), [])
set_option maxRecDepth 20000 in
theorem ok_X4_digestOfWires : aw_mok mX4_digestOfWires 1 := ⟨rfl, tw_403, tw_2, ⟨by decide, by decide⟩, by decide +kernel, by decide⟩
abbrev mX4_digest : Mt := (yX4_digest, cX4_digest, 3, (some .long), [])
set_option maxRecDepth 20000 in
theorem ok_X4_digest : aw_mok mX4_digest 0 := ⟨rfl, tw_368, tw_2, ⟨by decide, by decide⟩, by decide +kernel, by decide⟩
def w_N_digestOfCircuit_5 : Nat → Int64 → Int64 → Int32 → Mem → (Int64 → Int64 → Int32 → Mem → Prop) → (Int64 → Mem → Prop) → (String → Mem → Prop) → Prop
  | 0, _, _, _, _, _, _, _ => False
  | n + 1, x1, x3, x5, m, E53, K, X => (((m 14 4) ≤ x5 → E53 x1 x3 x5 m) ∧ (¬ ((m 14 4) ≤ x5) → w_N_ofFlaw x5 (0 : Int32) m (fun r3 m2 => w_N_ofFlaw x5 (1 : Int32) m2 (fun r5 m4 => w_N_digestOfCircuit_5 n x1 ((((x3 * (31 : Int64)) + r3.toInt64) * (31 : Int64)) + r5.toInt64) (x5 + 1) m4 E53 K X) X) X))
def w_N_digestOfCircuit_56 : Nat → Int64 → Int64 → Int32 → Mem → (Int64 → Int64 → Int32 → Mem → Prop) → (Int64 → Mem → Prop) → (String → Mem → Prop) → Prop
  | 0, _, _, _, _, _, _, _ => False
  | n + 1, x1, x3, x5, m, E83, K, X => (((6 : Int32) ≤ x5 → E83 x1 x3 x5 m) ∧ (¬ ((6 : Int32) ≤ x5) → w_N_way x5 m (fun r12 m11 => w_N_digestOfCircuit_56 n x1 ((x3 * (31 : Int64)) + r12.toInt64) (x5 + 1) m11 E83 K X)))
def w_N_digestOfCircuit (p1 : Int64) (m : Mem) (K : Int64 → Mem → Prop) (X : String → Mem → Prop) : Prop :=
  w_N_digestOfCircuit_5 55 p1 p1 (0 : Int32) m (fun y6 y7 y8 m9 => w_N_digestOfCircuit_56 7 y6 y7 (0 : Int32) m9 (fun y13 y14 y15 m16 => K y14 m16) K X) K X
set_option maxRecDepth 100000 in
set_option maxHeartbeats 4000000 in
theorem l_N_digestOfCircuit_5 {Z : Gz} {d k0 mc ms k t : Nat} {Q : Po} {ex : Hp} {o : Nat → Int64} {K : Int64 → Mem → Prop} {cB sB : Nat} {X : String → Mem → Prop} (ht : tok t) (hd : 6 ≤ d) (hQ : ∀ (r : Int64) (m : Mem), K r m → Q (.inl (some (.long r))) (lay t ex o m) k) (hX : ∀ (E : String) (m : Mem), X E m → Q (.inr E) (lay t ex o m) k) (hc1 : cB ≤ mc) (hs1 : sB ≤ ms) {E53 : Int64 → Int64 → Int32 → Mem → Prop} (hE53 : ∀ (x1 : Int64) (x3 : Int64) (x5 : Int32) (m : Mem), E53 x1 x3 x5 m → AW Z mX4_digestOfCircuit d k0 mc ms Q 53 [.ref 1, .long x1, .null, .long x3, .null, .int x5] [] (lay t ex o m) k cB sB) : ∀ (n : Nat) (x1 : Int64) (x3 : Int64) (x5 : Int32) (m : Mem) (cs ss : Nat), cs + n * 2 ≤ cB → ss + n * 12 ≤ sB → w_N_digestOfCircuit_5 n x1 x3 x5 m E53 K X → AW Z mX4_digestOfCircuit d k0 mc ms Q 5 [.ref 1, .long x1, .null, .long x3, .null, .int x5] [] (lay t ex o m) k cs ss := by
  intro n
  induction n with
  | zero =>
    intros; rename_i hw; exact absurd hw (by simp [w_N_digestOfCircuit_5])
  | succ n ih =>
    intro x1 x3 x5 m cs ss hc2 hs2 hw
    unfold w_N_digestOfCircuit_5 at hw
    refine AW.iload (pc := 5) dX4_digestOfCircuit_5 rfl ?_
    refine AW.aload_n (pc := 7) dX4_digestOfCircuit_7 rfl rfl ?_
    refine LW.get (pc := 8) (f := 1) (ci := 4) (T := TX4) ht (by decide) rfl dX4_digestOfCircuit_8 tw_621 rfl (by decide) rfl ?_
    refine LW.getN (pc := 11) (f := 4) (ci := 2) (T := TX2) ht (by decide) rfl dX4_digestOfCircuit_11 tw_516 rfl (by decide) rfl ?_
    refine AW.icmp_ge (pc := 14) (tgt := 53) dX4_digestOfCircuit_14 (by decide) (fun c1 => ?_) (fun c1 => ?_)
    · have hw := hw.1 c1
      refine AW.widen (cs' := cB) (ss' := sB) (by omega) (by omega) ?_
      exact hE53 x1 x3 x5 m hw
    · have hw := hw.2 c1
      refine AW.lload_n (pc := 17) dX4_digestOfCircuit_17 rfl rfl ?_
      refine AW.ldc2 (pc := 18) dX4_digestOfCircuit_18 tw_370 ?_
      refine AW.lmul (pc := 21) dX4_digestOfCircuit_21 ?_
      refine AW.aload_n (pc := 22) dX4_digestOfCircuit_22 rfl rfl ?_
      refine AW.iload (pc := 23) dX4_digestOfCircuit_23 rfl ?_
      refine AW.iconst (v := 0) (pc := 25) dX4_digestOfCircuit_25 (by decide) ?_
      refine AW.callV (pc := 26) (S' := [.long (x3 * (31 : Int64))]) dX4_digestOfCircuit_26 (c_N_ofFlaw (d := d - 1) ht (by omega) hw) ok_X4_ofFlaw tw_394 tw_395 tw_393 (fix_pos (by decide)) (lay_at ht (by decide)) (show aw_cl[4]? = some _ from rfl) rfl rfl (by omega) rfl (Nat.le_of_ble_eq_true rfl) (by omega) (by omega) ?_ ?_
      · intro v h' k' hq
        obtain ⟨rfl, m2, rfl, (⟨r3, hv, hw⟩ | ⟨E, hv, hw⟩)⟩ := hq
        · cases hv
          show AW _ _ _ _ _ _ _ 29 [.ref 1, .long x1, .null, .long x3, .null, .int x5] [.int r3, .long (x3 * (31 : Int64))] (lay t ex o m2) k _ _
          refine AW.i2l (pc := 29) dX4_digestOfCircuit_29 ?_
          refine AW.ladd (pc := 30) dX4_digestOfCircuit_30 ?_
          refine AW.lstore_n (L' := [.ref 1, .long x1, .null, .long ((x3 * (31 : Int64)) + r3.toInt64), .null, .int x5]) (pc := 31) dX4_digestOfCircuit_31 rfl (by decide) rfl rfl ?_
          refine AW.lload_n (pc := 32) dX4_digestOfCircuit_32 rfl rfl ?_
          refine AW.ldc2 (pc := 33) dX4_digestOfCircuit_33 tw_370 ?_
          refine AW.lmul (pc := 36) dX4_digestOfCircuit_36 ?_
          refine AW.aload_n (pc := 37) dX4_digestOfCircuit_37 rfl rfl ?_
          refine AW.iload (pc := 38) dX4_digestOfCircuit_38 rfl ?_
          refine AW.iconst (v := 1) (pc := 40) dX4_digestOfCircuit_40 (by decide) ?_
          refine AW.callV (pc := 41) (S' := [.long (((x3 * (31 : Int64)) + r3.toInt64) * (31 : Int64))]) dX4_digestOfCircuit_41 (c_N_ofFlaw (d := d - 1) ht (by omega) hw) ok_X4_ofFlaw tw_394 tw_395 tw_393 (fix_pos (by decide)) (lay_at ht (by decide)) (show aw_cl[4]? = some _ from rfl) rfl rfl (by omega) rfl (Nat.le_of_ble_eq_true rfl) (by omega) (by omega) ?_ ?_
          · intro v h' k' hq
            obtain ⟨rfl, m4, rfl, (⟨r5, hv, hw⟩ | ⟨E, hv, hw⟩)⟩ := hq
            · cases hv
              show AW _ _ _ _ _ _ _ 44 [.ref 1, .long x1, .null, .long ((x3 * (31 : Int64)) + r3.toInt64), .null, .int x5] [.int r5, .long (((x3 * (31 : Int64)) + r3.toInt64) * (31 : Int64))] (lay t ex o m4) k _ _
              refine AW.i2l (pc := 44) dX4_digestOfCircuit_44 ?_
              refine AW.ladd (pc := 45) dX4_digestOfCircuit_45 ?_
              refine AW.lstore_n (L' := [.ref 1, .long x1, .null, .long ((((x3 * (31 : Int64)) + r3.toInt64) * (31 : Int64)) + r5.toInt64), .null, .int x5]) (pc := 46) dX4_digestOfCircuit_46 rfl (by decide) rfl rfl ?_
              refine AW.iinc (v := (x5 + 1)) (L' := [.ref 1, .long x1, .null, .long ((((x3 * (31 : Int64)) + r3.toInt64) * (31 : Int64)) + r5.toInt64), .null, .int (x5 + 1)]) (pc := 47) dX4_digestOfCircuit_47 rfl rfl (by decide) rfl rfl ?_
              refine AW.goto (pc := 50) (tgt := 5) dX4_digestOfCircuit_50 (by decide) ?_
              exact ih x1 ((((x3 * (31 : Int64)) + r3.toInt64) * (31 : Int64)) + r5.toInt64) (x5 + 1) m4 _ _ (by omega) (by omega) hw
            · cases hv
          · intro E h' k' hq
            obtain ⟨rfl, m4, rfl, (⟨r5, hv, hw⟩ | ⟨E2, hv, hw⟩)⟩ := hq
            · cases hv
            · cases hv; exact AX.out rfl (by omega) (by omega) (hX _ _ hw)
        · cases hv
      · intro E h' k' hq
        obtain ⟨rfl, m2, rfl, (⟨r3, hv, hw⟩ | ⟨E2, hv, hw⟩)⟩ := hq
        · cases hv
        · cases hv; exact AX.out rfl (by omega) (by omega) (hX _ _ hw)
set_option maxRecDepth 100000 in
set_option maxHeartbeats 4000000 in
theorem l_N_digestOfCircuit_56 {Z : Gz} {d k0 mc ms cs ss k t : Nat} {Q : Po} {ex : Hp} {o : Nat → Int64} {K : Int64 → Mem → Prop}  {X : String → Mem → Prop} (ht : tok t) (hd : 6 ≤ d) (hcs : cs ≤ mc) (hss : ss ≤ ms) (hQ : ∀ (r : Int64) (m : Mem), K r m → Q (.inl (some (.long r))) (lay t ex o m) k) (hX : ∀ (E : String) (m : Mem), X E m → Q (.inr E) (lay t ex o m) k) {E83 : Int64 → Int64 → Int32 → Mem → Prop} (hE83 : ∀ (x1 : Int64) (x3 : Int64) (x5 : Int32) (m : Mem), E83 x1 x3 x5 m → AW Z mX4_digestOfCircuit d k0 mc ms Q 83 [.ref 1, .long x1, .null, .long x3, .null, .int x5] [] (lay t ex o m) k cs ss) : ∀ (n : Nat) (x1 : Int64) (x3 : Int64) (x5 : Int32) (m : Mem),  w_N_digestOfCircuit_56 n x1 x3 x5 m E83 K X → AW Z mX4_digestOfCircuit d k0 mc ms Q 56 [.ref 1, .long x1, .null, .long x3, .null, .int x5] [] (lay t ex o m) k cs ss := by
  intro n
  induction n with
  | zero =>
    intros; rename_i hw; exact absurd hw (by simp [w_N_digestOfCircuit_56])
  | succ n ih =>
    intro x1 x3 x5 m hw
    unfold w_N_digestOfCircuit_56 at hw
    refine AW.iload (pc := 56) dX4_digestOfCircuit_56 rfl ?_
    refine AW.bipush (v := 6) (pc := 58) dX4_digestOfCircuit_58 (by decide) ?_
    refine AW.icmp_ge (pc := 60) (tgt := 83) dX4_digestOfCircuit_60 (by decide) (fun c10 => ?_) (fun c10 => ?_)
    · have hw := hw.1 c10
      exact hE83 x1 x3 x5 m hw
    · have hw := hw.2 c10
      refine AW.lload_n (pc := 63) dX4_digestOfCircuit_63 rfl rfl ?_
      refine AW.ldc2 (pc := 64) dX4_digestOfCircuit_64 tw_370 ?_
      refine AW.lmul (pc := 67) dX4_digestOfCircuit_67 ?_
      refine AW.aload_n (pc := 68) dX4_digestOfCircuit_68 rfl rfl ?_
      refine AW.iload (pc := 69) dX4_digestOfCircuit_69 rfl ?_
      refine AW.callV (pc := 71) (S' := [.long (x3 * (31 : Int64))]) dX4_digestOfCircuit_71 (c_N_way (d := d - 1) ht (by omega) hw) ok_X4_way tw_109 tw_110 tw_399 (fix_pos (by decide)) (lay_at ht (by decide)) (show aw_cl[4]? = some _ from rfl) rfl rfl (by omega) rfl (Nat.le_of_ble_eq_true rfl) (by omega) (by omega) ?_ (fun E h' k' hq => by obtain ⟨rfl, r12, m11, hv, -⟩ := hq; cases hv)
      intro v h' k' hq
      obtain ⟨rfl, r12, m11, hv, rfl, hw⟩ := hq
      cases hv
      show AW _ _ _ _ _ _ _ 74 [.ref 1, .long x1, .null, .long x3, .null, .int x5] [.int r12, .long (x3 * (31 : Int64))] (lay t ex o m11) k _ _
      refine AW.i2l (pc := 74) dX4_digestOfCircuit_74 ?_
      refine AW.ladd (pc := 75) dX4_digestOfCircuit_75 ?_
      refine AW.lstore_n (L' := [.ref 1, .long x1, .null, .long ((x3 * (31 : Int64)) + r12.toInt64), .null, .int x5]) (pc := 76) dX4_digestOfCircuit_76 rfl (by decide) rfl rfl ?_
      refine AW.iinc (v := (x5 + 1)) (L' := [.ref 1, .long x1, .null, .long ((x3 * (31 : Int64)) + r12.toInt64), .null, .int (x5 + 1)]) (pc := 77) dX4_digestOfCircuit_77 rfl rfl (by decide) rfl rfl ?_
      refine AW.goto (pc := 80) (tgt := 56) dX4_digestOfCircuit_80 (by decide) ?_
      exact ih x1 ((x3 * (31 : Int64)) + r12.toInt64) (x5 + 1) m11 hw
set_option maxRecDepth 100000 in
set_option maxHeartbeats 4000000 in
theorem b_N_digestOfCircuit {Z : Gz} {d k0 mc ms cs ss k t : Nat} {Q : Po} {ex : Hp} {o : Nat → Int64} {K : Int64 → Mem → Prop}  {X : String → Mem → Prop} (ht : tok t) (hd : 6 ≤ d) (hcs : cs + 110 ≤ mc) (hss : ss + 660 ≤ ms) (hQ : ∀ (r : Int64) (m : Mem), K r m → Q (.inl (some (.long r))) (lay t ex o m) k) (hX : ∀ (E : String) (m : Mem), X E m → Q (.inr E) (lay t ex o m) k) {m : Mem} (p1 : Int64) (hw : w_N_digestOfCircuit p1 m K X) : AW Z mX4_digestOfCircuit d k0 mc ms Q 0 [.ref 1, .long p1, .null, .null, .null, .null] [] (lay t ex o m) k cs ss := by
  unfold w_N_digestOfCircuit at hw
  refine AW.lload_n (pc := 0) dX4_digestOfCircuit_0 rfl rfl ?_
  refine AW.lstore_n (L' := [.ref 1, .long p1, .null, .long p1, .null, .null]) (pc := 1) dX4_digestOfCircuit_1 rfl (by decide) rfl rfl ?_
  refine AW.iconst (v := 0) (pc := 2) dX4_digestOfCircuit_2 (by decide) ?_
  refine AW.istore (L' := [.ref 1, .long p1, .null, .long p1, .null, .int (0 : Int32)]) (pc := 3) dX4_digestOfCircuit_3 (by decide) rfl rfl ?_
  refine l_N_digestOfCircuit_5 (cB := cs + 110) (sB := ss + 660) ht hd hQ hX (by omega) (by omega) ?_ 55 p1 p1 (0 : Int32) m _ _ (by omega) (by omega) hw
  intro y6 y7 y8 m9 hw
  refine AW.iconst (v := 0) (pc := 53) dX4_digestOfCircuit_53 (by decide) ?_
  refine AW.istore (L' := [.ref 1, .long y6, .null, .long y7, .null, .int (0 : Int32)]) (pc := 54) dX4_digestOfCircuit_54 (by decide) rfl rfl ?_
  refine l_N_digestOfCircuit_56 ht hd (by omega) (by omega) hQ hX ?_ 7 y6 y7 (0 : Int32) m9 hw
  intro y13 y14 y15 m16 hw
  refine AW.lload_n (pc := 83) dX4_digestOfCircuit_83 rfl rfl ?_
  exact AW.lret (pc := 84) dX4_digestOfCircuit_84 rfl (by omega) (by omega) (hQ _ _ hw)
set_option maxRecDepth 100000 in
set_option maxHeartbeats 4000000 in
theorem c_N_digestOfCircuit {d k t : Nat} {ex : Hp} {o : Nat → Int64} {K : Int64 → Mem → Prop} {X : String → Mem → Prop} {m : Mem} {p1 : Int64} (ht : tok t) (hd : 6 ≤ d) (hw : w_N_digestOfCircuit p1 m K X) : AM mX4_digestOfCircuit d [.ref 1, .long p1] (lay t ex o m) k 110 660 (fun oc h' k' => k = k' ∧ ∃ (m' : Mem), h' = lay t ex o m' ∧ ((∃ r : Int64, oc = .inl (some (.long r)) ∧ K r m') ∨ ∃ E : String, oc = .inr E ∧ X E m')) :=
  AM.intro (μ := mX4_digestOfCircuit) (n := 3) (by decide) rfl rfl rfl (b_N_digestOfCircuit ht hd (by omega) (by omega) (fun _ _ hK => ⟨rfl, _, rfl, Or.inl ⟨_, rfl, hK⟩⟩) (fun _ _ hX => ⟨rfl, _, rfl, Or.inr ⟨_, rfl, hX⟩⟩) p1 hw)
def w_N_digestOfRun_5 : Nat → Int64 → Int64 → Int32 → Mem → (Int64 → Int64 → Int32 → Mem → Prop) → (Int64 → Mem → Prop) → (String → Mem → Prop) → Prop
  | 0, _, _, _, _, _, _, _ => False
  | n + 1, x1, x3, x5, m, E37, K, X => (((m 2 11) ≤ x5 → E37 x1 x3 x5 m) ∧ (¬ ((m 2 11) ≤ x5) → w_N_pending x5 m (fun r3 m2 => w_N_digestOfRun_5 n x1 ((x3 * (31 : Int64)) + r3.toInt64) (x5 + 1) m2 E37 K X) X))
def w_N_digestOfRun_67 : Nat → Int64 → Int64 → Int32 → Int32 → Mem → (Int64 → Int64 → Int32 → Int32 → Mem → Prop) → (Int64 → Mem → Prop) → (String → Mem → Prop) → Prop
  | 0, _, _, _, _, _, _, _, _ => False
  | n + 1, x1, x3, x5, x6, m, E95, K, X => (((2 : Int32) < x6 → E95 x1 x3 x5 x6 m) ∧ (¬ ((2 : Int32) < x6) → w_N_ofHazard x5 x6 m (fun r13 m12 => w_N_digestOfRun_67 n x1 ((x3 * (31 : Int64)) + r13.toInt64) x5 (x6 + 1) m12 E95 K X) X))
def w_N_digestOfRun_52 : Nat → Int64 → Int64 → Int32 → Mem → (Int64 → Int64 → Int32 → Mem → Prop) → (Int64 → Mem → Prop) → (String → Mem → Prop) → Prop
  | 0, _, _, _, _, _, _, _ => False
  | n + 1, x1, x3, x5, m, E101, K, X => (((m 23 12) ≤ x5 → E101 x1 x3 x5 m) ∧ (¬ ((m 23 12) ≤ x5) → w_N_digestOfRun_67 4 x1 x3 x5 (0 : Int32) m (fun y14 y15 y16 y17 m18 => w_N_digestOfRun_52 n y14 y15 (y16 + 1) m18 E101 K X) K X))
def w_N_digestOfRun (p1 : Int64) (m : Mem) (K : Int64 → Mem → Prop) (X : String → Mem → Prop) : Prop :=
  w_N_digestOfRun_5 31 p1 p1 (0 : Int32) m (fun y4 y5 y6 m7 => w_N_hazards  m7 (fun r9 m8 => w_N_digestOfRun_52 41 y4 ((y5 * (31 : Int64)) + r9.toInt64) (0 : Int32) m8 (fun y19 y20 y21 m22 => K y20 m22) K X)) K X
set_option maxRecDepth 100000 in
set_option maxHeartbeats 4000000 in
theorem l_N_digestOfRun_5 {Z : Gz} {d k0 mc ms k t : Nat} {Q : Po} {ex : Hp} {o : Nat → Int64} {K : Int64 → Mem → Prop} {cB sB : Nat} {X : String → Mem → Prop} (ht : tok t) (hd : 4 ≤ d) (hQ : ∀ (r : Int64) (m : Mem), K r m → Q (.inl (some (.long r))) (lay t ex o m) k) (hX : ∀ (E : String) (m : Mem), X E m → Q (.inr E) (lay t ex o m) k) (hc1 : cB ≤ mc) (hs1 : sB ≤ ms) {E37 : Int64 → Int64 → Int32 → Mem → Prop} (hE37 : ∀ (x1 : Int64) (x3 : Int64) (x5 : Int32) (m : Mem), E37 x1 x3 x5 m → AW Z mX4_digestOfRun d k0 mc ms Q 37 [.ref 1, .long x1, .null, .long x3, .null, .int x5, .null] [] (lay t ex o m) k cB sB) : ∀ (n : Nat) (x1 : Int64) (x3 : Int64) (x5 : Int32) (m : Mem) (cs ss : Nat), cs + n * 1 ≤ cB → ss + n * 6 ≤ sB → w_N_digestOfRun_5 n x1 x3 x5 m E37 K X → AW Z mX4_digestOfRun d k0 mc ms Q 5 [.ref 1, .long x1, .null, .long x3, .null, .int x5, .null] [] (lay t ex o m) k cs ss := by
  intro n
  induction n with
  | zero =>
    intros; rename_i hw; exact absurd hw (by simp [w_N_digestOfRun_5])
  | succ n ih =>
    intro x1 x3 x5 m cs ss hc2 hs2 hw
    unfold w_N_digestOfRun_5 at hw
    refine AW.iload (pc := 5) dX4_digestOfRun_5 rfl ?_
    refine AW.aload_n (pc := 7) dX4_digestOfRun_7 rfl rfl ?_
    refine LW.get (pc := 8) (f := 0) (ci := 4) (T := TX4) ht (by decide) rfl dX4_digestOfRun_8 tw_620 rfl (by decide) rfl ?_
    refine LW.getN (pc := 11) (f := 11) (ci := 1) (T := TX1) ht (by decide) rfl dX4_digestOfRun_11 tw_475 rfl (by decide) rfl ?_
    refine AW.icmp_ge (pc := 14) (tgt := 37) dX4_digestOfRun_14 (by decide) (fun c1 => ?_) (fun c1 => ?_)
    · have hw := hw.1 c1
      refine AW.widen (cs' := cB) (ss' := sB) (by omega) (by omega) ?_
      exact hE37 x1 x3 x5 m hw
    · have hw := hw.2 c1
      refine AW.lload_n (pc := 17) dX4_digestOfRun_17 rfl rfl ?_
      refine AW.ldc2 (pc := 18) dX4_digestOfRun_18 tw_370 ?_
      refine AW.lmul (pc := 21) dX4_digestOfRun_21 ?_
      refine AW.aload_n (pc := 22) dX4_digestOfRun_22 rfl rfl ?_
      refine AW.iload (pc := 23) dX4_digestOfRun_23 rfl ?_
      refine AW.callV (pc := 25) (S' := [.long (x3 * (31 : Int64))]) dX4_digestOfRun_25 (c_N_pending (d := d - 1) ht (by omega) hw) ok_X4_pending tw_312 tw_313 tw_420 (fix_pos (by decide)) (lay_at ht (by decide)) (show aw_cl[4]? = some _ from rfl) rfl rfl (by omega) rfl (Nat.le_of_ble_eq_true rfl) (by omega) (by omega) ?_ ?_
      · intro v h' k' hq
        obtain ⟨rfl, m2, rfl, (⟨r3, hv, hw⟩ | ⟨E, hv, hw⟩)⟩ := hq
        · cases hv
          show AW _ _ _ _ _ _ _ 28 [.ref 1, .long x1, .null, .long x3, .null, .int x5, .null] [.int r3, .long (x3 * (31 : Int64))] (lay t ex o m2) k _ _
          refine AW.i2l (pc := 28) dX4_digestOfRun_28 ?_
          refine AW.ladd (pc := 29) dX4_digestOfRun_29 ?_
          refine AW.lstore_n (L' := [.ref 1, .long x1, .null, .long ((x3 * (31 : Int64)) + r3.toInt64), .null, .int x5, .null]) (pc := 30) dX4_digestOfRun_30 rfl (by decide) rfl rfl ?_
          refine AW.iinc (v := (x5 + 1)) (L' := [.ref 1, .long x1, .null, .long ((x3 * (31 : Int64)) + r3.toInt64), .null, .int (x5 + 1), .null]) (pc := 31) dX4_digestOfRun_31 rfl rfl (by decide) rfl rfl ?_
          refine AW.goto (pc := 34) (tgt := 5) dX4_digestOfRun_34 (by decide) ?_
          exact ih x1 ((x3 * (31 : Int64)) + r3.toInt64) (x5 + 1) m2 _ _ (by omega) (by omega) hw
        · cases hv
      · intro E h' k' hq
        obtain ⟨rfl, m2, rfl, (⟨r3, hv, hw⟩ | ⟨E2, hv, hw⟩)⟩ := hq
        · cases hv
        · cases hv; exact AX.out rfl (by omega) (by omega) (hX _ _ hw)
set_option maxRecDepth 100000 in
set_option maxHeartbeats 4000000 in
theorem l_N_digestOfRun_67 {Z : Gz} {d k0 mc ms k t : Nat} {Q : Po} {ex : Hp} {o : Nat → Int64} {K : Int64 → Mem → Prop} {cB sB : Nat} {X : String → Mem → Prop} (ht : tok t) (hd : 4 ≤ d) (hQ : ∀ (r : Int64) (m : Mem), K r m → Q (.inl (some (.long r))) (lay t ex o m) k) (hX : ∀ (E : String) (m : Mem), X E m → Q (.inr E) (lay t ex o m) k) (hc1 : cB ≤ mc) (hs1 : sB ≤ ms) {E95 : Int64 → Int64 → Int32 → Int32 → Mem → Prop} (hE95 : ∀ (x1 : Int64) (x3 : Int64) (x5 : Int32) (x6 : Int32) (m : Mem), E95 x1 x3 x5 x6 m → AW Z mX4_digestOfRun d k0 mc ms Q 95 [.ref 1, .long x1, .null, .long x3, .null, .int x5, .int x6] [] (lay t ex o m) k cB sB) : ∀ (n : Nat) (x1 : Int64) (x3 : Int64) (x5 : Int32) (x6 : Int32) (m : Mem) (cs ss : Nat), cs + n * 1 ≤ cB → ss + n * 6 ≤ sB → w_N_digestOfRun_67 n x1 x3 x5 x6 m E95 K X → AW Z mX4_digestOfRun d k0 mc ms Q 67 [.ref 1, .long x1, .null, .long x3, .null, .int x5, .int x6] [] (lay t ex o m) k cs ss := by
  intro n
  induction n with
  | zero =>
    intros; rename_i hw; exact absurd hw (by simp [w_N_digestOfRun_67])
  | succ n ih =>
    intro x1 x3 x5 x6 m cs ss hc2 hs2 hw
    unfold w_N_digestOfRun_67 at hw
    refine AW.iload (pc := 67) dX4_digestOfRun_67 rfl ?_
    refine AW.iconst (v := 2) (pc := 69) dX4_digestOfRun_69 (by decide) ?_
    refine AW.icmp_gt (pc := 70) (tgt := 95) dX4_digestOfRun_70 (by decide) (fun c11 => ?_) (fun c11 => ?_)
    · have hw := hw.1 c11
      refine AW.widen (cs' := cB) (ss' := sB) (by omega) (by omega) ?_
      exact hE95 x1 x3 x5 x6 m hw
    · have hw := hw.2 c11
      refine AW.lload_n (pc := 73) dX4_digestOfRun_73 rfl rfl ?_
      refine AW.ldc2 (pc := 74) dX4_digestOfRun_74 tw_370 ?_
      refine AW.lmul (pc := 77) dX4_digestOfRun_77 ?_
      refine AW.aload_n (pc := 78) dX4_digestOfRun_78 rfl rfl ?_
      refine AW.iload (pc := 79) dX4_digestOfRun_79 rfl ?_
      refine AW.iload (pc := 81) dX4_digestOfRun_81 rfl ?_
      refine AW.callV (pc := 83) (S' := [.long (x3 * (31 : Int64))]) dX4_digestOfRun_83 (c_N_ofHazard (d := d - 1) ht (by omega) hw) ok_X4_ofHazard tw_325 tw_326 tw_422 (fix_pos (by decide)) (lay_at ht (by decide)) (show aw_cl[4]? = some _ from rfl) rfl rfl (by omega) rfl (Nat.le_of_ble_eq_true rfl) (by omega) (by omega) ?_ ?_
      · intro v h' k' hq
        obtain ⟨rfl, m12, rfl, (⟨r13, hv, hw⟩ | ⟨E, hv, hw⟩)⟩ := hq
        · cases hv
          show AW _ _ _ _ _ _ _ 86 [.ref 1, .long x1, .null, .long x3, .null, .int x5, .int x6] [.int r13, .long (x3 * (31 : Int64))] (lay t ex o m12) k _ _
          refine AW.i2l (pc := 86) dX4_digestOfRun_86 ?_
          refine AW.ladd (pc := 87) dX4_digestOfRun_87 ?_
          refine AW.lstore_n (L' := [.ref 1, .long x1, .null, .long ((x3 * (31 : Int64)) + r13.toInt64), .null, .int x5, .int x6]) (pc := 88) dX4_digestOfRun_88 rfl (by decide) rfl rfl ?_
          refine AW.iinc (v := (x6 + 1)) (L' := [.ref 1, .long x1, .null, .long ((x3 * (31 : Int64)) + r13.toInt64), .null, .int x5, .int (x6 + 1)]) (pc := 89) dX4_digestOfRun_89 rfl rfl (by decide) rfl rfl ?_
          refine AW.goto (pc := 92) (tgt := 67) dX4_digestOfRun_92 (by decide) ?_
          exact ih x1 ((x3 * (31 : Int64)) + r13.toInt64) x5 (x6 + 1) m12 _ _ (by omega) (by omega) hw
        · cases hv
      · intro E h' k' hq
        obtain ⟨rfl, m12, rfl, (⟨r13, hv, hw⟩ | ⟨E2, hv, hw⟩)⟩ := hq
        · cases hv
        · cases hv; exact AX.out rfl (by omega) (by omega) (hX _ _ hw)
set_option maxRecDepth 100000 in
set_option maxHeartbeats 4000000 in
theorem l_N_digestOfRun_52 {Z : Gz} {d k0 mc ms k t : Nat} {Q : Po} {ex : Hp} {o : Nat → Int64} {K : Int64 → Mem → Prop} {cB sB : Nat} {X : String → Mem → Prop} (ht : tok t) (hd : 4 ≤ d) (hQ : ∀ (r : Int64) (m : Mem), K r m → Q (.inl (some (.long r))) (lay t ex o m) k) (hX : ∀ (E : String) (m : Mem), X E m → Q (.inr E) (lay t ex o m) k) (hc1 : cB ≤ mc) (hs1 : sB ≤ ms) {E101 : Int64 → Int64 → Int32 → Mem → Prop} (hE101 : ∀ (x1 : Int64) (x3 : Int64) (x5 : Int32) (m : Mem), E101 x1 x3 x5 m → AW Z mX4_digestOfRun d k0 mc ms Q 101 [.ref 1, .long x1, .null, .long x3, .null, .int x5, .null] [] (lay t ex o m) k cB sB) : ∀ (n : Nat) (x1 : Int64) (x3 : Int64) (x5 : Int32) (m : Mem) (cs ss : Nat), cs + n * 4 ≤ cB → ss + n * 24 ≤ sB → w_N_digestOfRun_52 n x1 x3 x5 m E101 K X → AW Z mX4_digestOfRun d k0 mc ms Q 52 [.ref 1, .long x1, .null, .long x3, .null, .int x5, .null] [] (lay t ex o m) k cs ss := by
  intro n
  induction n with
  | zero =>
    intros; rename_i hw; exact absurd hw (by simp [w_N_digestOfRun_52])
  | succ n ih =>
    intro x1 x3 x5 m cs ss hc2 hs2 hw
    unfold w_N_digestOfRun_52 at hw
    refine AW.iload (pc := 52) dX4_digestOfRun_52 rfl ?_
    refine AW.aload_n (pc := 54) dX4_digestOfRun_54 rfl rfl ?_
    refine LW.get (pc := 55) (f := 4) (ci := 4) (T := TX4) ht (by decide) rfl dX4_digestOfRun_55 tw_624 rfl (by decide) rfl ?_
    refine LW.getN (pc := 58) (f := 12) (ci := 3) (T := TX3) ht (by decide) rfl dX4_digestOfRun_58 tw_573 rfl (by decide) rfl ?_
    refine AW.icmp_ge (pc := 61) (tgt := 101) dX4_digestOfRun_61 (by decide) (fun c10 => ?_) (fun c10 => ?_)
    · have hw := hw.1 c10
      refine AW.widen (cs' := cB) (ss' := sB) (by omega) (by omega) ?_
      exact hE101 x1 x3 x5 m hw
    · have hw := hw.2 c10
      refine AW.iconst (v := 0) (pc := 64) dX4_digestOfRun_64 (by decide) ?_
      refine AW.istore (L' := [.ref 1, .long x1, .null, .long x3, .null, .int x5, .int (0 : Int32)]) (pc := 65) dX4_digestOfRun_65 (by decide) rfl rfl ?_
      refine l_N_digestOfRun_67 (cB := cs + 4) (sB := ss + 24) ht hd hQ hX (by omega) (by omega) ?_ 4 x1 x3 x5 (0 : Int32) m _ _ (by omega) (by omega) hw
      intro y14 y15 y16 y17 m18 hw
      refine AW.iinc (v := (y16 + 1)) (L' := [.ref 1, .long y14, .null, .long y15, .null, .int (y16 + 1), .int y17]) (pc := 95) dX4_digestOfRun_95 rfl rfl (by decide) rfl rfl ?_
      refine AW.goto (pc := 98) (tgt := 52) dX4_digestOfRun_98 (by decide) ?_
      refine AW.locals (L' := [.ref 1, .long y14, .null, .long y15, .null, .int (y16 + 1), .null]) (aw_fewer_same (aw_fewer_same (aw_fewer_null (aw_fewer_same (aw_fewer_null (aw_fewer_same (aw_fewer_null aw_fewer_nil))))))) ?_
      exact ih y14 y15 (y16 + 1) m18 _ _ (by omega) (by omega) hw
set_option maxRecDepth 100000 in
set_option maxHeartbeats 4000000 in
theorem b_N_digestOfRun {Z : Gz} {d k0 mc ms cs ss k t : Nat} {Q : Po} {ex : Hp} {o : Nat → Int64} {K : Int64 → Mem → Prop}  {X : String → Mem → Prop} (ht : tok t) (hd : 4 ≤ d) (hcs : cs + 195 ≤ mc) (hss : ss + 1170 ≤ ms) (hQ : ∀ (r : Int64) (m : Mem), K r m → Q (.inl (some (.long r))) (lay t ex o m) k) (hX : ∀ (E : String) (m : Mem), X E m → Q (.inr E) (lay t ex o m) k) {m : Mem} (p1 : Int64) (hw : w_N_digestOfRun p1 m K X) : AW Z mX4_digestOfRun d k0 mc ms Q 0 [.ref 1, .long p1, .null, .null, .null, .null, .null] [] (lay t ex o m) k cs ss := by
  unfold w_N_digestOfRun at hw
  refine AW.lload_n (pc := 0) dX4_digestOfRun_0 rfl rfl ?_
  refine AW.lstore_n (L' := [.ref 1, .long p1, .null, .long p1, .null, .null, .null]) (pc := 1) dX4_digestOfRun_1 rfl (by decide) rfl rfl ?_
  refine AW.iconst (v := 0) (pc := 2) dX4_digestOfRun_2 (by decide) ?_
  refine AW.istore (L' := [.ref 1, .long p1, .null, .long p1, .null, .int (0 : Int32), .null]) (pc := 3) dX4_digestOfRun_3 (by decide) rfl rfl ?_
  refine l_N_digestOfRun_5 (cB := cs + 31) (sB := ss + 186) ht hd hQ hX (by omega) (by omega) ?_ 31 p1 p1 (0 : Int32) m _ _ (by omega) (by omega) hw
  intro y4 y5 y6 m7 hw
  refine AW.lload_n (pc := 37) dX4_digestOfRun_37 rfl rfl ?_
  refine AW.ldc2 (pc := 38) dX4_digestOfRun_38 tw_370 ?_
  refine AW.lmul (pc := 41) dX4_digestOfRun_41 ?_
  refine AW.aload_n (pc := 42) dX4_digestOfRun_42 rfl rfl ?_
  refine AW.callV (pc := 43) (S' := [.long (y5 * (31 : Int64))]) dX4_digestOfRun_43 (c_N_hazards (d := d - 1) ht (by omega) hw) ok_X4_hazards tw_321 tw_322 tw_421 (fix_pos (by decide)) (lay_at ht (by decide)) (show aw_cl[4]? = some _ from rfl) rfl rfl (by omega) rfl (Nat.le_of_ble_eq_true rfl) (by omega) (by omega) ?_ (fun E h' k' hq => by obtain ⟨rfl, r9, m8, hv, -⟩ := hq; cases hv)
  intro v h' k' hq
  obtain ⟨rfl, r9, m8, hv, rfl, hw⟩ := hq
  cases hv
  show AW _ _ _ _ _ _ _ 46 [.ref 1, .long y4, .null, .long y5, .null, .int y6, .null] [.int r9, .long (y5 * (31 : Int64))] (lay t ex o m8) k _ _
  refine AW.i2l (pc := 46) dX4_digestOfRun_46 ?_
  refine AW.ladd (pc := 47) dX4_digestOfRun_47 ?_
  refine AW.lstore_n (L' := [.ref 1, .long y4, .null, .long ((y5 * (31 : Int64)) + r9.toInt64), .null, .int y6, .null]) (pc := 48) dX4_digestOfRun_48 rfl (by decide) rfl rfl ?_
  refine AW.iconst (v := 0) (pc := 49) dX4_digestOfRun_49 (by decide) ?_
  refine AW.istore (L' := [.ref 1, .long y4, .null, .long ((y5 * (31 : Int64)) + r9.toInt64), .null, .int (0 : Int32), .null]) (pc := 50) dX4_digestOfRun_50 (by decide) rfl rfl ?_
  refine l_N_digestOfRun_52 (cB := cs + 195) (sB := ss + 1170) ht hd hQ hX (by omega) (by omega) ?_ 41 y4 ((y5 * (31 : Int64)) + r9.toInt64) (0 : Int32) m8 _ _ (by omega) (by omega) hw
  intro y19 y20 y21 m22 hw
  refine AW.lload_n (pc := 101) dX4_digestOfRun_101 rfl rfl ?_
  exact AW.lret (pc := 102) dX4_digestOfRun_102 rfl (by omega) (by omega) (hQ _ _ hw)
set_option maxRecDepth 100000 in
set_option maxHeartbeats 4000000 in
theorem c_N_digestOfRun {d k t : Nat} {ex : Hp} {o : Nat → Int64} {K : Int64 → Mem → Prop} {X : String → Mem → Prop} {m : Mem} {p1 : Int64} (ht : tok t) (hd : 4 ≤ d) (hw : w_N_digestOfRun p1 m K X) : AM mX4_digestOfRun d [.ref 1, .long p1] (lay t ex o m) k 195 1170 (fun oc h' k' => k = k' ∧ ∃ (m' : Mem), h' = lay t ex o m' ∧ ((∃ r : Int64, oc = .inl (some (.long r)) ∧ K r m') ∨ ∃ E : String, oc = .inr E ∧ X E m')) :=
  AM.intro (μ := mX4_digestOfRun) (n := 4) (by decide) rfl rfl rfl (b_N_digestOfRun ht hd (by omega) (by omega) (fun _ _ hK => ⟨rfl, _, rfl, Or.inl ⟨_, rfl, hK⟩⟩) (fun _ _ hX => ⟨rfl, _, rfl, Or.inr ⟨_, rfl, hX⟩⟩) p1 hw)
def w_N_digestOfTimes_5 : Nat → Int64 → Int64 → Int32 → Mem → (Int64 → Int64 → Int32 → Mem → Prop) → (Int64 → Mem → Prop) → (String → Mem → Prop) → Prop
  | 0, _, _, _, _, _, _, _ => False
  | n + 1, x1, x3, x5, m, E31, K, X => (((5 : Int32) < x5 → E31 x1 x3 x5 m) ∧ (¬ ((5 : Int32) < x5) → w_N_told x5 m (fun r3 m2 => w_N_digestOfTimes_5 n x1 ((x3 * (31 : Int64)) + r3.toInt64) (x5 + 1) m2 E31 K X) X))
def w_N_digestOfTimes (p1 : Int64) (m : Mem) (K : Int64 → Mem → Prop) (X : String → Mem → Prop) : Prop :=
  w_N_digestOfTimes_5 7 p1 p1 (0 : Int32) m (fun y4 y5 y6 m7 => K y5 m7) K X
set_option maxRecDepth 100000 in
set_option maxHeartbeats 4000000 in
theorem l_N_digestOfTimes_5 {Z : Gz} {d k0 mc ms k t : Nat} {Q : Po} {ex : Hp} {o : Nat → Int64} {K : Int64 → Mem → Prop} {cB sB : Nat} {X : String → Mem → Prop} (ht : tok t) (hd : 6 ≤ d) (hQ : ∀ (r : Int64) (m : Mem), K r m → Q (.inl (some (.long r))) (lay t ex o m) k) (hX : ∀ (E : String) (m : Mem), X E m → Q (.inr E) (lay t ex o m) k) (hc1 : cB ≤ mc) (hs1 : sB ≤ ms) {E31 : Int64 → Int64 → Int32 → Mem → Prop} (hE31 : ∀ (x1 : Int64) (x3 : Int64) (x5 : Int32) (m : Mem), E31 x1 x3 x5 m → AW Z mX4_digestOfTimes d k0 mc ms Q 31 [.ref 1, .long x1, .null, .long x3, .null, .int x5] [] (lay t ex o m) k cB sB) : ∀ (n : Nat) (x1 : Int64) (x3 : Int64) (x5 : Int32) (m : Mem) (cs ss : Nat), cs + n * 1 ≤ cB → ss + n * 6 ≤ sB → w_N_digestOfTimes_5 n x1 x3 x5 m E31 K X → AW Z mX4_digestOfTimes d k0 mc ms Q 5 [.ref 1, .long x1, .null, .long x3, .null, .int x5] [] (lay t ex o m) k cs ss := by
  intro n
  induction n with
  | zero =>
    intros; rename_i hw; exact absurd hw (by simp [w_N_digestOfTimes_5])
  | succ n ih =>
    intro x1 x3 x5 m cs ss hc2 hs2 hw
    unfold w_N_digestOfTimes_5 at hw
    refine AW.iload (pc := 5) dX4_digestOfTimes_5 rfl ?_
    refine AW.iconst (v := 5) (pc := 7) dX4_digestOfTimes_7 (by decide) ?_
    refine AW.icmp_gt (pc := 8) (tgt := 31) dX4_digestOfTimes_8 (by decide) (fun c1 => ?_) (fun c1 => ?_)
    · have hw := hw.1 c1
      refine AW.widen (cs' := cB) (ss' := sB) (by omega) (by omega) ?_
      exact hE31 x1 x3 x5 m hw
    · have hw := hw.2 c1
      refine AW.lload_n (pc := 11) dX4_digestOfTimes_11 rfl rfl ?_
      refine AW.ldc2 (pc := 12) dX4_digestOfTimes_12 tw_370 ?_
      refine AW.lmul (pc := 15) dX4_digestOfTimes_15 ?_
      refine AW.aload_n (pc := 16) dX4_digestOfTimes_16 rfl rfl ?_
      refine AW.iload (pc := 17) dX4_digestOfTimes_17 rfl ?_
      refine AW.callV (pc := 19) (S' := [.long (x3 * (31 : Int64))]) dX4_digestOfTimes_19 (c_N_told (d := d - 1) ht (by omega) hw) ok_X4_told tw_294 tw_295 tw_388 (fix_pos (by decide)) (lay_at ht (by decide)) (show aw_cl[4]? = some _ from rfl) rfl rfl (by omega) rfl (Nat.le_of_ble_eq_true rfl) (by omega) (by omega) ?_ ?_
      · intro v h' k' hq
        obtain ⟨rfl, m2, rfl, (⟨r3, hv, hw⟩ | ⟨E, hv, hw⟩)⟩ := hq
        · cases hv
          show AW _ _ _ _ _ _ _ 22 [.ref 1, .long x1, .null, .long x3, .null, .int x5] [.int r3, .long (x3 * (31 : Int64))] (lay t ex o m2) k _ _
          refine AW.i2l (pc := 22) dX4_digestOfTimes_22 ?_
          refine AW.ladd (pc := 23) dX4_digestOfTimes_23 ?_
          refine AW.lstore_n (L' := [.ref 1, .long x1, .null, .long ((x3 * (31 : Int64)) + r3.toInt64), .null, .int x5]) (pc := 24) dX4_digestOfTimes_24 rfl (by decide) rfl rfl ?_
          refine AW.iinc (v := (x5 + 1)) (L' := [.ref 1, .long x1, .null, .long ((x3 * (31 : Int64)) + r3.toInt64), .null, .int (x5 + 1)]) (pc := 25) dX4_digestOfTimes_25 rfl rfl (by decide) rfl rfl ?_
          refine AW.goto (pc := 28) (tgt := 5) dX4_digestOfTimes_28 (by decide) ?_
          exact ih x1 ((x3 * (31 : Int64)) + r3.toInt64) (x5 + 1) m2 _ _ (by omega) (by omega) hw
        · cases hv
      · intro E h' k' hq
        obtain ⟨rfl, m2, rfl, (⟨r3, hv, hw⟩ | ⟨E2, hv, hw⟩)⟩ := hq
        · cases hv
        · cases hv; exact AX.out rfl (by omega) (by omega) (hX _ _ hw)
set_option maxRecDepth 100000 in
set_option maxHeartbeats 4000000 in
theorem b_N_digestOfTimes {Z : Gz} {d k0 mc ms cs ss k t : Nat} {Q : Po} {ex : Hp} {o : Nat → Int64} {K : Int64 → Mem → Prop}  {X : String → Mem → Prop} (ht : tok t) (hd : 6 ≤ d) (hcs : cs + 7 ≤ mc) (hss : ss + 42 ≤ ms) (hQ : ∀ (r : Int64) (m : Mem), K r m → Q (.inl (some (.long r))) (lay t ex o m) k) (hX : ∀ (E : String) (m : Mem), X E m → Q (.inr E) (lay t ex o m) k) {m : Mem} (p1 : Int64) (hw : w_N_digestOfTimes p1 m K X) : AW Z mX4_digestOfTimes d k0 mc ms Q 0 [.ref 1, .long p1, .null, .null, .null, .null] [] (lay t ex o m) k cs ss := by
  unfold w_N_digestOfTimes at hw
  refine AW.lload_n (pc := 0) dX4_digestOfTimes_0 rfl rfl ?_
  refine AW.lstore_n (L' := [.ref 1, .long p1, .null, .long p1, .null, .null]) (pc := 1) dX4_digestOfTimes_1 rfl (by decide) rfl rfl ?_
  refine AW.iconst (v := 0) (pc := 2) dX4_digestOfTimes_2 (by decide) ?_
  refine AW.istore (L' := [.ref 1, .long p1, .null, .long p1, .null, .int (0 : Int32)]) (pc := 3) dX4_digestOfTimes_3 (by decide) rfl rfl ?_
  refine l_N_digestOfTimes_5 (cB := cs + 7) (sB := ss + 42) ht hd hQ hX (by omega) (by omega) ?_ 7 p1 p1 (0 : Int32) m _ _ (by omega) (by omega) hw
  intro y4 y5 y6 m7 hw
  refine AW.lload_n (pc := 31) dX4_digestOfTimes_31 rfl rfl ?_
  exact AW.lret (pc := 32) dX4_digestOfTimes_32 rfl (by omega) (by omega) (hQ _ _ hw)
set_option maxRecDepth 100000 in
set_option maxHeartbeats 4000000 in
theorem c_N_digestOfTimes {d k t : Nat} {ex : Hp} {o : Nat → Int64} {K : Int64 → Mem → Prop} {X : String → Mem → Prop} {m : Mem} {p1 : Int64} (ht : tok t) (hd : 6 ≤ d) (hw : w_N_digestOfTimes p1 m K X) : AM mX4_digestOfTimes d [.ref 1, .long p1] (lay t ex o m) k 7 42 (fun oc h' k' => k = k' ∧ ∃ (m' : Mem), h' = lay t ex o m' ∧ ((∃ r : Int64, oc = .inl (some (.long r)) ∧ K r m') ∨ ∃ E : String, oc = .inr E ∧ X E m')) :=
  AM.intro (μ := mX4_digestOfTimes) (n := 3) (by decide) rfl rfl rfl (b_N_digestOfTimes ht hd (by omega) (by omega) (fun _ _ hK => ⟨rfl, _, rfl, Or.inl ⟨_, rfl, hK⟩⟩) (fun _ _ hX => ⟨rfl, _, rfl, Or.inr ⟨_, rfl, hX⟩⟩) p1 hw)
def w_N_digestOfWires_43 : Nat → Int64 → Int64 → Int32 → Int32 → Mem → (Int64 → Int64 → Int32 → Int32 → Mem → Prop) → (Int64 → Mem → Prop) → (String → Mem → Prop) → Prop
  | 0, _, _, _, _, _, _, _, _ => False
  | n + 1, x1, x3, x5, x6, m, E71, K, X => (((3 : Int32) < x6 → E71 x1 x3 x5 x6 m) ∧ (¬ ((3 : Int32) < x6) → w_N_ofWire x5 x6 m (fun r8 m7 => w_N_digestOfWires_43 n x1 ((x3 * (31 : Int64)) + r8.toInt64) x5 (x6 + 1) m7 E71 K X) X))
def w_N_digestOfWires_5 : Nat → Int64 → Int64 → Int32 → Mem → (Int64 → Int64 → Int32 → Mem → Prop) → (Int64 → Mem → Prop) → (String → Mem → Prop) → Prop
  | 0, _, _, _, _, _, _, _ => False
  | n + 1, x1, x3, x5, m, E77, K, X => (((24 : Int32) ≤ x5 → E77 x1 x3 x5 m) ∧ (¬ ((24 : Int32) ≤ x5) → w_N_arrival x5 m (fun r3 m2 => w_N_users x5 m2 (fun r5 m4 => w_N_digestOfWires_43 5 x1 ((((x3 * (31 : Int64)) + r3.toInt64) * (31 : Int64)) + r5.toInt64) x5 (0 : Int32) m4 (fun y9 y10 y11 y12 m13 => w_N_digestOfWires_5 n y9 y10 (y11 + 1) m13 E77 K X) K X) X) X))
def w_N_digestOfWires (p1 : Int64) (m : Mem) (K : Int64 → Mem → Prop) (X : String → Mem → Prop) : Prop :=
  w_N_digestOfWires_5 25 p1 p1 (0 : Int32) m (fun y14 y15 y16 m17 => K y15 m17) K X
set_option maxRecDepth 100000 in
set_option maxHeartbeats 4000000 in
theorem l_N_digestOfWires_43 {Z : Gz} {d k0 mc ms k t : Nat} {Q : Po} {ex : Hp} {o : Nat → Int64} {K : Int64 → Mem → Prop} {cB sB : Nat} {X : String → Mem → Prop} (ht : tok t) (hd : 5 ≤ d) (hQ : ∀ (r : Int64) (m : Mem), K r m → Q (.inl (some (.long r))) (lay t ex o m) k) (hX : ∀ (E : String) (m : Mem), X E m → Q (.inr E) (lay t ex o m) k) (hc1 : cB ≤ mc) (hs1 : sB ≤ ms) {E71 : Int64 → Int64 → Int32 → Int32 → Mem → Prop} (hE71 : ∀ (x1 : Int64) (x3 : Int64) (x5 : Int32) (x6 : Int32) (m : Mem), E71 x1 x3 x5 x6 m → AW Z mX4_digestOfWires d k0 mc ms Q 71 [.ref 1, .long x1, .null, .long x3, .null, .int x5, .int x6] [] (lay t ex o m) k cB sB) : ∀ (n : Nat) (x1 : Int64) (x3 : Int64) (x5 : Int32) (x6 : Int32) (m : Mem) (cs ss : Nat), cs + n * 2 ≤ cB → ss + n * 12 ≤ sB → w_N_digestOfWires_43 n x1 x3 x5 x6 m E71 K X → AW Z mX4_digestOfWires d k0 mc ms Q 43 [.ref 1, .long x1, .null, .long x3, .null, .int x5, .int x6] [] (lay t ex o m) k cs ss := by
  intro n
  induction n with
  | zero =>
    intros; rename_i hw; exact absurd hw (by simp [w_N_digestOfWires_43])
  | succ n ih =>
    intro x1 x3 x5 x6 m cs ss hc2 hs2 hw
    unfold w_N_digestOfWires_43 at hw
    refine AW.iload (pc := 43) dX4_digestOfWires_43 rfl ?_
    refine AW.iconst (v := 3) (pc := 45) dX4_digestOfWires_45 (by decide) ?_
    refine AW.icmp_gt (pc := 46) (tgt := 71) dX4_digestOfWires_46 (by decide) (fun c6 => ?_) (fun c6 => ?_)
    · have hw := hw.1 c6
      refine AW.widen (cs' := cB) (ss' := sB) (by omega) (by omega) ?_
      exact hE71 x1 x3 x5 x6 m hw
    · have hw := hw.2 c6
      refine AW.lload_n (pc := 49) dX4_digestOfWires_49 rfl rfl ?_
      refine AW.ldc2 (pc := 50) dX4_digestOfWires_50 tw_370 ?_
      refine AW.lmul (pc := 53) dX4_digestOfWires_53 ?_
      refine AW.aload_n (pc := 54) dX4_digestOfWires_54 rfl rfl ?_
      refine AW.iload (pc := 55) dX4_digestOfWires_55 rfl ?_
      refine AW.iload (pc := 57) dX4_digestOfWires_57 rfl ?_
      refine AW.callV (pc := 59) (S' := [.long (x3 * (31 : Int64))]) dX4_digestOfWires_59 (c_N_ofWire (d := d - 1) ht (by omega) hw) ok_X4_ofWire tw_307 tw_308 tw_415 (fix_pos (by decide)) (lay_at ht (by decide)) (show aw_cl[4]? = some _ from rfl) rfl rfl (by omega) rfl (Nat.le_of_ble_eq_true rfl) (by omega) (by omega) ?_ ?_
      · intro v h' k' hq
        obtain ⟨rfl, m7, rfl, (⟨r8, hv, hw⟩ | ⟨E, hv, hw⟩)⟩ := hq
        · cases hv
          show AW _ _ _ _ _ _ _ 62 [.ref 1, .long x1, .null, .long x3, .null, .int x5, .int x6] [.int r8, .long (x3 * (31 : Int64))] (lay t ex o m7) k _ _
          refine AW.i2l (pc := 62) dX4_digestOfWires_62 ?_
          refine AW.ladd (pc := 63) dX4_digestOfWires_63 ?_
          refine AW.lstore_n (L' := [.ref 1, .long x1, .null, .long ((x3 * (31 : Int64)) + r8.toInt64), .null, .int x5, .int x6]) (pc := 64) dX4_digestOfWires_64 rfl (by decide) rfl rfl ?_
          refine AW.iinc (v := (x6 + 1)) (L' := [.ref 1, .long x1, .null, .long ((x3 * (31 : Int64)) + r8.toInt64), .null, .int x5, .int (x6 + 1)]) (pc := 65) dX4_digestOfWires_65 rfl rfl (by decide) rfl rfl ?_
          refine AW.goto (pc := 68) (tgt := 43) dX4_digestOfWires_68 (by decide) ?_
          exact ih x1 ((x3 * (31 : Int64)) + r8.toInt64) x5 (x6 + 1) m7 _ _ (by omega) (by omega) hw
        · cases hv
      · intro E h' k' hq
        obtain ⟨rfl, m7, rfl, (⟨r8, hv, hw⟩ | ⟨E2, hv, hw⟩)⟩ := hq
        · cases hv
        · cases hv; exact AX.out rfl (by omega) (by omega) (hX _ _ hw)
set_option maxRecDepth 100000 in
set_option maxHeartbeats 4000000 in
theorem l_N_digestOfWires_5 {Z : Gz} {d k0 mc ms k t : Nat} {Q : Po} {ex : Hp} {o : Nat → Int64} {K : Int64 → Mem → Prop} {cB sB : Nat} {X : String → Mem → Prop} (ht : tok t) (hd : 5 ≤ d) (hQ : ∀ (r : Int64) (m : Mem), K r m → Q (.inl (some (.long r))) (lay t ex o m) k) (hX : ∀ (E : String) (m : Mem), X E m → Q (.inr E) (lay t ex o m) k) (hc1 : cB ≤ mc) (hs1 : sB ≤ ms) {E77 : Int64 → Int64 → Int32 → Mem → Prop} (hE77 : ∀ (x1 : Int64) (x3 : Int64) (x5 : Int32) (m : Mem), E77 x1 x3 x5 m → AW Z mX4_digestOfWires d k0 mc ms Q 77 [.ref 1, .long x1, .null, .long x3, .null, .int x5, .null] [] (lay t ex o m) k cB sB) : ∀ (n : Nat) (x1 : Int64) (x3 : Int64) (x5 : Int32) (m : Mem) (cs ss : Nat), cs + n * 12 ≤ cB → ss + n * 72 ≤ sB → w_N_digestOfWires_5 n x1 x3 x5 m E77 K X → AW Z mX4_digestOfWires d k0 mc ms Q 5 [.ref 1, .long x1, .null, .long x3, .null, .int x5, .null] [] (lay t ex o m) k cs ss := by
  intro n
  induction n with
  | zero =>
    intros; rename_i hw; exact absurd hw (by simp [w_N_digestOfWires_5])
  | succ n ih =>
    intro x1 x3 x5 m cs ss hc2 hs2 hw
    unfold w_N_digestOfWires_5 at hw
    refine AW.iload (pc := 5) dX4_digestOfWires_5 rfl ?_
    refine AW.bipush (v := 24) (pc := 7) dX4_digestOfWires_7 (by decide) ?_
    refine AW.icmp_ge (pc := 9) (tgt := 77) dX4_digestOfWires_9 (by decide) (fun c1 => ?_) (fun c1 => ?_)
    · have hw := hw.1 c1
      refine AW.widen (cs' := cB) (ss' := sB) (by omega) (by omega) ?_
      exact hE77 x1 x3 x5 m hw
    · have hw := hw.2 c1
      refine AW.lload_n (pc := 12) dX4_digestOfWires_12 rfl rfl ?_
      refine AW.ldc2 (pc := 13) dX4_digestOfWires_13 tw_370 ?_
      refine AW.lmul (pc := 16) dX4_digestOfWires_16 ?_
      refine AW.aload_n (pc := 17) dX4_digestOfWires_17 rfl rfl ?_
      refine AW.iload (pc := 18) dX4_digestOfWires_18 rfl ?_
      refine AW.callV (pc := 20) (S' := [.long (x3 * (31 : Int64))]) dX4_digestOfWires_20 (c_N_arrival (d := d - 1) ht (by omega) hw) ok_X4_arrival tw_18 tw_19 tw_404 (fix_pos (by decide)) (lay_at ht (by decide)) (show aw_cl[4]? = some _ from rfl) rfl rfl (by omega) rfl (Nat.le_of_ble_eq_true rfl) (by omega) (by omega) ?_ ?_
      · intro v h' k' hq
        obtain ⟨rfl, m2, rfl, (⟨r3, hv, hw⟩ | ⟨E, hv, hw⟩)⟩ := hq
        · cases hv
          show AW _ _ _ _ _ _ _ 23 [.ref 1, .long x1, .null, .long x3, .null, .int x5, .null] [.int r3, .long (x3 * (31 : Int64))] (lay t ex o m2) k _ _
          refine AW.i2l (pc := 23) dX4_digestOfWires_23 ?_
          refine AW.ladd (pc := 24) dX4_digestOfWires_24 ?_
          refine AW.lstore_n (L' := [.ref 1, .long x1, .null, .long ((x3 * (31 : Int64)) + r3.toInt64), .null, .int x5, .null]) (pc := 25) dX4_digestOfWires_25 rfl (by decide) rfl rfl ?_
          refine AW.lload_n (pc := 26) dX4_digestOfWires_26 rfl rfl ?_
          refine AW.ldc2 (pc := 27) dX4_digestOfWires_27 tw_370 ?_
          refine AW.lmul (pc := 30) dX4_digestOfWires_30 ?_
          refine AW.aload_n (pc := 31) dX4_digestOfWires_31 rfl rfl ?_
          refine AW.iload (pc := 32) dX4_digestOfWires_32 rfl ?_
          refine AW.callV (pc := 34) (S' := [.long (((x3 * (31 : Int64)) + r3.toInt64) * (31 : Int64))]) dX4_digestOfWires_34 (c_N_users (d := d - 1) ht (by omega) hw) ok_X4_users tw_406 tw_407 tw_405 (fix_pos (by decide)) (lay_at ht (by decide)) (show aw_cl[4]? = some _ from rfl) rfl rfl (by omega) rfl (Nat.le_of_ble_eq_true rfl) (by omega) (by omega) ?_ ?_
          · intro v h' k' hq
            obtain ⟨rfl, m4, rfl, (⟨r5, hv, hw⟩ | ⟨E, hv, hw⟩)⟩ := hq
            · cases hv
              show AW _ _ _ _ _ _ _ 37 [.ref 1, .long x1, .null, .long ((x3 * (31 : Int64)) + r3.toInt64), .null, .int x5, .null] [.int r5, .long (((x3 * (31 : Int64)) + r3.toInt64) * (31 : Int64))] (lay t ex o m4) k _ _
              refine AW.i2l (pc := 37) dX4_digestOfWires_37 ?_
              refine AW.ladd (pc := 38) dX4_digestOfWires_38 ?_
              refine AW.lstore_n (L' := [.ref 1, .long x1, .null, .long ((((x3 * (31 : Int64)) + r3.toInt64) * (31 : Int64)) + r5.toInt64), .null, .int x5, .null]) (pc := 39) dX4_digestOfWires_39 rfl (by decide) rfl rfl ?_
              refine AW.iconst (v := 0) (pc := 40) dX4_digestOfWires_40 (by decide) ?_
              refine AW.istore (L' := [.ref 1, .long x1, .null, .long ((((x3 * (31 : Int64)) + r3.toInt64) * (31 : Int64)) + r5.toInt64), .null, .int x5, .int (0 : Int32)]) (pc := 41) dX4_digestOfWires_41 (by decide) rfl rfl ?_
              refine l_N_digestOfWires_43 (cB := cs + 12) (sB := ss + 72) ht hd hQ hX (by omega) (by omega) ?_ 5 x1 ((((x3 * (31 : Int64)) + r3.toInt64) * (31 : Int64)) + r5.toInt64) x5 (0 : Int32) m4 _ _ (by omega) (by omega) hw
              intro y9 y10 y11 y12 m13 hw
              refine AW.iinc (v := (y11 + 1)) (L' := [.ref 1, .long y9, .null, .long y10, .null, .int (y11 + 1), .int y12]) (pc := 71) dX4_digestOfWires_71 rfl rfl (by decide) rfl rfl ?_
              refine AW.goto (pc := 74) (tgt := 5) dX4_digestOfWires_74 (by decide) ?_
              refine AW.locals (L' := [.ref 1, .long y9, .null, .long y10, .null, .int (y11 + 1), .null]) (aw_fewer_same (aw_fewer_same (aw_fewer_null (aw_fewer_same (aw_fewer_null (aw_fewer_same (aw_fewer_null aw_fewer_nil))))))) ?_
              exact ih y9 y10 (y11 + 1) m13 _ _ (by omega) (by omega) hw
            · cases hv
          · intro E h' k' hq
            obtain ⟨rfl, m4, rfl, (⟨r5, hv, hw⟩ | ⟨E2, hv, hw⟩)⟩ := hq
            · cases hv
            · cases hv; exact AX.out rfl (by omega) (by omega) (hX _ _ hw)
        · cases hv
      · intro E h' k' hq
        obtain ⟨rfl, m2, rfl, (⟨r3, hv, hw⟩ | ⟨E2, hv, hw⟩)⟩ := hq
        · cases hv
        · cases hv; exact AX.out rfl (by omega) (by omega) (hX _ _ hw)
set_option maxRecDepth 100000 in
set_option maxHeartbeats 4000000 in
theorem b_N_digestOfWires {Z : Gz} {d k0 mc ms cs ss k t : Nat} {Q : Po} {ex : Hp} {o : Nat → Int64} {K : Int64 → Mem → Prop}  {X : String → Mem → Prop} (ht : tok t) (hd : 5 ≤ d) (hcs : cs + 300 ≤ mc) (hss : ss + 1800 ≤ ms) (hQ : ∀ (r : Int64) (m : Mem), K r m → Q (.inl (some (.long r))) (lay t ex o m) k) (hX : ∀ (E : String) (m : Mem), X E m → Q (.inr E) (lay t ex o m) k) {m : Mem} (p1 : Int64) (hw : w_N_digestOfWires p1 m K X) : AW Z mX4_digestOfWires d k0 mc ms Q 0 [.ref 1, .long p1, .null, .null, .null, .null, .null] [] (lay t ex o m) k cs ss := by
  unfold w_N_digestOfWires at hw
  refine AW.lload_n (pc := 0) dX4_digestOfWires_0 rfl rfl ?_
  refine AW.lstore_n (L' := [.ref 1, .long p1, .null, .long p1, .null, .null, .null]) (pc := 1) dX4_digestOfWires_1 rfl (by decide) rfl rfl ?_
  refine AW.iconst (v := 0) (pc := 2) dX4_digestOfWires_2 (by decide) ?_
  refine AW.istore (L' := [.ref 1, .long p1, .null, .long p1, .null, .int (0 : Int32), .null]) (pc := 3) dX4_digestOfWires_3 (by decide) rfl rfl ?_
  refine l_N_digestOfWires_5 (cB := cs + 300) (sB := ss + 1800) ht hd hQ hX (by omega) (by omega) ?_ 25 p1 p1 (0 : Int32) m _ _ (by omega) (by omega) hw
  intro y14 y15 y16 m17 hw
  refine AW.lload_n (pc := 77) dX4_digestOfWires_77 rfl rfl ?_
  exact AW.lret (pc := 78) dX4_digestOfWires_78 rfl (by omega) (by omega) (hQ _ _ hw)
set_option maxRecDepth 100000 in
set_option maxHeartbeats 4000000 in
theorem c_N_digestOfWires {d k t : Nat} {ex : Hp} {o : Nat → Int64} {K : Int64 → Mem → Prop} {X : String → Mem → Prop} {m : Mem} {p1 : Int64} (ht : tok t) (hd : 5 ≤ d) (hw : w_N_digestOfWires p1 m K X) : AM mX4_digestOfWires d [.ref 1, .long p1] (lay t ex o m) k 300 1800 (fun oc h' k' => k = k' ∧ ∃ (m' : Mem), h' = lay t ex o m' ∧ ((∃ r : Int64, oc = .inl (some (.long r)) ∧ K r m') ∨ ∃ E : String, oc = .inr E ∧ X E m')) :=
  AM.intro (μ := mX4_digestOfWires) (n := 4) (by decide) rfl rfl rfl (b_N_digestOfWires ht hd (by omega) (by omega) (fun _ _ hK => ⟨rfl, _, rfl, Or.inl ⟨_, rfl, hK⟩⟩) (fun _ _ hX => ⟨rfl, _, rfl, Or.inr ⟨_, rfl, hX⟩⟩) p1 hw)
def w_N_digest (m : Mem) (K : Int64 → Mem → Prop) (X : String → Mem → Prop) : Prop :=
  w_N_lines  m (fun r2 m1 => w_N_flaws  m1 (fun r4 m3 => w_N_longest  m3 (fun r6 m5 => w_N_isRunning  m5 (fun r8 m7 => (∀ J11 : Int32 → Mem → Prop, (∀ (v9 : Int32) (m10 : Mem), (w_N_digestOfTimes (((((((((58070 : Int64) * (31 : Int64)) + r2.toInt64) * (31 : Int64)) + r4.toInt64) * (31 : Int64)) + r6.toInt64) * (31 : Int64)) + v9.toInt64) m10 (fun r14 m13 => w_N_digestOfCircuit r14 m13 (fun r16 m15 => w_N_digestOfWires r16 m15 (fun r18 m17 => w_N_digestOfRun r18 m17 (fun r20 m19 => (((m19 1 6) = 0 → K r20 m19) ∧ (¬ ((m19 1 6) = 0) → w_N_settlesIn  m19 (fun r23 m22 => K ((r20 * (31 : Int64)) + r23.toInt64) m22) X))) X) X) X) X) → J11 v9 m10) → ((r8 = 0 → J11 (0 : Int32) m7) ∧ (¬ (r8 = 0) → J11 (1 : Int32) m7)))))))
set_option maxRecDepth 100000 in
set_option maxHeartbeats 4000000 in
theorem b_N_digest {Z : Gz} {d k0 mc ms cs ss k t : Nat} {Q : Po} {ex : Hp} {o : Nat → Int64} {K : Int64 → Mem → Prop}  {X : String → Mem → Prop} (ht : tok t) (hd : 8 ≤ d) (hcs : cs + 613 ≤ mc) (hss : ss + 3678 ≤ ms) (hQ : ∀ (r : Int64) (m : Mem), K r m → Q (.inl (some (.long r))) (lay t ex o m) k) (hX : ∀ (E : String) (m : Mem), X E m → Q (.inr E) (lay t ex o m) k) {m : Mem}  (hw : w_N_digest  m K X) : AW Z mX4_digest d k0 mc ms Q 0 [.ref 1, .null, .null] [] (lay t ex o m) k cs ss := by
  unfold w_N_digest at hw
  refine AW.ldc2 (pc := 0) dX4_digest_0 tw_369 ?_
  refine AW.lstore_n (L' := [.ref 1, .long (58070 : Int64), .null]) (pc := 3) dX4_digest_3 rfl (by decide) rfl rfl ?_
  refine AW.lload_n (pc := 4) dX4_digest_4 rfl rfl ?_
  refine AW.ldc2 (pc := 5) dX4_digest_5 tw_370 ?_
  refine AW.lmul (pc := 8) dX4_digest_8 ?_
  refine AW.aload_n (pc := 9) dX4_digest_9 rfl rfl ?_
  refine AW.callV (pc := 10) (S' := [.long ((58070 : Int64) * (31 : Int64))]) dX4_digest_10 (c_N_lines (d := d - 1) ht (by omega) hw) ok_X4_lines tw_372 tw_373 tw_371 (fix_pos (by decide)) (lay_at ht (by decide)) (show aw_cl[4]? = some _ from rfl) rfl rfl (by omega) rfl (Nat.le_of_ble_eq_true rfl) (by omega) (by omega) ?_ (fun E h' k' hq => by obtain ⟨rfl, r2, m1, hv, -⟩ := hq; cases hv)
  intro v h' k' hq
  obtain ⟨rfl, r2, m1, hv, rfl, hw⟩ := hq
  cases hv
  show AW _ _ _ _ _ _ _ 13 [.ref 1, .long (58070 : Int64), .null] [.int r2, .long ((58070 : Int64) * (31 : Int64))] (lay t ex o m1) k _ _
  refine AW.i2l (pc := 13) dX4_digest_13 ?_
  refine AW.ladd (pc := 14) dX4_digest_14 ?_
  refine AW.lstore_n (L' := [.ref 1, .long (((58070 : Int64) * (31 : Int64)) + r2.toInt64), .null]) (pc := 15) dX4_digest_15 rfl (by decide) rfl rfl ?_
  refine AW.lload_n (pc := 16) dX4_digest_16 rfl rfl ?_
  refine AW.ldc2 (pc := 17) dX4_digest_17 tw_370 ?_
  refine AW.lmul (pc := 20) dX4_digest_20 ?_
  refine AW.aload_n (pc := 21) dX4_digest_21 rfl rfl ?_
  refine AW.callV (pc := 22) (S' := [.long ((((58070 : Int64) * (31 : Int64)) + r2.toInt64) * (31 : Int64))]) dX4_digest_22 (c_N_flaws (d := d - 1) ht (by omega) hw) ok_X4_flaws tw_376 tw_377 tw_375 (fix_pos (by decide)) (lay_at ht (by decide)) (show aw_cl[4]? = some _ from rfl) rfl rfl (by omega) rfl (Nat.le_of_ble_eq_true rfl) (by omega) (by omega) ?_ (fun E h' k' hq => by obtain ⟨rfl, r4, m3, hv, -⟩ := hq; cases hv)
  intro v h' k' hq
  obtain ⟨rfl, r4, m3, hv, rfl, hw⟩ := hq
  cases hv
  show AW _ _ _ _ _ _ _ 25 [.ref 1, .long (((58070 : Int64) * (31 : Int64)) + r2.toInt64), .null] [.int r4, .long ((((58070 : Int64) * (31 : Int64)) + r2.toInt64) * (31 : Int64))] (lay t ex o m3) k _ _
  refine AW.i2l (pc := 25) dX4_digest_25 ?_
  refine AW.ladd (pc := 26) dX4_digest_26 ?_
  refine AW.lstore_n (L' := [.ref 1, .long (((((58070 : Int64) * (31 : Int64)) + r2.toInt64) * (31 : Int64)) + r4.toInt64), .null]) (pc := 27) dX4_digest_27 rfl (by decide) rfl rfl ?_
  refine AW.lload_n (pc := 28) dX4_digest_28 rfl rfl ?_
  refine AW.ldc2 (pc := 29) dX4_digest_29 tw_370 ?_
  refine AW.lmul (pc := 32) dX4_digest_32 ?_
  refine AW.aload_n (pc := 33) dX4_digest_33 rfl rfl ?_
  refine AW.callV (pc := 34) (S' := [.long ((((((58070 : Int64) * (31 : Int64)) + r2.toInt64) * (31 : Int64)) + r4.toInt64) * (31 : Int64))]) dX4_digest_34 (c_N_longest (d := d - 1) ht (by omega) hw) ok_X4_longest tw_98 tw_99 tw_379 (fix_pos (by decide)) (lay_at ht (by decide)) (show aw_cl[4]? = some _ from rfl) rfl rfl (by omega) rfl (Nat.le_of_ble_eq_true rfl) (by omega) (by omega) ?_ (fun E h' k' hq => by obtain ⟨rfl, r6, m5, hv, -⟩ := hq; cases hv)
  intro v h' k' hq
  obtain ⟨rfl, r6, m5, hv, rfl, hw⟩ := hq
  cases hv
  show AW _ _ _ _ _ _ _ 37 [.ref 1, .long (((((58070 : Int64) * (31 : Int64)) + r2.toInt64) * (31 : Int64)) + r4.toInt64), .null] [.int r6, .long ((((((58070 : Int64) * (31 : Int64)) + r2.toInt64) * (31 : Int64)) + r4.toInt64) * (31 : Int64))] (lay t ex o m5) k _ _
  refine AW.i2l (pc := 37) dX4_digest_37 ?_
  refine AW.ladd (pc := 38) dX4_digest_38 ?_
  refine AW.lstore_n (L' := [.ref 1, .long (((((((58070 : Int64) * (31 : Int64)) + r2.toInt64) * (31 : Int64)) + r4.toInt64) * (31 : Int64)) + r6.toInt64), .null]) (pc := 39) dX4_digest_39 rfl (by decide) rfl rfl ?_
  refine AW.lload_n (pc := 40) dX4_digest_40 rfl rfl ?_
  refine AW.ldc2 (pc := 41) dX4_digest_41 tw_370 ?_
  refine AW.lmul (pc := 44) dX4_digest_44 ?_
  refine AW.aload_n (pc := 45) dX4_digest_45 rfl rfl ?_
  refine AW.callV (pc := 46) (S' := [.long ((((((((58070 : Int64) * (31 : Int64)) + r2.toInt64) * (31 : Int64)) + r4.toInt64) * (31 : Int64)) + r6.toInt64) * (31 : Int64))]) dX4_digest_46 (c_N_isRunning (d := d - 1) ht (by omega) hw) ok_X4_isRunning tw_381 tw_382 tw_380 (fix_pos (by decide)) (lay_at ht (by decide)) (show aw_cl[4]? = some _ from rfl) rfl rfl (by omega) rfl (Nat.le_of_ble_eq_true rfl) (by omega) (by omega) ?_ (fun E h' k' hq => by obtain ⟨rfl, r8, m7, hv, -⟩ := hq; cases hv)
  intro v h' k' hq
  obtain ⟨rfl, r8, m7, hv, rfl, hw⟩ := hq
  cases hv
  show AW _ _ _ _ _ _ _ 49 [.ref 1, .long (((((((58070 : Int64) * (31 : Int64)) + r2.toInt64) * (31 : Int64)) + r4.toInt64) * (31 : Int64)) + r6.toInt64), .null] [.int r8, .long ((((((((58070 : Int64) * (31 : Int64)) + r2.toInt64) * (31 : Int64)) + r4.toInt64) * (31 : Int64)) + r6.toInt64) * (31 : Int64))] (lay t ex o m7) k _ _
  have hw := hw (fun v9 m10 => AW Z mX4_digest d k0 mc ms Q 57 [.ref 1, .long (((((((58070 : Int64) * (31 : Int64)) + r2.toInt64) * (31 : Int64)) + r4.toInt64) * (31 : Int64)) + r6.toInt64), .null] [.int v9, .long ((((((((58070 : Int64) * (31 : Int64)) + r2.toInt64) * (31 : Int64)) + r4.toInt64) * (31 : Int64)) + r6.toInt64) * (31 : Int64))] (lay t ex o m10) k (cs) (ss)) (by
      intro v9 m10 hw
      refine AW.i2l (pc := 57) dX4_digest_57 ?_
      refine AW.ladd (pc := 58) dX4_digest_58 ?_
      refine AW.lstore_n (L' := [.ref 1, .long (((((((((58070 : Int64) * (31 : Int64)) + r2.toInt64) * (31 : Int64)) + r4.toInt64) * (31 : Int64)) + r6.toInt64) * (31 : Int64)) + v9.toInt64), .null]) (pc := 59) dX4_digest_59 rfl (by decide) rfl rfl ?_
      refine AW.aload_n (pc := 60) dX4_digest_60 rfl rfl ?_
      refine AW.lload_n (pc := 61) dX4_digest_61 rfl rfl ?_
      refine AW.callV (pc := 62) (S' := []) dX4_digest_62 (c_N_digestOfTimes (d := d - 1) ht (by omega) hw) ok_X4_digestOfTimes tw_386 ts_20 tw_384 (fix_pos (by decide)) (lay_at ht (by decide)) (show aw_cl[4]? = some _ from rfl) rfl rfl (by omega) rfl (Nat.le_of_ble_eq_true rfl) (by omega) (by omega) ?_ ?_
      · intro v h' k' hq
        obtain ⟨rfl, m13, rfl, (⟨r14, hv, hw⟩ | ⟨E, hv, hw⟩)⟩ := hq
        · cases hv
          show AW _ _ _ _ _ _ _ 65 [.ref 1, .long (((((((((58070 : Int64) * (31 : Int64)) + r2.toInt64) * (31 : Int64)) + r4.toInt64) * (31 : Int64)) + r6.toInt64) * (31 : Int64)) + v9.toInt64), .null] [.long r14] (lay t ex o m13) k _ _
          refine AW.lstore_n (L' := [.ref 1, .long r14, .null]) (pc := 65) dX4_digest_65 rfl (by decide) rfl rfl ?_
          refine AW.aload_n (pc := 66) dX4_digest_66 rfl rfl ?_
          refine AW.lload_n (pc := 67) dX4_digest_67 rfl rfl ?_
          refine AW.callV (pc := 68) (S' := []) dX4_digest_68 (c_N_digestOfCircuit (d := d - 1) ht (by omega) hw) ok_X4_digestOfCircuit tw_391 ts_21 tw_389 (fix_pos (by decide)) (lay_at ht (by decide)) (show aw_cl[4]? = some _ from rfl) rfl rfl (by omega) rfl (Nat.le_of_ble_eq_true rfl) (by omega) (by omega) ?_ ?_
          · intro v h' k' hq
            obtain ⟨rfl, m15, rfl, (⟨r16, hv, hw⟩ | ⟨E, hv, hw⟩)⟩ := hq
            · cases hv
              show AW _ _ _ _ _ _ _ 71 [.ref 1, .long r14, .null] [.long r16] (lay t ex o m15) k _ _
              refine AW.lstore_n (L' := [.ref 1, .long r16, .null]) (pc := 71) dX4_digest_71 rfl (by decide) rfl rfl ?_
              refine AW.aload_n (pc := 72) dX4_digest_72 rfl rfl ?_
              refine AW.lload_n (pc := 73) dX4_digest_73 rfl rfl ?_
              refine AW.callV (pc := 74) (S' := []) dX4_digest_74 (c_N_digestOfWires (d := d - 1) ht (by omega) hw) ok_X4_digestOfWires tw_402 ts_22 tw_400 (fix_pos (by decide)) (lay_at ht (by decide)) (show aw_cl[4]? = some _ from rfl) rfl rfl (by omega) rfl (Nat.le_of_ble_eq_true rfl) (by omega) (by omega) ?_ ?_
              · intro v h' k' hq
                obtain ⟨rfl, m17, rfl, (⟨r18, hv, hw⟩ | ⟨E, hv, hw⟩)⟩ := hq
                · cases hv
                  show AW _ _ _ _ _ _ _ 77 [.ref 1, .long r16, .null] [.long r18] (lay t ex o m17) k _ _
                  refine AW.lstore_n (L' := [.ref 1, .long r18, .null]) (pc := 77) dX4_digest_77 rfl (by decide) rfl rfl ?_
                  refine AW.aload_n (pc := 78) dX4_digest_78 rfl rfl ?_
                  refine AW.lload_n (pc := 79) dX4_digest_79 rfl rfl ?_
                  refine AW.callV (pc := 80) (S' := []) dX4_digest_80 (c_N_digestOfRun (d := d - 1) ht (by omega) hw) ok_X4_digestOfRun tw_418 ts_23 tw_416 (fix_pos (by decide)) (lay_at ht (by decide)) (show aw_cl[4]? = some _ from rfl) rfl rfl (by omega) rfl (Nat.le_of_ble_eq_true rfl) (by omega) (by omega) ?_ ?_
                  · intro v h' k' hq
                    obtain ⟨rfl, m19, rfl, (⟨r20, hv, hw⟩ | ⟨E, hv, hw⟩)⟩ := hq
                    · cases hv
                      show AW _ _ _ _ _ _ _ 83 [.ref 1, .long r18, .null] [.long r20] (lay t ex o m19) k _ _
                      refine AW.lstore_n (L' := [.ref 1, .long r20, .null]) (pc := 83) dX4_digest_83 rfl (by decide) rfl rfl ?_
                      refine AW.aload_n (pc := 84) dX4_digest_84 rfl rfl ?_
                      refine LW.get (pc := 85) (f := 6) (ci := 4) (T := TX4) ht (by decide) rfl dX4_digest_85 tw_626 rfl (by decide) rfl ?_
                      refine AW.if_eq (pc := 88) (tgt := 105) dX4_digest_88 (by decide) (fun c21 => ?_) (fun c21 => ?_)
                      · have hw := hw.1 c21
                        refine AW.lload_n (pc := 105) dX4_digest_105 rfl rfl ?_
                        exact AW.lret (pc := 106) dX4_digest_106 rfl (by omega) (by omega) (hQ _ _ hw)
                      · have hw := hw.2 c21
                        refine AW.lload_n (pc := 91) dX4_digest_91 rfl rfl ?_
                        refine AW.ldc2 (pc := 92) dX4_digest_92 tw_370 ?_
                        refine AW.lmul (pc := 95) dX4_digest_95 ?_
                        refine AW.aload_n (pc := 96) dX4_digest_96 rfl rfl ?_
                        refine AW.callV (pc := 97) (S' := [.long (r20 * (31 : Int64))]) dX4_digest_97 (c_N_settlesIn (d := d - 1) ht (by omega) hw) ok_X4_settlesIn tw_339 tw_340 tw_423 (fix_pos (by decide)) (lay_at ht (by decide)) (show aw_cl[4]? = some _ from rfl) rfl rfl (by omega) rfl (Nat.le_of_ble_eq_true rfl) (by omega) (by omega) ?_ ?_
                        · intro v h' k' hq
                          obtain ⟨rfl, m22, rfl, (⟨r23, hv, hw⟩ | ⟨E, hv, hw⟩)⟩ := hq
                          · cases hv
                            show AW _ _ _ _ _ _ _ 100 [.ref 1, .long r20, .null] [.int r23, .long (r20 * (31 : Int64))] (lay t ex o m22) k _ _
                            refine AW.i2l (pc := 100) dX4_digest_100 ?_
                            refine AW.ladd (pc := 101) dX4_digest_101 ?_
                            refine AW.goto (pc := 102) (tgt := 106) dX4_digest_102 (by decide) ?_
                            exact AW.lret (pc := 106) dX4_digest_106 rfl (by omega) (by omega) (hQ _ _ hw)
                          · cases hv
                        · intro E h' k' hq
                          obtain ⟨rfl, m22, rfl, (⟨r23, hv, hw⟩ | ⟨E2, hv, hw⟩)⟩ := hq
                          · cases hv
                          · cases hv; exact AX.out rfl (by omega) (by omega) (hX _ _ hw)
                    · cases hv
                  · intro E h' k' hq
                    obtain ⟨rfl, m19, rfl, (⟨r20, hv, hw⟩ | ⟨E2, hv, hw⟩)⟩ := hq
                    · cases hv
                    · cases hv; exact AX.out rfl (by omega) (by omega) (hX _ _ hw)
                · cases hv
              · intro E h' k' hq
                obtain ⟨rfl, m17, rfl, (⟨r18, hv, hw⟩ | ⟨E2, hv, hw⟩)⟩ := hq
                · cases hv
                · cases hv; exact AX.out rfl (by omega) (by omega) (hX _ _ hw)
            · cases hv
          · intro E h' k' hq
            obtain ⟨rfl, m15, rfl, (⟨r16, hv, hw⟩ | ⟨E2, hv, hw⟩)⟩ := hq
            · cases hv
            · cases hv; exact AX.out rfl (by omega) (by omega) (hX _ _ hw)
        · cases hv
      · intro E h' k' hq
        obtain ⟨rfl, m13, rfl, (⟨r14, hv, hw⟩ | ⟨E2, hv, hw⟩)⟩ := hq
        · cases hv
        · cases hv; exact AX.out rfl (by omega) (by omega) (hX _ _ hw))
  refine AW.if_eq (pc := 49) (tgt := 56) dX4_digest_49 (by decide) (fun c12 => ?_) (fun c12 => ?_)
  · have hw := hw.1 c12
    refine AW.iconst (v := 0) (pc := 56) dX4_digest_56 (by decide) ?_
    exact hw
  · have hw := hw.2 c12
    refine AW.iconst (v := 1) (pc := 52) dX4_digest_52 (by decide) ?_
    refine AW.goto (pc := 53) (tgt := 57) dX4_digest_53 (by decide) ?_
    exact hw
set_option maxRecDepth 100000 in
set_option maxHeartbeats 4000000 in
theorem c_N_digest {d k t : Nat} {ex : Hp} {o : Nat → Int64} {K : Int64 → Mem → Prop} {X : String → Mem → Prop} {m : Mem}  (ht : tok t) (hd : 8 ≤ d) (hw : w_N_digest  m K X) : AM mX4_digest d [.ref 1] (lay t ex o m) k 613 3678 (fun oc h' k' => k = k' ∧ ∃ (m' : Mem), h' = lay t ex o m' ∧ ((∃ r : Int64, oc = .inl (some (.long r)) ∧ K r m') ∨ ∃ E : String, oc = .inr E ∧ X E m')) :=
  AM.intro (μ := mX4_digest) (n := 2) (by decide) rfl rfl rfl (b_N_digest ht hd (by omega) (by omega) (fun _ _ hK => ⟨rfl, _, rfl, Or.inl ⟨_, rfl, hK⟩⟩) (fun _ _ hX => ⟨rfl, _, rfl, Or.inr ⟨_, rfl, hX⟩⟩)  hw)
