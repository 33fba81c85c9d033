/-! printed by wip/tools/gen.py: X5_arrival, X5_longestNow, X5_noteFlaws, X5_wayNow, X5_digest, X5_flaws, X5_longest, X5_longestWith, X5_meanArrival, X5_ofFlaw, X5_settlesIn, X5_way -/
abbrev mX5_arrival : Mt := (yX5_arrival, cX5_arrival, 2, (some .int), [])
set_option maxRecDepth 20000 in
theorem ok_X5_arrival : aw_mok mX5_arrival 1 := ⟨rfl, tw_939, tw_8, ⟨by decide, by decide⟩, by decide +kernel, by decide⟩
abbrev mX5_longestNow : Mt := (yX5_longestNow, cX5_longestNow, 3, (some .int), [])
set_option maxRecDepth 20000 in
theorem ok_X5_longestNow : aw_mok mX5_longestNow 0 := ⟨rfl, tw_967, tw_8, ⟨by decide, by decide⟩, by decide +kernel, by decide⟩
abbrev mX5_noteFlaws : Mt := (yX5_noteFlaws, cX5_noteFlaws, 4, none, [])
set_option maxRecDepth 20000 in
theorem ok_X5_noteFlaws : aw_mok mX5_noteFlaws 0 := ⟨rfl, tw_907, tw_8, ⟨by decide, by decide⟩, by decide +kernel, by decide⟩
abbrev mX5_wayNow : Mt := (yX5_wayNow, cX5_wayNow, 5, (some .int), [])
set_option maxRecDepth 20000 in
theorem ok_X5_wayNow : aw_mok mX5_wayNow 1 := ⟨rfl, tw_975, tw_8, ⟨by decide, by decide⟩, by decide +kernel, by decide⟩
abbrev mX5_digest : Mt := (yX5_digest, cX5_digest, 5, (some .long), [])
set_option maxRecDepth 20000 in
theorem ok_X5_digest : aw_mok mX5_digest 0 := ⟨rfl, tw_1123, tw_8, ⟨by decide, by decide⟩, by decide +kernel, by decide⟩
abbrev mX5_flaws : Mt := (yX5_flaws, cX5_flaws, 1, (some .int), [])
set_option maxRecDepth 20000 in
theorem ok_X5_flaws : aw_mok mX5_flaws 0 := ⟨rfl, tw_903, tw_8, ⟨by decide, by decide⟩, by decide +kernel, by decide⟩
abbrev mX5_longest : Mt := (yX5_longest, cX5_longest, 1, (some .int), [])
set_option maxRecDepth 20000 in
theorem ok_X5_longest : aw_mok mX5_longest 0 := ⟨rfl, tw_963, tw_8, ⟨by decide, by decide⟩, by decide +kernel, by decide⟩
abbrev mX5_longestWith : Mt := (yX5_longestWith, cX5_longestWith, 5, (some .int), [])
set_option maxRecDepth 20000 in
theorem ok_X5_longestWith : aw_mok mX5_longestWith 2 := ⟨rfl, tw_1115, tw_8, ⟨by decide, by decide⟩, by decide +kernel, by decide⟩
abbrev mX5_meanArrival : Mt := (yX5_meanArrival, cX5_meanArrival, 4, (some .double), [])
set_option maxRecDepth 20000 in
theorem ok_X5_meanArrival : aw_mok mX5_meanArrival 0 := ⟨rfl, tw_1119, tw_8, ⟨by decide, by decide⟩, by decide +kernel, by decide⟩
abbrev mX5_ofFlaw : Mt := (yX5_ofFlaw, cX5_ofFlaw, 3, (some .int), [])
set_option maxRecDepth 20000 in
theorem ok_X5_ofFlaw : aw_mok mX5_ofFlaw 2 := ⟨rfl, tw_935, tw_8, ⟨by decide, by decide⟩, by decide +kernel, by decide⟩
abbrev mX5_settlesIn : Mt := (yX5_settlesIn, cX5_settlesIn, 1, (some .int), [])
set_option maxRecDepth 20000 in
theorem ok_X5_settlesIn : aw_mok mX5_settlesIn 0 := ⟨rfl, tw_1107, tw_8, ⟨by decide, by decide⟩, by decide +kernel, by decide⟩
abbrev mX5_way : Mt := (yX5_way, cX5_way, 2, (some .int), [])
set_option maxRecDepth 20000 in
theorem ok_X5_way : aw_mok mX5_way 1 := ⟨rfl, tw_971, tw_8, ⟨by decide, by decide⟩, by decide +kernel, by decide⟩
def w_M_arrival (p1 : Int32) (m : Mem) (K : Int32 → Mem → Prop) : Prop :=
  ∀ m1 : Mem, m1 = up2 m 47 0 (0 : Int32) → w_M_isWire p1 m1 (fun r3 m2 => ((¬ (r3 = 0) → w_M_tellArrivals  m2 (fun m5 => vp_in p1 24 ∧ K (m5 58 (p1).toNatClampNeg) m5)) ∧ (r3 = 0 → w_M_no (1 : Int32) m2 (fun r10 m9 => K r10 m9))))
set_option maxRecDepth 100000 in
set_option maxHeartbeats 4000000 in
theorem b_M_arrival {Z : Gz} {d k0 mc ms cs ss k t : Nat} {Q : Po} {ex : Hp} {o : Nat → Int64} {K : Int32 → Mem → Prop}  (ht : tok t) (hd : 36 ≤ d) (hcs : cs + 24 ≤ mc) (hss : ss + 576 ≤ ms) (hQ : ∀ {k2 : Nat} {ex2 : Hp}, exle k ex k2 ex2 → ∀ (r : Int32) (m : Mem), K r m → Q (.inl (some (.int r))) (lay t ex2 o m) k2) (hk : kok t k) {m : Mem} (p1 : Int32) (hw : w_M_arrival p1 m K) : AW Z mX5_arrival d k0 mc ms Q 0 [.ref 47, .int p1] [] (lay t ex o m) k cs ss := by
  unfold w_M_arrival at hw
  refine AW.aload_n (pc := 0) dX5_arrival_0 rfl rfl ?_
  refine AW.iconst (v := 0) (pc := 1) dX5_arrival_1 (by decide) ?_
  have hw := hw _ rfl
  refine LW.put (pc := 2) (f := 0) (ci := 5) (T := TX5) ht (by decide) rfl sp_47_0 dX5_arrival_2 tw_798 rfl (by decide) (Nat.le_of_ble_eq_true rfl) rfl ⟨rfl, rfl⟩ ?_
  generalize up2 m 47 0 (0 : Int32) = m1 at hw ⊢
  refine AW.iload_n (pc := 5) dX5_arrival_5 rfl rfl ?_
  refine AW.callS (pc := 6) (S' := []) dX5_arrival_6 (c_M_isWire (d := d - 1) ht (by omega) hw) ok_X5_isWire tw_856 tw_855 rfl (by omega) rfl (Nat.le_of_ble_eq_true rfl) (by omega) (by omega) ?_ (fun E h' k' hq => by obtain ⟨rfl, r3, m2, hv, -⟩ := hq; cases hv)
  intro v h' k' hq
  obtain ⟨rfl, r3, m2, hv, rfl, hw⟩ := hq
  cases hv
  show AW _ _ _ _ _ _ _ 9 [.ref 47, .int p1] [.int r3] (lay t ex o m2) k _ _
  refine AW.if_ne (pc := 9) (tgt := 18) dX5_arrival_9 (by decide) (fun c4 => ?_) (fun c4 => ?_)
  · have hw := hw.1 c4
    refine AW.aload_n (pc := 18) dX5_arrival_18 rfl rfl ?_
    refine AW.callV (pc := 19) (S' := []) dX5_arrival_19 (c_M_tellArrivals (d := d - 1) ht (by omega) hk hw) ok_X5_tellArrivals tw_942 ts_43 tw_940 (fix_pos (by decide)) (lay_at ht (by decide)) (show aw_cl[5]? = some _ from rfl) rfl rfl (by omega) rfl (Nat.le_of_ble_eq_true rfl) (by omega) (by omega) ?_ (fun E h' k' hq => by obtain ⟨ex7, m5, hx8, hv, -⟩ := hq; cases hv)
    intro v h' k6 hq
    obtain ⟨ex7, m5, hx8, hv, rfl, hw⟩ := hq
    cases hv
    show AW _ _ _ _ _ _ _ 22 [.ref 47, .int p1] [] (lay t ex7 o m5) k6 _ _
    refine AW.aload_n (pc := 22) dX5_arrival_22 rfl rfl ?_
    refine LW.get (pc := 23) (f := 14) (ci := 5) (T := TX5) ht (by decide) rfl dX5_arrival_23 tw_812 rfl (by decide) rfl ?_
    refine AW.iload_n (pc := 26) dX5_arrival_26 rfl rfl ?_
    obtain ⟨hin, hw⟩ := hw
    refine LW.iald (pc := 27) (j := p1.toNatClampNeg) ht (by decide) rfl dX5_arrival_27 hin rfl ?_
    exact AW.iret (pc := 28) dX5_arrival_28 rfl rfl (by omega) (by omega) (hQ hx8 _ _ hw)
  · have hw := hw.2 c4
    refine AW.aload_n (pc := 12) dX5_arrival_12 rfl rfl ?_
    refine AW.iconst (v := 1) (pc := 13) dX5_arrival_13 (by decide) ?_
    refine AW.callV (pc := 14) (S' := []) dX5_arrival_14 (c_M_no (d := d - 1) ht (by omega) hw) ok_X5_no tw_863 ts_32 tw_861 (fix_pos (by decide)) (lay_at ht (by decide)) (show aw_cl[5]? = some _ from rfl) rfl rfl (by omega) rfl (Nat.le_of_ble_eq_true rfl) (by omega) (by omega) ?_ (fun E h' k' hq => by obtain ⟨rfl, r10, m9, hv, -⟩ := hq; cases hv)
    intro v h' k' hq
    obtain ⟨rfl, r10, m9, hv, rfl, hw⟩ := hq
    cases hv
    show AW _ _ _ _ _ _ _ 17 [.ref 47, .int p1] [.int r10] (lay t ex o m9) k _ _
    exact AW.iret (pc := 17) dX5_arrival_17 rfl rfl (by omega) (by omega) (hQ (exle.refl _ _) _ _ hw)
set_option maxRecDepth 100000 in
set_option maxHeartbeats 4000000 in
theorem c_M_arrival {d k t : Nat} {ex : Hp} {o : Nat → Int64} {K : Int32 → Mem → Prop} {m : Mem} {p1 : Int32} (ht : tok t) (hd : 36 ≤ d) (hk : kok t k) (hw : w_M_arrival p1 m K) : AM mX5_arrival d [.ref 47, .int p1] (lay t ex o m) k 24 576 (fun oc h' k' => ∃ (ex' : Hp) (r : Int32) (m' : Mem), exle k ex k' ex' ∧ oc = .inl (some (.int r)) ∧ h' = lay t ex' o m' ∧ K r m') :=
  AM.intro (μ := mX5_arrival) (n := 0) (by decide) rfl rfl rfl (b_M_arrival ht hd (by omega) (by omega) (fun hx _ _ hK => ⟨_, _, _, hx, rfl, rfl, hK⟩) hk p1 hw)
def w_M_longestNow_8 : Nat → Int32 → Int32 → Mem → (Int32 → Int32 → Mem → Prop) → (Int32 → Mem → Prop) → Prop
  | 0, _, _, _, _, _ => False
  | n + 1, x1, x2, m, E31, K => (((24 : Int32) ≤ x2 → E31 x1 x2 m) ∧ (¬ ((24 : Int32) ≤ x2) → vp_in x2 24 ∧ w_M_longestNow_8 n (jmax x1 (m 58 (x2).toNatClampNeg)) (x2 + 1) m E31 K))
def w_M_longestNow (m : Mem) (K : Int32 → Mem → Prop) : Prop :=
  w_M_tellArrivals  m (fun m1 => w_M_longestNow_8 25 (0 : Int32) (0 : Int32) m1 (fun y6 y7 m8 => K y6 m8) K)
set_option maxRecDepth 100000 in
set_option maxHeartbeats 4000000 in
theorem l_M_longestNow_8 {Z : Gz} {d k0 mc ms cs ss k t : Nat} {Q : Po} {ex : Hp} {o : Nat → Int64} {K : Int32 → Mem → Prop}  (ht : tok t) (hd : 36 ≤ d) (hcs : cs ≤ mc) (hss : ss ≤ ms) (hQ : ∀ {k2 : Nat} {ex2 : Hp}, exle k ex k2 ex2 → ∀ (r : Int32) (m : Mem), K r m → Q (.inl (some (.int r))) (lay t ex2 o m) k2) (hk : kok t k) {k2 : Nat} {ex2 : Hp} (hx2 : exle k ex k2 ex2) {E31 : Int32 → Int32 → Mem → Prop} (hE31 : ∀ (x1 : Int32) (x2 : Int32) (m : Mem), E31 x1 x2 m → AW Z mX5_longestNow d k0 mc ms Q 31 [.ref 47, .int x1, .int x2] [] (lay t ex2 o m) k2 cs ss) : ∀ (n : Nat) (x1 : Int32) (x2 : Int32) (m : Mem),  w_M_longestNow_8 n x1 x2 m E31 K → AW Z mX5_longestNow d k0 mc ms Q 8 [.ref 47, .int x1, .int x2] [] (lay t ex2 o m) k2 cs ss := by
  intro n
  induction n with
  | zero =>
    intros; rename_i hw; exact absurd hw (by simp [w_M_longestNow_8])
  | succ n ih =>
    intro x1 x2 m hw
    unfold w_M_longestNow_8 at hw
    refine AW.iload_n (pc := 8) dX5_longestNow_8 rfl rfl ?_
    refine AW.bipush (v := 24) (pc := 9) dX5_longestNow_9 (by decide) ?_
    refine AW.icmp_ge (pc := 11) (tgt := 31) dX5_longestNow_11 (by decide) (fun c5 => ?_) (fun c5 => ?_)
    · have hw := hw.1 c5
      exact hE31 x1 x2 m hw
    · have hw := hw.2 c5
      refine AW.iload_n (pc := 14) dX5_longestNow_14 rfl rfl ?_
      refine AW.aload_n (pc := 15) dX5_longestNow_15 rfl rfl ?_
      refine LW.get (pc := 16) (f := 14) (ci := 5) (T := TX5) ht (by decide) rfl dX5_longestNow_16 tw_812 rfl (by decide) rfl ?_
      refine AW.iload_n (pc := 19) dX5_longestNow_19 rfl rfl ?_
      obtain ⟨hin, hw⟩ := hw
      refine LW.iald (pc := 20) (j := x2.toNatClampNeg) ht (by decide) rfl dX5_longestNow_20 hin rfl ?_
      refine AW.mmax (pc := 21) dX5_longestNow_21 tw_959 tw_269 tw_14 (Nat.le_of_ble_eq_true rfl) (by omega) (by omega) ?_
      refine AW.istore_n (L' := [.ref 47, .int (jmax x1 (m 58 (x2).toNatClampNeg)), .int x2]) (pc := 24) dX5_longestNow_24 rfl (by decide) rfl rfl ?_
      refine AW.iinc (v := (x2 + 1)) (L' := [.ref 47, .int (jmax x1 (m 58 (x2).toNatClampNeg)), .int (x2 + 1)]) (pc := 25) dX5_longestNow_25 rfl rfl (by decide) rfl rfl ?_
      refine AW.goto (pc := 28) (tgt := 8) dX5_longestNow_28 (by decide) ?_
      exact ih (jmax x1 (m 58 (x2).toNatClampNeg)) (x2 + 1) m hw
set_option maxRecDepth 100000 in
set_option maxHeartbeats 4000000 in
theorem b_M_longestNow {Z : Gz} {d k0 mc ms cs ss k t : Nat} {Q : Po} {ex : Hp} {o : Nat → Int64} {K : Int32 → Mem → Prop}  (ht : tok t) (hd : 36 ≤ d) (hcs : cs + 24 ≤ mc) (hss : ss + 576 ≤ ms) (hQ : ∀ {k2 : Nat} {ex2 : Hp}, exle k ex k2 ex2 → ∀ (r : Int32) (m : Mem), K r m → Q (.inl (some (.int r))) (lay t ex2 o m) k2) (hk : kok t k) {m : Mem}  (hw : w_M_longestNow  m K) : AW Z mX5_longestNow d k0 mc ms Q 0 [.ref 47, .null, .null] [] (lay t ex o m) k cs ss := by
  unfold w_M_longestNow at hw
  refine AW.aload_n (pc := 0) dX5_longestNow_0 rfl rfl ?_
  refine AW.callV (pc := 1) (S' := []) dX5_longestNow_1 (c_M_tellArrivals (d := d - 1) ht (by omega) hk hw) ok_X5_tellArrivals tw_942 ts_43 tw_940 (fix_pos (by decide)) (lay_at ht (by decide)) (show aw_cl[5]? = some _ from rfl) rfl rfl (by omega) rfl (Nat.le_of_ble_eq_true rfl) (by omega) (by omega) ?_ (fun E h' k' hq => by obtain ⟨ex3, m1, hx4, hv, -⟩ := hq; cases hv)
  intro v h' k2 hq
  obtain ⟨ex3, m1, hx4, hv, rfl, hw⟩ := hq
  cases hv
  show AW _ _ _ _ _ _ _ 4 [.ref 47, .null, .null] [] (lay t ex3 o m1) k2 _ _
  refine AW.iconst (v := 0) (pc := 4) dX5_longestNow_4 (by decide) ?_
  refine AW.istore_n (L' := [.ref 47, .int (0 : Int32), .null]) (pc := 5) dX5_longestNow_5 rfl (by decide) rfl rfl ?_
  refine AW.iconst (v := 0) (pc := 6) dX5_longestNow_6 (by decide) ?_
  refine AW.istore_n (L' := [.ref 47, .int (0 : Int32), .int (0 : Int32)]) (pc := 7) dX5_longestNow_7 rfl (by decide) rfl rfl ?_
  refine l_M_longestNow_8 ht hd (by omega) (by omega) hQ hk hx4 ?_ 25 (0 : Int32) (0 : Int32) m1 hw
  intro y6 y7 m8 hw
  refine AW.iload_n (pc := 31) dX5_longestNow_31 rfl rfl ?_
  exact AW.iret (pc := 32) dX5_longestNow_32 rfl rfl (by omega) (by omega) (hQ hx4 _ _ hw)
set_option maxRecDepth 100000 in
set_option maxHeartbeats 4000000 in
theorem c_M_longestNow {d k t : Nat} {ex : Hp} {o : Nat → Int64} {K : Int32 → Mem → Prop} {m : Mem}  (ht : tok t) (hd : 36 ≤ d) (hk : kok t k) (hw : w_M_longestNow  m K) : AM mX5_longestNow d [.ref 47] (lay t ex o m) k 24 576 (fun oc h' k' => ∃ (ex' : Hp) (r : Int32) (m' : Mem), exle k ex k' ex' ∧ oc = .inl (some (.int r)) ∧ h' = lay t ex' o m' ∧ K r m') :=
  AM.intro (μ := mX5_longestNow) (n := 2) (by decide) rfl rfl rfl (b_M_longestNow ht hd (by omega) (by omega) (fun hx _ _ hK => ⟨_, _, _, hx, rfl, rfl, hK⟩) hk  hw)
def w_M_noteFlaws_17 : Nat → Int32 → Int32 → Int32 → Mem → (Int32 → Int32 → Int32 → Mem → Prop) → (Mem → Prop) → Prop
  | 0, _, _, _, _, _, _ => False
  | n + 1, x1, x2, x3, m, E49, K => (((m 47 1) ≤ x3 → E49 x1 x2 x3 m) ∧ (¬ ((m 47 1) ≤ x3) → vp_in x3 30 ∧ ((¬ ((m 49 (x3).toNatClampNeg) = x1) → w_M_noteFlaws_17 n x1 (x2 + (0 : Int32)) (x3 + 1) m E49 K) ∧ ((m 49 (x3).toNatClampNeg) = x1 → w_M_noteFlaws_17 n x1 (x2 + (1 : Int32)) (x3 + 1) m E49 K))))
def w_M_noteFlaws_7 : Nat → Int32 → Mem → (Int32 → Mem → Prop) → (Mem → Prop) → Prop
  | 0, _, _, _, _ => False
  | n + 1, x1, m, E84, K => (((24 : Int32) ≤ x1 → E84 x1 m) ∧ (¬ ((24 : Int32) ≤ x1) → w_M_noteFlaws_17 31 x1 (0 : Int32) (0 : Int32) m (fun y5 y6 y7 m8 => (∀ J10 : Mem → Prop, (∀  (m9 : Mem), (((¬ (y6 = 0) → w_M_noteFlaws_7 n (y5 + 1) m9 E84 K) ∧ (y6 = 0 → w_M_usersNow y5 m9 (fun r15 m14 => ((r15 ≤ 0 → w_M_noteFlaws_7 n (y5 + 1) m14 E84 K) ∧ (¬ (r15 ≤ 0) → w_M_note (2 : Int32) y5 m14 (fun m17 => w_M_noteFlaws_7 n (y5 + 1) m17 E84 K))))))) → J10 m9) → ((y6 ≤ (1 : Int32) → J10  m8) ∧ (¬ (y6 ≤ (1 : Int32)) → w_M_note (1 : Int32) y5 m8 (fun m12 => J10  m12))))) K))
def w_M_noteFlaws_86 : Nat → Int32 → Mem → (Int32 → Mem → Prop) → (Mem → Prop) → Prop
  | 0, _, _, _, _ => False
  | n + 1, x1, m, E122, K => (((m 47 1) ≤ x1 → E122 x1 m) ∧ (¬ ((m 47 1) ≤ x1) → w_M_isGate x1 m (fun r22 m21 => ((r22 = 0 → w_M_noteFlaws_86 n (x1 + 1) m21 E122 K) ∧ (¬ (r22 = 0) → w_M_isInRing x1 m21 (fun r25 m24 => ((r25 = 0 → w_M_noteFlaws_86 n (x1 + 1) m24 E122 K) ∧ (¬ (r25 = 0) → w_M_note (3 : Int32) x1 m24 (fun m30 => w_M_noteFlaws_86 n (x1 + 1) m30 E122 K)))))))))
def w_M_noteFlaws (m : Mem) (K : Mem → Prop) : Prop :=
  ∀ m1 : Mem, m1 = up2 m 47 12 (0 : Int32) → w_M_noteFlaws_7 25 (0 : Int32) m1 (fun y18 m19 => w_M_noteFlaws_86 31 (0 : Int32) m19 (fun y31 m32 => K m32) K) K
set_option maxRecDepth 100000 in
set_option maxHeartbeats 4000000 in
theorem l_M_noteFlaws_17 {Z : Gz} {d k0 mc ms cs ss k t : Nat} {Q : Po} {ex : Hp} {o : Nat → Int64} {K : Mem → Prop}  (ht : tok t) (hd : 5 ≤ d) (hcs : cs ≤ mc) (hss : ss ≤ ms) (hQ : ∀ {k2 : Nat} {ex2 : Hp}, exle k ex k2 ex2 → ∀ (m : Mem), K m → Q (.inl none) (lay t ex2 o m) k2) (hk : kok t k) {k2 : Nat} {ex2 : Hp} (hx2 : exle k ex k2 ex2) {E49 : Int32 → Int32 → Int32 → Mem → Prop} (hE49 : ∀ (x1 : Int32) (x2 : Int32) (x3 : Int32) (m : Mem), E49 x1 x2 x3 m → AW Z mX5_noteFlaws d k0 mc ms Q 49 [.ref 47, .int x1, .int x2, .int x3] [] (lay t ex2 o m) k2 cs ss) : ∀ (n : Nat) (x1 : Int32) (x2 : Int32) (x3 : Int32) (m : Mem),  w_M_noteFlaws_17 n x1 x2 x3 m E49 K → AW Z mX5_noteFlaws d k0 mc ms Q 17 [.ref 47, .int x1, .int x2, .int x3] [] (lay t ex2 o m) k2 cs ss := by
  intro n
  induction n with
  | zero =>
    intros; rename_i hw; exact absurd hw (by simp [w_M_noteFlaws_17])
  | succ n ih =>
    intro x1 x2 x3 m hw
    unfold w_M_noteFlaws_17 at hw
    refine AW.iload_n (pc := 17) dX5_noteFlaws_17 rfl rfl ?_
    refine AW.aload_n (pc := 18) dX5_noteFlaws_18 rfl rfl ?_
    refine LW.get (pc := 19) (f := 1) (ci := 5) (T := TX5) ht (by decide) rfl dX5_noteFlaws_19 tw_799 rfl (by decide) rfl ?_
    refine AW.icmp_ge (pc := 22) (tgt := 49) dX5_noteFlaws_22 (by decide) (fun c3 => ?_) (fun c3 => ?_)
    · have hw := hw.1 c3
      exact hE49 x1 x2 x3 m hw
    · have hw := hw.2 c3
      refine AW.iload_n (pc := 25) dX5_noteFlaws_25 rfl rfl ?_
      refine AW.aload_n (pc := 26) dX5_noteFlaws_26 rfl rfl ?_
      refine LW.get (pc := 27) (f := 3) (ci := 5) (T := TX5) ht (by decide) rfl dX5_noteFlaws_27 tw_801 rfl (by decide) rfl ?_
      refine AW.iload_n (pc := 30) dX5_noteFlaws_30 rfl rfl ?_
      obtain ⟨hin, hw⟩ := hw
      refine LW.iald (pc := 31) (j := x3.toNatClampNeg) ht (by decide) rfl dX5_noteFlaws_31 hin rfl ?_
      refine AW.iload_n (pc := 32) dX5_noteFlaws_32 rfl rfl ?_
      refine AW.icmp_ne (pc := 33) (tgt := 40) dX5_noteFlaws_33 (by decide) (fun c4 => ?_) (fun c4 => ?_)
      · have hw := hw.1 c4
        refine AW.iconst (v := 0) (pc := 40) dX5_noteFlaws_40 (by decide) ?_
        refine AW.iadd (pc := 41) dX5_noteFlaws_41 ?_
        refine AW.istore_n (L' := [.ref 47, .int x1, .int (x2 + (0 : Int32)), .int x3]) (pc := 42) dX5_noteFlaws_42 rfl (by decide) rfl rfl ?_
        refine AW.iinc (v := (x3 + 1)) (L' := [.ref 47, .int x1, .int (x2 + (0 : Int32)), .int (x3 + 1)]) (pc := 43) dX5_noteFlaws_43 rfl rfl (by decide) rfl rfl ?_
        refine AW.goto (pc := 46) (tgt := 17) dX5_noteFlaws_46 (by decide) ?_
        exact ih x1 (x2 + (0 : Int32)) (x3 + 1) m hw
      · have hw := hw.2 c4
        refine AW.iconst (v := 1) (pc := 36) dX5_noteFlaws_36 (by decide) ?_
        refine AW.goto (pc := 37) (tgt := 41) dX5_noteFlaws_37 (by decide) ?_
        refine AW.iadd (pc := 41) dX5_noteFlaws_41 ?_
        refine AW.istore_n (L' := [.ref 47, .int x1, .int (x2 + (1 : Int32)), .int x3]) (pc := 42) dX5_noteFlaws_42 rfl (by decide) rfl rfl ?_
        refine AW.iinc (v := (x3 + 1)) (L' := [.ref 47, .int x1, .int (x2 + (1 : Int32)), .int (x3 + 1)]) (pc := 43) dX5_noteFlaws_43 rfl rfl (by decide) rfl rfl ?_
        refine AW.goto (pc := 46) (tgt := 17) dX5_noteFlaws_46 (by decide) ?_
        exact ih x1 (x2 + (1 : Int32)) (x3 + 1) m hw
set_option maxRecDepth 100000 in
set_option maxHeartbeats 4000000 in
theorem l_M_noteFlaws_7 {Z : Gz} {d k0 mc ms cs ss k t : Nat} {Q : Po} {ex : Hp} {o : Nat → Int64} {K : Mem → Prop}  (ht : tok t) (hd : 5 ≤ d) (hcs : cs ≤ mc) (hss : ss ≤ ms) (hQ : ∀ {k2 : Nat} {ex2 : Hp}, exle k ex k2 ex2 → ∀ (m : Mem), K m → Q (.inl none) (lay t ex2 o m) k2) (hk : kok t k) {k2 : Nat} {ex2 : Hp} (hx2 : exle k ex k2 ex2) {E84 : Int32 → Mem → Prop} (hE84 : ∀ (x1 : Int32) (m : Mem), E84 x1 m → AW Z mX5_noteFlaws d k0 mc ms Q 84 [.ref 47, .int x1, .null, .null] [] (lay t ex2 o m) k2 cs ss) : ∀ (n : Nat) (x1 : Int32) (m : Mem),  w_M_noteFlaws_7 n x1 m E84 K → AW Z mX5_noteFlaws d k0 mc ms Q 7 [.ref 47, .int x1, .null, .null] [] (lay t ex2 o m) k2 cs ss := by
  intro n
  induction n with
  | zero =>
    intros; rename_i hw; exact absurd hw (by simp [w_M_noteFlaws_7])
  | succ n ih =>
    intro x1 m hw
    unfold w_M_noteFlaws_7 at hw
    refine AW.iload_n (pc := 7) dX5_noteFlaws_7 rfl rfl ?_
    refine AW.bipush (v := 24) (pc := 8) dX5_noteFlaws_8 (by decide) ?_
    refine AW.icmp_ge (pc := 10) (tgt := 84) dX5_noteFlaws_10 (by decide) (fun c2 => ?_) (fun c2 => ?_)
    · have hw := hw.1 c2
      exact hE84 x1 m hw
    · have hw := hw.2 c2
      refine AW.iconst (v := 0) (pc := 13) dX5_noteFlaws_13 (by decide) ?_
      refine AW.istore_n (L' := [.ref 47, .int x1, .int (0 : Int32), .null]) (pc := 14) dX5_noteFlaws_14 rfl (by decide) rfl rfl ?_
      refine AW.iconst (v := 0) (pc := 15) dX5_noteFlaws_15 (by decide) ?_
      refine AW.istore_n (L' := [.ref 47, .int x1, .int (0 : Int32), .int (0 : Int32)]) (pc := 16) dX5_noteFlaws_16 rfl (by decide) rfl rfl ?_
      refine l_M_noteFlaws_17 ht hd (by omega) (by omega) hQ hk hx2 ?_ 31 x1 (0 : Int32) (0 : Int32) m hw
      intro y5 y6 y7 m8 hw
      refine AW.iload_n (pc := 49) dX5_noteFlaws_49 rfl rfl ?_
      refine AW.iconst (v := 1) (pc := 50) dX5_noteFlaws_50 (by decide) ?_
      have hw := hw (fun m9 => AW Z mX5_noteFlaws d k0 mc ms Q 60 [.ref 47, .int y5, .int y6, .int y7] [] (lay t ex2 o m9) k2 (cs) (ss)) (by
          intro m9 hw
          refine AW.iload_n (pc := 60) dX5_noteFlaws_60 rfl rfl ?_
          refine AW.if_ne (pc := 61) (tgt := 78) dX5_noteFlaws_61 (by decide) (fun c13 => ?_) (fun c13 => ?_)
          · have hw := hw.1 c13
            refine AW.iinc (v := (y5 + 1)) (L' := [.ref 47, .int (y5 + 1), .int y6, .int y7]) (pc := 78) dX5_noteFlaws_78 rfl rfl (by decide) rfl rfl ?_
            refine AW.goto (pc := 81) (tgt := 7) dX5_noteFlaws_81 (by decide) ?_
            refine AW.locals (L' := [.ref 47, .int (y5 + 1), .null, .null]) (aw_fewer_same (aw_fewer_same (aw_fewer_null (aw_fewer_null aw_fewer_nil)))) ?_
            exact ih (y5 + 1) m9 hw
          · have hw := hw.2 c13
            refine AW.aload_n (pc := 64) dX5_noteFlaws_64 rfl rfl ?_
            refine AW.iload_n (pc := 65) dX5_noteFlaws_65 rfl rfl ?_
            refine AW.callV (pc := 66) (S' := []) dX5_noteFlaws_66 (c_M_usersNow (d := d - 1) ht (by omega) hw) ok_X5_usersNow tw_914 ts_38 tw_912 (fix_pos (by decide)) (lay_at ht (by decide)) (show aw_cl[5]? = some _ from rfl) rfl rfl (by omega) rfl (Nat.le_of_ble_eq_true rfl) (by omega) (by omega) ?_ (fun E h' k' hq => by obtain ⟨rfl, r15, m14, hv, -⟩ := hq; cases hv)
            intro v h' k' hq
            obtain ⟨rfl, r15, m14, hv, rfl, hw⟩ := hq
            cases hv
            show AW _ _ _ _ _ _ _ 69 [.ref 47, .int y5, .int y6, .int y7] [.int r15] (lay t ex2 o m14) k2 _ _
            refine AW.if_le (pc := 69) (tgt := 78) dX5_noteFlaws_69 (by decide) (fun c16 => ?_) (fun c16 => ?_)
            · have hw := hw.1 c16
              refine AW.iinc (v := (y5 + 1)) (L' := [.ref 47, .int (y5 + 1), .int y6, .int y7]) (pc := 78) dX5_noteFlaws_78 rfl rfl (by decide) rfl rfl ?_
              refine AW.goto (pc := 81) (tgt := 7) dX5_noteFlaws_81 (by decide) ?_
              refine AW.locals (L' := [.ref 47, .int (y5 + 1), .null, .null]) (aw_fewer_same (aw_fewer_same (aw_fewer_null (aw_fewer_null aw_fewer_nil)))) ?_
              exact ih (y5 + 1) m14 hw
            · have hw := hw.2 c16
              refine AW.aload_n (pc := 72) dX5_noteFlaws_72 rfl rfl ?_
              refine AW.iconst (v := 2) (pc := 73) dX5_noteFlaws_73 (by decide) ?_
              refine AW.iload_n (pc := 74) dX5_noteFlaws_74 rfl rfl ?_
              refine AW.callV (pc := 75) (S' := []) dX5_noteFlaws_75 (c_M_note (d := d - 1) ht (by omega) hw) ok_X5_note tw_910 ts_37 tw_908 (fix_pos (by decide)) (lay_at ht (by decide)) (show aw_cl[5]? = some _ from rfl) rfl rfl (by omega) rfl (Nat.le_of_ble_eq_true rfl) (by omega) (by omega) ?_ (fun E h' k' hq => by obtain ⟨rfl, m17, hv, -⟩ := hq; cases hv)
              intro v h' k' hq
              obtain ⟨rfl, m17, hv, rfl, hw⟩ := hq
              cases hv
              show AW _ _ _ _ _ _ _ 78 [.ref 47, .int y5, .int y6, .int y7] [] (lay t ex2 o m17) k2 _ _
              refine AW.iinc (v := (y5 + 1)) (L' := [.ref 47, .int (y5 + 1), .int y6, .int y7]) (pc := 78) dX5_noteFlaws_78 rfl rfl (by decide) rfl rfl ?_
              refine AW.goto (pc := 81) (tgt := 7) dX5_noteFlaws_81 (by decide) ?_
              refine AW.locals (L' := [.ref 47, .int (y5 + 1), .null, .null]) (aw_fewer_same (aw_fewer_same (aw_fewer_null (aw_fewer_null aw_fewer_nil)))) ?_
              exact ih (y5 + 1) m17 hw)
      refine AW.icmp_le (pc := 51) (tgt := 60) dX5_noteFlaws_51 (by decide) (fun c11 => ?_) (fun c11 => ?_)
      · have hw := hw.1 c11
        exact hw
      · have hw := hw.2 c11
        refine AW.aload_n (pc := 54) dX5_noteFlaws_54 rfl rfl ?_
        refine AW.iconst (v := 1) (pc := 55) dX5_noteFlaws_55 (by decide) ?_
        refine AW.iload_n (pc := 56) dX5_noteFlaws_56 rfl rfl ?_
        refine AW.callV (pc := 57) (S' := []) dX5_noteFlaws_57 (c_M_note (d := d - 1) ht (by omega) hw) ok_X5_note tw_910 ts_37 tw_908 (fix_pos (by decide)) (lay_at ht (by decide)) (show aw_cl[5]? = some _ from rfl) rfl rfl (by omega) rfl (Nat.le_of_ble_eq_true rfl) (by omega) (by omega) ?_ (fun E h' k' hq => by obtain ⟨rfl, m12, hv, -⟩ := hq; cases hv)
        intro v h' k' hq
        obtain ⟨rfl, m12, hv, rfl, hw⟩ := hq
        cases hv
        show AW _ _ _ _ _ _ _ 60 [.ref 47, .int y5, .int y6, .int y7] [] (lay t ex2 o m12) k2 _ _
        exact hw
set_option maxRecDepth 100000 in
set_option maxHeartbeats 4000000 in
theorem l_M_noteFlaws_86 {Z : Gz} {d k0 mc ms k t : Nat} {Q : Po} {ex : Hp} {o : Nat → Int64} {K : Mem → Prop} {cB sB : Nat} (ht : tok t) (hd : 5 ≤ d) (hQ : ∀ {k2 : Nat} {ex2 : Hp}, exle k ex k2 ex2 → ∀ (m : Mem), K m → Q (.inl none) (lay t ex2 o m) k2) (hk : kok t k) (hc1 : cB ≤ mc) (hs1 : sB ≤ ms) {E122 : Int32 → Mem → Prop} (hE122 : ∀ (x1 : Int32) (m : Mem) (k2 : Nat) (ex2 : Hp), exle k ex k2 ex2 → E122 x1 m → AW Z mX5_noteFlaws d k0 mc ms Q 122 [.ref 47, .int x1, .null, .null] [] (lay t ex2 o m) k2 cB sB) : ∀ (n : Nat) (x1 : Int32) (m : Mem) (k2 : Nat) (ex2 : Hp), exle k ex k2 ex2 → ∀ (cs ss : Nat), cs + n * 1 ≤ cB → ss + n * 24 ≤ sB → w_M_noteFlaws_86 n x1 m E122 K → AW Z mX5_noteFlaws d k0 mc ms Q 86 [.ref 47, .int x1, .null, .null] [] (lay t ex2 o m) k2 cs ss := by
  intro n
  induction n with
  | zero =>
    intros; rename_i hw; exact absurd hw (by simp [w_M_noteFlaws_86])
  | succ n ih =>
    intro x1 m k2 ex2 hx2 cs ss hc2 hs2 hw
    unfold w_M_noteFlaws_86 at hw
    refine AW.iload_n (pc := 86) dX5_noteFlaws_86 rfl rfl ?_
    refine AW.aload_n (pc := 87) dX5_noteFlaws_87 rfl rfl ?_
    refine LW.get (pc := 88) (f := 1) (ci := 5) (T := TX5) ht (by decide) rfl dX5_noteFlaws_88 tw_799 rfl (by decide) rfl ?_
    refine AW.icmp_ge (pc := 91) (tgt := 122) dX5_noteFlaws_91 (by decide) (fun c20 => ?_) (fun c20 => ?_)
    · have hw := hw.1 c20
      refine AW.widen (cs' := cB) (ss' := sB) (by omega) (by omega) ?_
      exact hE122 x1 m _ _ hx2 hw
    · have hw := hw.2 c20
      refine AW.aload_n (pc := 94) dX5_noteFlaws_94 rfl rfl ?_
      refine AW.iload_n (pc := 95) dX5_noteFlaws_95 rfl rfl ?_
      refine AW.callV (pc := 96) (S' := []) dX5_noteFlaws_96 (c_M_isGate (d := d - 1) ht (by omega) hw) ok_X5_isGate tw_922 ts_40 tw_920 (fix_pos (by decide)) (lay_at ht (by decide)) (show aw_cl[5]? = some _ from rfl) rfl rfl (by omega) rfl (Nat.le_of_ble_eq_true rfl) (by omega) (by omega) ?_ (fun E h' k' hq => by obtain ⟨rfl, r22, m21, hv, -⟩ := hq; cases hv)
      intro v h' k' hq
      obtain ⟨rfl, r22, m21, hv, rfl, hw⟩ := hq
      cases hv
      show AW _ _ _ _ _ _ _ 99 [.ref 47, .int x1, .null, .null] [.int r22] (lay t ex2 o m21) k2 _ _
      refine AW.if_eq (pc := 99) (tgt := 116) dX5_noteFlaws_99 (by decide) (fun c23 => ?_) (fun c23 => ?_)
      · have hw := hw.1 c23
        refine AW.iinc (v := (x1 + 1)) (L' := [.ref 47, .int (x1 + 1), .null, .null]) (pc := 116) dX5_noteFlaws_116 rfl rfl (by decide) rfl rfl ?_
        refine AW.goto (pc := 119) (tgt := 86) dX5_noteFlaws_119 (by decide) ?_
        exact ih (x1 + 1) m21 _ _ hx2 _ _ (by omega) (by omega) hw
      · have hw := hw.2 c23
        refine AW.aload_n (pc := 102) dX5_noteFlaws_102 rfl rfl ?_
        refine AW.iload_n (pc := 103) dX5_noteFlaws_103 rfl rfl ?_
        refine AW.callV (pc := 104) (S' := []) dX5_noteFlaws_104 (c_M_isInRing (d := d - 1) ht (by omega) (hk.le hx2) hw) ok_X5_isInRing tw_926 ts_41 tw_924 (fix_pos (by decide)) (lay_at ht (by decide)) (show aw_cl[5]? = some _ from rfl) rfl rfl (by omega) rfl (Nat.le_of_ble_eq_true rfl) (by omega) (by omega) ?_ (fun E h' k' hq => by obtain ⟨ex27, r25, m24, hx28, hv, -⟩ := hq; cases hv)
        intro v h' k26 hq
        obtain ⟨ex27, r25, m24, hx28, hv, rfl, hw⟩ := hq
        cases hv
        show AW _ _ _ _ _ _ _ 107 [.ref 47, .int x1, .null, .null] [.int r25] (lay t ex27 o m24) k26 _ _
        refine AW.if_eq (pc := 107) (tgt := 116) dX5_noteFlaws_107 (by decide) (fun c29 => ?_) (fun c29 => ?_)
        · have hw := hw.1 c29
          refine AW.iinc (v := (x1 + 1)) (L' := [.ref 47, .int (x1 + 1), .null, .null]) (pc := 116) dX5_noteFlaws_116 rfl rfl (by decide) rfl rfl ?_
          refine AW.goto (pc := 119) (tgt := 86) dX5_noteFlaws_119 (by decide) ?_
          exact ih (x1 + 1) m24 _ _ (hx2.trans hx28) _ _ (by omega) (by omega) hw
        · have hw := hw.2 c29
          refine AW.aload_n (pc := 110) dX5_noteFlaws_110 rfl rfl ?_
          refine AW.iconst (v := 3) (pc := 111) dX5_noteFlaws_111 (by decide) ?_
          refine AW.iload_n (pc := 112) dX5_noteFlaws_112 rfl rfl ?_
          refine AW.callV (pc := 113) (S' := []) dX5_noteFlaws_113 (c_M_note (d := d - 1) ht (by omega) hw) ok_X5_note tw_910 ts_37 tw_908 (fix_pos (by decide)) (lay_at ht (by decide)) (show aw_cl[5]? = some _ from rfl) rfl rfl (by omega) rfl (Nat.le_of_ble_eq_true rfl) (by omega) (by omega) ?_ (fun E h' k' hq => by obtain ⟨rfl, m30, hv, -⟩ := hq; cases hv)
          intro v h' k' hq
          obtain ⟨rfl, m30, hv, rfl, hw⟩ := hq
          cases hv
          show AW _ _ _ _ _ _ _ 116 [.ref 47, .int x1, .null, .null] [] (lay t ex27 o m30) k26 _ _
          refine AW.iinc (v := (x1 + 1)) (L' := [.ref 47, .int (x1 + 1), .null, .null]) (pc := 116) dX5_noteFlaws_116 rfl rfl (by decide) rfl rfl ?_
          refine AW.goto (pc := 119) (tgt := 86) dX5_noteFlaws_119 (by decide) ?_
          exact ih (x1 + 1) m30 _ _ (hx2.trans hx28) _ _ (by omega) (by omega) hw
set_option maxRecDepth 100000 in
set_option maxHeartbeats 4000000 in
theorem b_M_noteFlaws {Z : Gz} {d k0 mc ms cs ss k t : Nat} {Q : Po} {ex : Hp} {o : Nat → Int64} {K : Mem → Prop}  (ht : tok t) (hd : 5 ≤ d) (hcs : cs + 31 ≤ mc) (hss : ss + 744 ≤ ms) (hQ : ∀ {k2 : Nat} {ex2 : Hp}, exle k ex k2 ex2 → ∀ (m : Mem), K m → Q (.inl none) (lay t ex2 o m) k2) (hk : kok t k) {m : Mem}  (hw : w_M_noteFlaws  m K) : AW Z mX5_noteFlaws d k0 mc ms Q 0 [.ref 47, .null, .null, .null] [] (lay t ex o m) k cs ss := by
  unfold w_M_noteFlaws at hw
  refine AW.aload_n (pc := 0) dX5_noteFlaws_0 rfl rfl ?_
  refine AW.iconst (v := 0) (pc := 1) dX5_noteFlaws_1 (by decide) ?_
  have hw := hw _ rfl
  refine LW.put (pc := 2) (f := 12) (ci := 5) (T := TX5) ht (by decide) rfl sp_47_12 dX5_noteFlaws_2 tw_810 rfl (by decide) (Nat.le_of_ble_eq_true rfl) rfl ⟨rfl, rfl⟩ ?_
  generalize up2 m 47 12 (0 : Int32) = m1 at hw ⊢
  refine AW.iconst (v := 0) (pc := 5) dX5_noteFlaws_5 (by decide) ?_
  refine AW.istore_n (L' := [.ref 47, .int (0 : Int32), .null, .null]) (pc := 6) dX5_noteFlaws_6 rfl (by decide) rfl rfl ?_
  refine l_M_noteFlaws_7 ht hd (by omega) (by omega) hQ hk (exle.refl _ _) ?_ 25 (0 : Int32) m1 hw
  intro y18 m19 hw
  refine AW.iconst (v := 0) (pc := 84) dX5_noteFlaws_84 (by decide) ?_
  refine AW.istore_n (L' := [.ref 47, .int (0 : Int32), .null, .null]) (pc := 85) dX5_noteFlaws_85 rfl (by decide) rfl rfl ?_
  refine l_M_noteFlaws_86 (cB := cs + 31) (sB := ss + 744) ht hd hQ hk (by omega) (by omega) ?_ 31 (0 : Int32) m19 _ _ (exle.refl _ _) _ _ (by omega) (by omega) hw
  intro y31 m32 k33 ex34 hx35 hw
  exact AW.vret (pc := 122) dX5_noteFlaws_122 rfl (by omega) (by omega) (hQ hx35 _ hw)
set_option maxRecDepth 100000 in
set_option maxHeartbeats 4000000 in
theorem c_M_noteFlaws {d k t : Nat} {ex : Hp} {o : Nat → Int64} {K : Mem → Prop} {m : Mem}  (ht : tok t) (hd : 5 ≤ d) (hk : kok t k) (hw : w_M_noteFlaws  m K) : AM mX5_noteFlaws d [.ref 47] (lay t ex o m) k 31 744 (fun oc h' k' => ∃ (ex' : Hp) (m' : Mem), exle k ex k' ex' ∧ oc = .inl none ∧ h' = lay t ex' o m' ∧ K m') :=
  AM.intro (μ := mX5_noteFlaws) (n := 3) (by decide) rfl rfl rfl (b_M_noteFlaws ht hd (by omega) (by omega) (fun hx _ hK => ⟨_, _, hx, rfl, rfl, hK⟩) hk  hw)
def w_M_wayNow_8 : Nat → Int32 → Int32 → Int32 → Mem → (Int32 → Int32 → Int32 → Mem → Prop) → (Int32 → Mem → Prop) → Prop
  | 0, _, _, _, _, _, _ => False
  | n + 1, x1, x2, x3, m, E61, K => (((24 : Int32) ≤ x3 → E61 x1 x2 x3 m) ∧ (¬ ((24 : Int32) ≤ x3) → w_M_driver x3 m (fun r7 m6 => ((r7 = (-1 : Int32) → w_M_wayNow_8 n x1 x2 (x3 + 1) m6 E61 K) ∧ (¬ (r7 = (-1 : Int32)) → vp_in x3 24 ∧ (((m6 58 (x3).toNatClampNeg) = (-1 : Int32) → w_M_wayNow_8 n x1 x2 (x3 + 1) m6 E61 K) ∧ (¬ ((m6 58 (x3).toNatClampNeg) = (-1 : Int32)) → ((x2 = (-1 : Int32) → w_M_wayNow_8 n x1 x3 (x3 + 1) m6 E61 K) ∧ (¬ (x2 = (-1 : Int32)) → vp_in x3 24 ∧ vp_in x2 24 ∧ (((m6 58 (x3).toNatClampNeg) ≤ (m6 58 (x2).toNatClampNeg) → w_M_wayNow_8 n x1 x2 (x3 + 1) m6 E61 K) ∧ (¬ ((m6 58 (x3).toNatClampNeg) ≤ (m6 58 (x2).toNatClampNeg)) → w_M_wayNow_8 n x1 x3 (x3 + 1) m6 E61 K)))))))))))
def w_M_wayNow_63 : Nat → Int32 → Int32 → Int32 → Mem → (Int32 → Int32 → Int32 → Mem → Prop) → (Int32 → Mem → Prop) → Prop
  | 0, _, _, _, _, _, _ => False
  | n + 1, x1, x2, x3, m, E185, K => ((x1 ≤ x3 → E185 x1 x2 x3 m) ∧ (¬ (x1 ≤ x3) → ((x2 = (-1 : Int32) → E185 x1 x2 x3 m) ∧ (¬ (x2 = (-1 : Int32)) → w_M_driver x2 m (fun r19 m18 => w_M_isGate r19 m18 (fun r21 m20 => ((¬ (r21 = 0) → vp_in r19 30 ∧ vp_in r19 30 ∧ (∀ J25 : Int32 → Mem → Prop, (∀ (v23 : Int32) (m24 : Mem), (vp_in r19 30 ∧ (((m24 52 (r19).toNatClampNeg) = (-1 : Int32) → w_M_wayNow_63 n x1 v23 (x3 + 1) m24 E185 K) ∧ (¬ ((m24 52 (r19).toNatClampNeg) = (-1 : Int32)) → vp_in r19 30 ∧ vp_in (m24 52 (r19).toNatClampNeg) 24 ∧ vp_in v23 24 ∧ (((m24 58 (m24 52 (r19).toNatClampNeg).toNatClampNeg) ≤ (m24 58 (v23).toNatClampNeg) → w_M_wayNow_63 n x1 v23 (x3 + 1) m24 E185 K) ∧ (¬ ((m24 58 (m24 52 (r19).toNatClampNeg).toNatClampNeg) ≤ (m24 58 (v23).toNatClampNeg)) → vp_in r19 30 ∧ w_M_wayNow_63 n x1 (m24 52 (r19).toNatClampNeg) (x3 + 1) m24 E185 K))))) → J25 v23 m24) → (((m20 51 (r19).toNatClampNeg) = (-1 : Int32) → J25 (m20 50 (r19).toNatClampNeg) m20) ∧ (¬ ((m20 51 (r19).toNatClampNeg) = (-1 : Int32)) → vp_in r19 30 ∧ vp_in (m20 51 (r19).toNatClampNeg) 24 ∧ vp_in (m20 50 (r19).toNatClampNeg) 24 ∧ (((m20 58 (m20 51 (r19).toNatClampNeg).toNatClampNeg) ≤ (m20 58 (m20 50 (r19).toNatClampNeg).toNatClampNeg) → J25 (m20 50 (r19).toNatClampNeg) m20) ∧ (¬ ((m20 58 (m20 51 (r19).toNatClampNeg).toNatClampNeg) ≤ (m20 58 (m20 50 (r19).toNatClampNeg).toNatClampNeg)) → vp_in r19 30 ∧ J25 (m20 51 (r19).toNatClampNeg) m20)))))) ∧ (r21 = 0 → K (-1 : Int32) m20))))))))
def w_M_wayNow (p1 : Int32) (m : Mem) (K : Int32 → Mem → Prop) : Prop :=
  w_M_tellArrivals  m (fun m1 => w_M_wayNow_8 25 p1 (-1 : Int32) (0 : Int32) m1 (fun y12 y13 y14 m15 => w_M_wayNow_63 100 y12 y13 (0 : Int32) m15 (fun y30 y31 y32 m33 => K y31 m33) K) K)
set_option maxRecDepth 100000 in
set_option maxHeartbeats 4000000 in
theorem l_M_wayNow_8 {Z : Gz} {d k0 mc ms cs ss k t : Nat} {Q : Po} {ex : Hp} {o : Nat → Int64} {K : Int32 → Mem → Prop}  (ht : tok t) (hd : 36 ≤ d) (hcs : cs ≤ mc) (hss : ss ≤ ms) (hQ : ∀ {k2 : Nat} {ex2 : Hp}, exle k ex k2 ex2 → ∀ (r : Int32) (m : Mem), K r m → Q (.inl (some (.int r))) (lay t ex2 o m) k2) (hk : kok t k) {k2 : Nat} {ex2 : Hp} (hx2 : exle k ex k2 ex2) {E61 : Int32 → Int32 → Int32 → Mem → Prop} (hE61 : ∀ (x1 : Int32) (x2 : Int32) (x3 : Int32) (m : Mem), E61 x1 x2 x3 m → AW Z mX5_wayNow d k0 mc ms Q 61 [.ref 47, .int x1, .int x2, .int x3, .null] [] (lay t ex2 o m) k2 cs ss) : ∀ (n : Nat) (x1 : Int32) (x2 : Int32) (x3 : Int32) (m : Mem),  w_M_wayNow_8 n x1 x2 x3 m E61 K → AW Z mX5_wayNow d k0 mc ms Q 8 [.ref 47, .int x1, .int x2, .int x3, .null] [] (lay t ex2 o m) k2 cs ss := by
  intro n
  induction n with
  | zero =>
    intros; rename_i hw; exact absurd hw (by simp [w_M_wayNow_8])
  | succ n ih =>
    intro x1 x2 x3 m hw
    unfold w_M_wayNow_8 at hw
    refine AW.iload_n (pc := 8) dX5_wayNow_8 rfl rfl ?_
    refine AW.bipush (v := 24) (pc := 9) dX5_wayNow_9 (by decide) ?_
    refine AW.icmp_ge (pc := 11) (tgt := 61) dX5_wayNow_11 (by decide) (fun c5 => ?_) (fun c5 => ?_)
    · have hw := hw.1 c5
      exact hE61 x1 x2 x3 m hw
    · have hw := hw.2 c5
      refine AW.aload_n (pc := 14) dX5_wayNow_14 rfl rfl ?_
      refine AW.iload_n (pc := 15) dX5_wayNow_15 rfl rfl ?_
      refine AW.callV (pc := 16) (S' := []) dX5_wayNow_16 (c_M_driver (d := d - 1) ht (by omega) hw) ok_X5_driver tw_950 ts_45 tw_948 (fix_pos (by decide)) (lay_at ht (by decide)) (show aw_cl[5]? = some _ from rfl) rfl rfl (by omega) rfl (Nat.le_of_ble_eq_true rfl) (by omega) (by omega) ?_ (fun E h' k' hq => by obtain ⟨rfl, r7, m6, hv, -⟩ := hq; cases hv)
      intro v h' k' hq
      obtain ⟨rfl, r7, m6, hv, rfl, hw⟩ := hq
      cases hv
      show AW _ _ _ _ _ _ _ 19 [.ref 47, .int x1, .int x2, .int x3, .null] [.int r7] (lay t ex2 o m6) k2 _ _
      refine AW.iconst (v := -1) (pc := 19) dX5_wayNow_19 (by decide) ?_
      refine AW.icmp_eq (pc := 20) (tgt := 55) dX5_wayNow_20 (by decide) (fun c8 => ?_) (fun c8 => ?_)
      · have hw := hw.1 c8
        refine AW.iinc (v := (x3 + 1)) (L' := [.ref 47, .int x1, .int x2, .int (x3 + 1), .null]) (pc := 55) dX5_wayNow_55 rfl rfl (by decide) rfl rfl ?_
        refine AW.goto (pc := 58) (tgt := 8) dX5_wayNow_58 (by decide) ?_
        exact ih x1 x2 (x3 + 1) m6 hw
      · have hw := hw.2 c8
        refine AW.aload_n (pc := 23) dX5_wayNow_23 rfl rfl ?_
        refine LW.get (pc := 24) (f := 14) (ci := 5) (T := TX5) ht (by decide) rfl dX5_wayNow_24 tw_812 rfl (by decide) rfl ?_
        refine AW.iload_n (pc := 27) dX5_wayNow_27 rfl rfl ?_
        obtain ⟨hin, hw⟩ := hw
        refine LW.iald (pc := 28) (j := x3.toNatClampNeg) ht (by decide) rfl dX5_wayNow_28 hin rfl ?_
        refine AW.iconst (v := -1) (pc := 29) dX5_wayNow_29 (by decide) ?_
        refine AW.icmp_eq (pc := 30) (tgt := 55) dX5_wayNow_30 (by decide) (fun c9 => ?_) (fun c9 => ?_)
        · have hw := hw.1 c9
          refine AW.iinc (v := (x3 + 1)) (L' := [.ref 47, .int x1, .int x2, .int (x3 + 1), .null]) (pc := 55) dX5_wayNow_55 rfl rfl (by decide) rfl rfl ?_
          refine AW.goto (pc := 58) (tgt := 8) dX5_wayNow_58 (by decide) ?_
          exact ih x1 x2 (x3 + 1) m6 hw
        · have hw := hw.2 c9
          refine AW.iload_n (pc := 33) dX5_wayNow_33 rfl rfl ?_
          refine AW.iconst (v := -1) (pc := 34) dX5_wayNow_34 (by decide) ?_
          refine AW.icmp_eq (pc := 35) (tgt := 53) dX5_wayNow_35 (by decide) (fun c10 => ?_) (fun c10 => ?_)
          · have hw := hw.1 c10
            refine AW.iload_n (pc := 53) dX5_wayNow_53 rfl rfl ?_
            refine AW.istore_n (L' := [.ref 47, .int x1, .int x3, .int x3, .null]) (pc := 54) dX5_wayNow_54 rfl (by decide) rfl rfl ?_
            refine AW.iinc (v := (x3 + 1)) (L' := [.ref 47, .int x1, .int x3, .int (x3 + 1), .null]) (pc := 55) dX5_wayNow_55 rfl rfl (by decide) rfl rfl ?_
            refine AW.goto (pc := 58) (tgt := 8) dX5_wayNow_58 (by decide) ?_
            exact ih x1 x3 (x3 + 1) m6 hw
          · have hw := hw.2 c10
            refine AW.aload_n (pc := 38) dX5_wayNow_38 rfl rfl ?_
            refine LW.get (pc := 39) (f := 14) (ci := 5) (T := TX5) ht (by decide) rfl dX5_wayNow_39 tw_812 rfl (by decide) rfl ?_
            refine AW.iload_n (pc := 42) dX5_wayNow_42 rfl rfl ?_
            obtain ⟨hin, hw⟩ := hw
            refine LW.iald (pc := 43) (j := x3.toNatClampNeg) ht (by decide) rfl dX5_wayNow_43 hin rfl ?_
            refine AW.aload_n (pc := 44) dX5_wayNow_44 rfl rfl ?_
            refine LW.get (pc := 45) (f := 14) (ci := 5) (T := TX5) ht (by decide) rfl dX5_wayNow_45 tw_812 rfl (by decide) rfl ?_
            refine AW.iload_n (pc := 48) dX5_wayNow_48 rfl rfl ?_
            obtain ⟨hin, hw⟩ := hw
            refine LW.iald (pc := 49) (j := x2.toNatClampNeg) ht (by decide) rfl dX5_wayNow_49 hin rfl ?_
            refine AW.icmp_le (pc := 50) (tgt := 55) dX5_wayNow_50 (by decide) (fun c11 => ?_) (fun c11 => ?_)
            · have hw := hw.1 c11
              refine AW.iinc (v := (x3 + 1)) (L' := [.ref 47, .int x1, .int x2, .int (x3 + 1), .null]) (pc := 55) dX5_wayNow_55 rfl rfl (by decide) rfl rfl ?_
              refine AW.goto (pc := 58) (tgt := 8) dX5_wayNow_58 (by decide) ?_
              exact ih x1 x2 (x3 + 1) m6 hw
            · have hw := hw.2 c11
              refine AW.iload_n (pc := 53) dX5_wayNow_53 rfl rfl ?_
              refine AW.istore_n (L' := [.ref 47, .int x1, .int x3, .int x3, .null]) (pc := 54) dX5_wayNow_54 rfl (by decide) rfl rfl ?_
              refine AW.iinc (v := (x3 + 1)) (L' := [.ref 47, .int x1, .int x3, .int (x3 + 1), .null]) (pc := 55) dX5_wayNow_55 rfl rfl (by decide) rfl rfl ?_
              refine AW.goto (pc := 58) (tgt := 8) dX5_wayNow_58 (by decide) ?_
              exact ih x1 x3 (x3 + 1) m6 hw
set_option maxRecDepth 100000 in
set_option maxHeartbeats 4000000 in
theorem l_M_wayNow_63 {Z : Gz} {d k0 mc ms cs ss k t : Nat} {Q : Po} {ex : Hp} {o : Nat → Int64} {K : Int32 → Mem → Prop}  (ht : tok t) (hd : 36 ≤ d) (hcs : cs ≤ mc) (hss : ss ≤ ms) (hQ : ∀ {k2 : Nat} {ex2 : Hp}, exle k ex k2 ex2 → ∀ (r : Int32) (m : Mem), K r m → Q (.inl (some (.int r))) (lay t ex2 o m) k2) (hk : kok t k) {k2 : Nat} {ex2 : Hp} (hx2 : exle k ex k2 ex2) {E185 : Int32 → Int32 → Int32 → Mem → Prop} (hE185 : ∀ (x1 : Int32) (x2 : Int32) (x3 : Int32) (m : Mem), E185 x1 x2 x3 m → AW Z mX5_wayNow d k0 mc ms Q 185 [.ref 47, .int x1, .int x2, .int x3, .null] [] (lay t ex2 o m) k2 cs ss) : ∀ (n : Nat) (x1 : Int32) (x2 : Int32) (x3 : Int32) (m : Mem),  w_M_wayNow_63 n x1 x2 x3 m E185 K → AW Z mX5_wayNow d k0 mc ms Q 63 [.ref 47, .int x1, .int x2, .int x3, .null] [] (lay t ex2 o m) k2 cs ss := by
  intro n
  induction n with
  | zero =>
    intros; rename_i hw; exact absurd hw (by simp [w_M_wayNow_63])
  | succ n ih =>
    intro x1 x2 x3 m hw
    unfold w_M_wayNow_63 at hw
    refine AW.iload_n (pc := 63) dX5_wayNow_63 rfl rfl ?_
    refine AW.iload_n (pc := 64) dX5_wayNow_64 rfl rfl ?_
    refine AW.icmp_ge (pc := 65) (tgt := 185) dX5_wayNow_65 (by decide) (fun c16 => ?_) (fun c16 => ?_)
    · have hw := hw.1 c16
      exact hE185 x1 x2 x3 m hw
    · have hw := hw.2 c16
      refine AW.iload_n (pc := 68) dX5_wayNow_68 rfl rfl ?_
      refine AW.iconst (v := -1) (pc := 69) dX5_wayNow_69 (by decide) ?_
      refine AW.icmp_eq (pc := 70) (tgt := 185) dX5_wayNow_70 (by decide) (fun c17 => ?_) (fun c17 => ?_)
      · have hw := hw.1 c17
        exact hE185 x1 x2 x3 m hw
      · have hw := hw.2 c17
        refine AW.aload_n (pc := 73) dX5_wayNow_73 rfl rfl ?_
        refine AW.iload_n (pc := 74) dX5_wayNow_74 rfl rfl ?_
        refine AW.callV (pc := 75) (S' := []) dX5_wayNow_75 (c_M_driver (d := d - 1) ht (by omega) hw) ok_X5_driver tw_950 ts_45 tw_948 (fix_pos (by decide)) (lay_at ht (by decide)) (show aw_cl[5]? = some _ from rfl) rfl rfl (by omega) rfl (Nat.le_of_ble_eq_true rfl) (by omega) (by omega) ?_ (fun E h' k' hq => by obtain ⟨rfl, r19, m18, hv, -⟩ := hq; cases hv)
        intro v h' k' hq
        obtain ⟨rfl, r19, m18, hv, rfl, hw⟩ := hq
        cases hv
        show AW _ _ _ _ _ _ _ 78 [.ref 47, .int x1, .int x2, .int x3, .null] [.int r19] (lay t ex2 o m18) k2 _ _
        refine AW.istore (L' := [.ref 47, .int x1, .int x2, .int x3, .int r19]) (pc := 78) dX5_wayNow_78 (by decide) rfl rfl ?_
        refine AW.aload_n (pc := 80) dX5_wayNow_80 rfl rfl ?_
        refine AW.iload (pc := 81) dX5_wayNow_81 rfl ?_
        refine AW.callV (pc := 83) (S' := []) dX5_wayNow_83 (c_M_isGate (d := d - 1) ht (by omega) hw) ok_X5_isGate tw_922 ts_40 tw_920 (fix_pos (by decide)) (lay_at ht (by decide)) (show aw_cl[5]? = some _ from rfl) rfl rfl (by omega) rfl (Nat.le_of_ble_eq_true rfl) (by omega) (by omega) ?_ (fun E h' k' hq => by obtain ⟨rfl, r21, m20, hv, -⟩ := hq; cases hv)
        intro v h' k' hq
        obtain ⟨rfl, r21, m20, hv, rfl, hw⟩ := hq
        cases hv
        show AW _ _ _ _ _ _ _ 86 [.ref 47, .int x1, .int x2, .int x3, .int r19] [.int r21] (lay t ex2 o m20) k2 _ _
        refine AW.if_ne (pc := 86) (tgt := 91) dX5_wayNow_86 (by decide) (fun c22 => ?_) (fun c22 => ?_)
        · have hw := hw.1 c22
          refine AW.aload_n (pc := 91) dX5_wayNow_91 rfl rfl ?_
          refine LW.get (pc := 92) (f := 4) (ci := 5) (T := TX5) ht (by decide) rfl dX5_wayNow_92 tw_802 rfl (by decide) rfl ?_
          refine AW.iload (pc := 95) dX5_wayNow_95 rfl ?_
          obtain ⟨hin, hw⟩ := hw
          refine LW.iald (pc := 97) (j := r19.toNatClampNeg) ht (by decide) rfl dX5_wayNow_97 hin rfl ?_
          refine AW.istore_n (L' := [.ref 47, .int x1, .int (m20 50 (r19).toNatClampNeg), .int x3, .int r19]) (pc := 98) dX5_wayNow_98 rfl (by decide) rfl rfl ?_
          refine AW.aload_n (pc := 99) dX5_wayNow_99 rfl rfl ?_
          refine LW.get (pc := 100) (f := 5) (ci := 5) (T := TX5) ht (by decide) rfl dX5_wayNow_100 tw_803 rfl (by decide) rfl ?_
          refine AW.iload (pc := 103) dX5_wayNow_103 rfl ?_
          obtain ⟨hin, hw⟩ := hw
          refine LW.iald (pc := 105) (j := r19.toNatClampNeg) ht (by decide) rfl dX5_wayNow_105 hin rfl ?_
          refine AW.iconst (v := -1) (pc := 106) dX5_wayNow_106 (by decide) ?_
          have hw := hw (fun v23 m24 => AW Z mX5_wayNow d k0 mc ms Q 139 [.ref 47, .int x1, .int v23, .int x3, .int r19] [] (lay t ex2 o m24) k2 (cs) (ss)) (by
              intro v23 m24 hw
              refine AW.aload_n (pc := 139) dX5_wayNow_139 rfl rfl ?_
              refine LW.get (pc := 140) (f := 6) (ci := 5) (T := TX5) ht (by decide) rfl dX5_wayNow_140 tw_804 rfl (by decide) rfl ?_
              refine AW.iload (pc := 143) dX5_wayNow_143 rfl ?_
              obtain ⟨hin, hw⟩ := hw
              refine LW.iald (pc := 145) (j := r19.toNatClampNeg) ht (by decide) rfl dX5_wayNow_145 hin rfl ?_
              refine AW.iconst (v := -1) (pc := 146) dX5_wayNow_146 (by decide) ?_
              refine AW.icmp_eq (pc := 147) (tgt := 179) dX5_wayNow_147 (by decide) (fun c28 => ?_) (fun c28 => ?_)
              · have hw := hw.1 c28
                refine AW.iinc (v := (x3 + 1)) (L' := [.ref 47, .int x1, .int v23, .int (x3 + 1), .int r19]) (pc := 179) dX5_wayNow_179 rfl rfl (by decide) rfl rfl ?_
                refine AW.goto (pc := 182) (tgt := 63) dX5_wayNow_182 (by decide) ?_
                refine AW.locals (L' := [.ref 47, .int x1, .int v23, .int (x3 + 1), .null]) (aw_fewer_same (aw_fewer_same (aw_fewer_same (aw_fewer_same (aw_fewer_null aw_fewer_nil))))) ?_
                exact ih x1 v23 (x3 + 1) m24 hw
              · have hw := hw.2 c28
                refine AW.aload_n (pc := 150) dX5_wayNow_150 rfl rfl ?_
                refine LW.get (pc := 151) (f := 14) (ci := 5) (T := TX5) ht (by decide) rfl dX5_wayNow_151 tw_812 rfl (by decide) rfl ?_
                refine AW.aload_n (pc := 154) dX5_wayNow_154 rfl rfl ?_
                refine LW.get (pc := 155) (f := 6) (ci := 5) (T := TX5) ht (by decide) rfl dX5_wayNow_155 tw_804 rfl (by decide) rfl ?_
                refine AW.iload (pc := 158) dX5_wayNow_158 rfl ?_
                obtain ⟨hin, hw⟩ := hw
                refine LW.iald (pc := 160) (j := r19.toNatClampNeg) ht (by decide) rfl dX5_wayNow_160 hin rfl ?_
                obtain ⟨hin, hw⟩ := hw
                refine LW.iald (pc := 161) (j := (m24 52 (r19).toNatClampNeg).toNatClampNeg) ht (by decide) rfl dX5_wayNow_161 hin rfl ?_
                refine AW.aload_n (pc := 162) dX5_wayNow_162 rfl rfl ?_
                refine LW.get (pc := 163) (f := 14) (ci := 5) (T := TX5) ht (by decide) rfl dX5_wayNow_163 tw_812 rfl (by decide) rfl ?_
                refine AW.iload_n (pc := 166) dX5_wayNow_166 rfl rfl ?_
                obtain ⟨hin, hw⟩ := hw
                refine LW.iald (pc := 167) (j := v23.toNatClampNeg) ht (by decide) rfl dX5_wayNow_167 hin rfl ?_
                refine AW.icmp_le (pc := 168) (tgt := 179) dX5_wayNow_168 (by decide) (fun c29 => ?_) (fun c29 => ?_)
                · have hw := hw.1 c29
                  refine AW.iinc (v := (x3 + 1)) (L' := [.ref 47, .int x1, .int v23, .int (x3 + 1), .int r19]) (pc := 179) dX5_wayNow_179 rfl rfl (by decide) rfl rfl ?_
                  refine AW.goto (pc := 182) (tgt := 63) dX5_wayNow_182 (by decide) ?_
                  refine AW.locals (L' := [.ref 47, .int x1, .int v23, .int (x3 + 1), .null]) (aw_fewer_same (aw_fewer_same (aw_fewer_same (aw_fewer_same (aw_fewer_null aw_fewer_nil))))) ?_
                  exact ih x1 v23 (x3 + 1) m24 hw
                · have hw := hw.2 c29
                  refine AW.aload_n (pc := 171) dX5_wayNow_171 rfl rfl ?_
                  refine LW.get (pc := 172) (f := 6) (ci := 5) (T := TX5) ht (by decide) rfl dX5_wayNow_172 tw_804 rfl (by decide) rfl ?_
                  refine AW.iload (pc := 175) dX5_wayNow_175 rfl ?_
                  obtain ⟨hin, hw⟩ := hw
                  refine LW.iald (pc := 177) (j := r19.toNatClampNeg) ht (by decide) rfl dX5_wayNow_177 hin rfl ?_
                  refine AW.istore_n (L' := [.ref 47, .int x1, .int (m24 52 (r19).toNatClampNeg), .int x3, .int r19]) (pc := 178) dX5_wayNow_178 rfl (by decide) rfl rfl ?_
                  refine AW.iinc (v := (x3 + 1)) (L' := [.ref 47, .int x1, .int (m24 52 (r19).toNatClampNeg), .int (x3 + 1), .int r19]) (pc := 179) dX5_wayNow_179 rfl rfl (by decide) rfl rfl ?_
                  refine AW.goto (pc := 182) (tgt := 63) dX5_wayNow_182 (by decide) ?_
                  refine AW.locals (L' := [.ref 47, .int x1, .int (m24 52 (r19).toNatClampNeg), .int (x3 + 1), .null]) (aw_fewer_same (aw_fewer_same (aw_fewer_same (aw_fewer_same (aw_fewer_null aw_fewer_nil))))) ?_
                  exact ih x1 (m24 52 (r19).toNatClampNeg) (x3 + 1) m24 hw)
          refine AW.icmp_eq (pc := 107) (tgt := 139) dX5_wayNow_107 (by decide) (fun c26 => ?_) (fun c26 => ?_)
          · have hw := hw.1 c26
            exact hw
          · have hw := hw.2 c26
            refine AW.aload_n (pc := 110) dX5_wayNow_110 rfl rfl ?_
            refine LW.get (pc := 111) (f := 14) (ci := 5) (T := TX5) ht (by decide) rfl dX5_wayNow_111 tw_812 rfl (by decide) rfl ?_
            refine AW.aload_n (pc := 114) dX5_wayNow_114 rfl rfl ?_
            refine LW.get (pc := 115) (f := 5) (ci := 5) (T := TX5) ht (by decide) rfl dX5_wayNow_115 tw_803 rfl (by decide) rfl ?_
            refine AW.iload (pc := 118) dX5_wayNow_118 rfl ?_
            obtain ⟨hin, hw⟩ := hw
            refine LW.iald (pc := 120) (j := r19.toNatClampNeg) ht (by decide) rfl dX5_wayNow_120 hin rfl ?_
            obtain ⟨hin, hw⟩ := hw
            refine LW.iald (pc := 121) (j := (m20 51 (r19).toNatClampNeg).toNatClampNeg) ht (by decide) rfl dX5_wayNow_121 hin rfl ?_
            refine AW.aload_n (pc := 122) dX5_wayNow_122 rfl rfl ?_
            refine LW.get (pc := 123) (f := 14) (ci := 5) (T := TX5) ht (by decide) rfl dX5_wayNow_123 tw_812 rfl (by decide) rfl ?_
            refine AW.iload_n (pc := 126) dX5_wayNow_126 rfl rfl ?_
            obtain ⟨hin, hw⟩ := hw
            refine LW.iald (pc := 127) (j := (m20 50 (r19).toNatClampNeg).toNatClampNeg) ht (by decide) rfl dX5_wayNow_127 hin rfl ?_
            refine AW.icmp_le (pc := 128) (tgt := 139) dX5_wayNow_128 (by decide) (fun c27 => ?_) (fun c27 => ?_)
            · have hw := hw.1 c27
              exact hw
            · have hw := hw.2 c27
              refine AW.aload_n (pc := 131) dX5_wayNow_131 rfl rfl ?_
              refine LW.get (pc := 132) (f := 5) (ci := 5) (T := TX5) ht (by decide) rfl dX5_wayNow_132 tw_803 rfl (by decide) rfl ?_
              refine AW.iload (pc := 135) dX5_wayNow_135 rfl ?_
              obtain ⟨hin, hw⟩ := hw
              refine LW.iald (pc := 137) (j := r19.toNatClampNeg) ht (by decide) rfl dX5_wayNow_137 hin rfl ?_
              refine AW.istore_n (L' := [.ref 47, .int x1, .int (m20 51 (r19).toNatClampNeg), .int x3, .int r19]) (pc := 138) dX5_wayNow_138 rfl (by decide) rfl rfl ?_
              exact hw
        · have hw := hw.2 c22
          refine AW.iconst (v := -1) (pc := 89) dX5_wayNow_89 (by decide) ?_
          exact AW.iret (pc := 90) dX5_wayNow_90 rfl rfl (by omega) (by omega) (hQ hx2 _ _ hw)
set_option maxRecDepth 100000 in
set_option maxHeartbeats 4000000 in
theorem b_M_wayNow {Z : Gz} {d k0 mc ms cs ss k t : Nat} {Q : Po} {ex : Hp} {o : Nat → Int64} {K : Int32 → Mem → Prop}  (ht : tok t) (hd : 36 ≤ d) (hcs : cs + 24 ≤ mc) (hss : ss + 576 ≤ ms) (hQ : ∀ {k2 : Nat} {ex2 : Hp}, exle k ex k2 ex2 → ∀ (r : Int32) (m : Mem), K r m → Q (.inl (some (.int r))) (lay t ex2 o m) k2) (hk : kok t k) {m : Mem} (p1 : Int32) (hw : w_M_wayNow p1 m K) : AW Z mX5_wayNow d k0 mc ms Q 0 [.ref 47, .int p1, .null, .null, .null] [] (lay t ex o m) k cs ss := by
  unfold w_M_wayNow at hw
  refine AW.aload_n (pc := 0) dX5_wayNow_0 rfl rfl ?_
  refine AW.callV (pc := 1) (S' := []) dX5_wayNow_1 (c_M_tellArrivals (d := d - 1) ht (by omega) hk hw) ok_X5_tellArrivals tw_942 ts_43 tw_940 (fix_pos (by decide)) (lay_at ht (by decide)) (show aw_cl[5]? = some _ from rfl) rfl rfl (by omega) rfl (Nat.le_of_ble_eq_true rfl) (by omega) (by omega) ?_ (fun E h' k' hq => by obtain ⟨ex3, m1, hx4, hv, -⟩ := hq; cases hv)
  intro v h' k2 hq
  obtain ⟨ex3, m1, hx4, hv, rfl, hw⟩ := hq
  cases hv
  show AW _ _ _ _ _ _ _ 4 [.ref 47, .int p1, .null, .null, .null] [] (lay t ex3 o m1) k2 _ _
  refine AW.iconst (v := -1) (pc := 4) dX5_wayNow_4 (by decide) ?_
  refine AW.istore_n (L' := [.ref 47, .int p1, .int (-1 : Int32), .null, .null]) (pc := 5) dX5_wayNow_5 rfl (by decide) rfl rfl ?_
  refine AW.iconst (v := 0) (pc := 6) dX5_wayNow_6 (by decide) ?_
  refine AW.istore_n (L' := [.ref 47, .int p1, .int (-1 : Int32), .int (0 : Int32), .null]) (pc := 7) dX5_wayNow_7 rfl (by decide) rfl rfl ?_
  refine l_M_wayNow_8 ht hd (by omega) (by omega) hQ hk hx4 ?_ 25 p1 (-1 : Int32) (0 : Int32) m1 hw
  intro y12 y13 y14 m15 hw
  refine AW.iconst (v := 0) (pc := 61) dX5_wayNow_61 (by decide) ?_
  refine AW.istore_n (L' := [.ref 47, .int y12, .int y13, .int (0 : Int32), .null]) (pc := 62) dX5_wayNow_62 rfl (by decide) rfl rfl ?_
  refine l_M_wayNow_63 ht hd (by omega) (by omega) hQ hk hx4 ?_ 100 y12 y13 (0 : Int32) m15 hw
  intro y30 y31 y32 m33 hw
  refine AW.iload_n (pc := 185) dX5_wayNow_185 rfl rfl ?_
  exact AW.iret (pc := 186) dX5_wayNow_186 rfl rfl (by omega) (by omega) (hQ hx4 _ _ hw)
set_option maxRecDepth 100000 in
set_option maxHeartbeats 4000000 in
theorem c_M_wayNow {d k t : Nat} {ex : Hp} {o : Nat → Int64} {K : Int32 → Mem → Prop} {m : Mem} {p1 : Int32} (ht : tok t) (hd : 36 ≤ d) (hk : kok t k) (hw : w_M_wayNow p1 m K) : AM mX5_wayNow d [.ref 47, .int p1] (lay t ex o m) k 24 576 (fun oc h' k' => ∃ (ex' : Hp) (r : Int32) (m' : Mem), exle k ex k' ex' ∧ oc = .inl (some (.int r)) ∧ h' = lay t ex' o m' ∧ K r m') :=
  AM.intro (μ := mX5_wayNow) (n := 3) (by decide) rfl rfl rfl (b_M_wayNow ht hd (by omega) (by omega) (fun hx _ _ hK => ⟨_, _, _, hx, rfl, rfl, hK⟩) hk p1 hw)
def w_M_digest_59 : Nat → Int64 → Int32 → Mem → (Int64 → Int32 → Mem → Prop) → (Int64 → Mem → Prop) → Prop
  | 0, _, _, _, _, _ => False
  | n + 1, x1, x3, m, E84, K => (((6 : Int32) ≤ x3 → E84 x1 x3 m) ∧ (¬ ((6 : Int32) ≤ x3) → w_M_toldNow x3 m (fun r17 m16 => w_M_digest_59 n ((x1 * (31 : Int64)) + r17.toInt64) (x3 + 1) m16 E84 K)))
def w_M_digest_86 : Nat → Int64 → Int32 → Mem → (Int64 → Int32 → Mem → Prop) → (Int64 → Mem → Prop) → Prop
  | 0, _, _, _, _, _ => False
  | n + 1, x1, x3, m, E116, K => ((((2 : Int32) * (m 47 12)) ≤ x3 → E116 x1 x3 m) ∧ (¬ (((2 : Int32) * (m 47 12)) ≤ x3) → vp_in x3 108 ∧ w_M_digest_86 n ((x1 * (31 : Int64)) + (m 57 (x3).toNatClampNeg).toInt64) (x3 + 1) m E116 K))
def w_M_digest_118 : Nat → Int64 → Int32 → Mem → (Int64 → Int32 → Mem → Prop) → (Int64 → Mem → Prop) → Prop
  | 0, _, _, _, _, _ => False
  | n + 1, x1, x3, m, E143, K => (((6 : Int32) ≤ x3 → E143 x1 x3 m) ∧ (¬ ((6 : Int32) ≤ x3) → w_M_wayNow x3 m (fun r27 m26 => w_M_digest_118 n ((x1 * (31 : Int64)) + r27.toInt64) (x3 + 1) m26 E143 K)))
def w_M_digest_179 : Nat → Int64 → Int32 → Int32 → Mem → (Int64 → Int32 → Int32 → Mem → Prop) → (Int64 → Mem → Prop) → Prop
  | 0, _, _, _, _, _, _ => False
  | n + 1, x1, x3, x4, m, E214, K => (((4 : Int32) ≤ x4 → E214 x1 x3 x4 m) ∧ (¬ ((4 : Int32) ≤ x4) → vp_in (((6 : Int32) + (x4 * (24 : Int32))) + x3) 342 ∧ w_M_digest_179 n ((x1 * (31 : Int64)) + (m 60 (((6 : Int32) + (x4 * (24 : Int32))) + x3).toNatClampNeg).toInt64) x3 (x4 + 1) m E214 K))
def w_M_digest_145 : Nat → Int64 → Int32 → Mem → (Int64 → Int32 → Mem → Prop) → (Int64 → Mem → Prop) → Prop
  | 0, _, _, _, _, _ => False
  | n + 1, x1, x3, m, E220, K => (((24 : Int32) ≤ x3 → E220 x1 x3 m) ∧ (¬ ((24 : Int32) ≤ x3) → vp_in x3 24 ∧ w_M_usersNow x3 m (fun r39 m38 => w_M_digest_179 5 ((((x1 * (31 : Int64)) + (m 58 (x3).toNatClampNeg).toInt64) * (31 : Int64)) + r39.toInt64) x3 (0 : Int32) m38 (fun y41 y42 y43 m44 => w_M_digest_145 n y41 (y42 + 1) m44 E220 K) K)))
def w_M_digest_222 : Nat → Int64 → Int32 → Mem → (Int64 → Int32 → Mem → Prop) → (Int64 → Mem → Prop) → Prop
  | 0, _, _, _, _, _ => False
  | n + 1, x1, x3, m, E253, K => (((m 47 1) ≤ x3 → E253 x1 x3 m) ∧ (¬ ((m 47 1) ≤ x3) → vp_in ((102 : Int32) + x3) 342 ∧ w_M_digest_222 n ((x1 * (31 : Int64)) + (m 60 ((102 : Int32) + x3).toNatClampNeg).toInt64) (x3 + 1) m E253 K))
def w_M_digest_269 : Nat → Int64 → Int32 → Mem → (Int64 → Int32 → Mem → Prop) → (Int64 → Mem → Prop) → Prop
  | 0, _, _, _, _, _ => False
  | n + 1, x1, x3, m, E305, K => ((((3 : Int32) * (m 60 5)) ≤ x3 → E305 x1 x3 m) ∧ (¬ (((3 : Int32) * (m 60 5)) ≤ x3) → vp_in ((222 : Int32) + x3) 342 ∧ w_M_digest_269 n ((x1 * (31 : Int64)) + (m 60 ((222 : Int32) + x3).toNatClampNeg).toInt64) (x3 + 1) m E305 K))
def w_M_digest (m : Mem) (K : Int64 → Mem → Prop) : Prop :=
  ∀ m1 : Mem, m1 = up2 m 47 0 (0 : Int32) → w_M_noteFlaws  m1 (fun m2 => w_M_longestNow  m2 (fun r7 m6 => (∀ J13 : Int32 → Mem → Prop, (∀ (v11 : Int32) (m12 : Mem), (w_M_digest_59 7 ((((((((1800170 : Int64) + (m2 47 1).toInt64) * (31 : Int64)) + (m2 47 12).toInt64) * (31 : Int64)) + r7.toInt64) * (31 : Int64)) + v11.toInt64) (0 : Int32) m12 (fun y18 y19 m20 => w_M_digest_86 109 y18 (0 : Int32) m20 (fun y22 y23 m24 => w_M_digest_118 7 y22 (0 : Int32) m24 (fun y31 y32 m33 => w_M_digest_145 25 y31 (0 : Int32) m33 (fun y45 y46 m47 => w_M_digest_222 31 y45 (0 : Int32) m47 (fun y49 y50 m51 => w_M_digest_269 121 ((y49 * (31 : Int64)) + (m51 60 5).toInt64) (0 : Int32) m51 (fun y53 y54 m55 => (((m55 47 11) = 0 → K y53 m55) ∧ (¬ ((m55 47 11) = 0) → w_M_settlesNow  m55 (fun r58 m57 => K ((y53 * (31 : Int64)) + r58.toInt64) m57)))) K) K) K) K) K) K) → J13 v11 m12) → (((m6 47 11) = 0 → J13 (0 : Int32) m6) ∧ (¬ ((m6 47 11) = 0) → J13 (1 : Int32) m6)))))
set_option maxRecDepth 100000 in
set_option maxHeartbeats 4000000 in
theorem l_M_digest_59 {Z : Gz} {d k0 mc ms cs ss k t : Nat} {Q : Po} {ex : Hp} {o : Nat → Int64} {K : Int64 → Mem → Prop}  (ht : tok t) (hd : 37 ≤ d) (hcs : cs ≤ mc) (hss : ss ≤ ms) (hQ : ∀ {k2 : Nat} {ex2 : Hp}, exle k ex k2 ex2 → ∀ (r : Int64) (m : Mem), K r m → Q (.inl (some (.long r))) (lay t ex2 o m) k2) (hk : kok t k) {k2 : Nat} {ex2 : Hp} (hx2 : exle k ex k2 ex2) {E84 : Int64 → Int32 → Mem → Prop} (hE84 : ∀ (x1 : Int64) (x3 : Int32) (m : Mem), E84 x1 x3 m → AW Z mX5_digest d k0 mc ms Q 84 [.ref 47, .long x1, .null, .int x3, .null] [] (lay t ex2 o m) k2 cs ss) : ∀ (n : Nat) (x1 : Int64) (x3 : Int32) (m : Mem),  w_M_digest_59 n x1 x3 m E84 K → AW Z mX5_digest d k0 mc ms Q 59 [.ref 47, .long x1, .null, .int x3, .null] [] (lay t ex2 o m) k2 cs ss := by
  intro n
  induction n with
  | zero =>
    intros; rename_i hw; exact absurd hw (by simp [w_M_digest_59])
  | succ n ih =>
    intro x1 x3 m hw
    unfold w_M_digest_59 at hw
    refine AW.iload_n (pc := 59) dX5_digest_59 rfl rfl ?_
    refine AW.bipush (v := 6) (pc := 60) dX5_digest_60 (by decide) ?_
    refine AW.icmp_ge (pc := 62) (tgt := 84) dX5_digest_62 (by decide) (fun c15 => ?_) (fun c15 => ?_)
    · have hw := hw.1 c15
      exact hE84 x1 x3 m hw
    · have hw := hw.2 c15
      refine AW.lload_n (pc := 65) dX5_digest_65 rfl rfl ?_
      refine AW.ldc2 (pc := 66) dX5_digest_66 tw_1125 ?_
      refine AW.lmul (pc := 69) dX5_digest_69 ?_
      refine AW.aload_n (pc := 70) dX5_digest_70 rfl rfl ?_
      refine AW.iload_n (pc := 71) dX5_digest_71 rfl rfl ?_
      refine AW.callV (pc := 72) (S' := [.long (x1 * (31 : Int64))]) dX5_digest_72 (c_M_toldNow (d := d - 1) ht (by omega) hw) ok_X5_toldNow tw_1073 ts_64 tw_1071 (fix_pos (by decide)) (lay_at ht (by decide)) (show aw_cl[5]? = some _ from rfl) rfl rfl (by omega) rfl (Nat.le_of_ble_eq_true rfl) (by omega) (by omega) ?_ (fun E h' k' hq => by obtain ⟨rfl, r17, m16, hv, -⟩ := hq; cases hv)
      intro v h' k' hq
      obtain ⟨rfl, r17, m16, hv, rfl, hw⟩ := hq
      cases hv
      show AW _ _ _ _ _ _ _ 75 [.ref 47, .long x1, .null, .int x3, .null] [.int r17, .long (x1 * (31 : Int64))] (lay t ex2 o m16) k2 _ _
      refine AW.i2l (pc := 75) dX5_digest_75 ?_
      refine AW.ladd (pc := 76) dX5_digest_76 ?_
      refine AW.lstore_n (L' := [.ref 47, .long ((x1 * (31 : Int64)) + r17.toInt64), .null, .int x3, .null]) (pc := 77) dX5_digest_77 rfl (by decide) rfl rfl ?_
      refine AW.iinc (v := (x3 + 1)) (L' := [.ref 47, .long ((x1 * (31 : Int64)) + r17.toInt64), .null, .int (x3 + 1), .null]) (pc := 78) dX5_digest_78 rfl rfl (by decide) rfl rfl ?_
      refine AW.goto (pc := 81) (tgt := 59) dX5_digest_81 (by decide) ?_
      exact ih ((x1 * (31 : Int64)) + r17.toInt64) (x3 + 1) m16 hw
set_option maxRecDepth 100000 in
set_option maxHeartbeats 4000000 in
theorem l_M_digest_86 {Z : Gz} {d k0 mc ms cs ss k t : Nat} {Q : Po} {ex : Hp} {o : Nat → Int64} {K : Int64 → Mem → Prop}  (ht : tok t) (hd : 37 ≤ d) (hcs : cs ≤ mc) (hss : ss ≤ ms) (hQ : ∀ {k2 : Nat} {ex2 : Hp}, exle k ex k2 ex2 → ∀ (r : Int64) (m : Mem), K r m → Q (.inl (some (.long r))) (lay t ex2 o m) k2) (hk : kok t k) {k2 : Nat} {ex2 : Hp} (hx2 : exle k ex k2 ex2) {E116 : Int64 → Int32 → Mem → Prop} (hE116 : ∀ (x1 : Int64) (x3 : Int32) (m : Mem), E116 x1 x3 m → AW Z mX5_digest d k0 mc ms Q 116 [.ref 47, .long x1, .null, .int x3, .null] [] (lay t ex2 o m) k2 cs ss) : ∀ (n : Nat) (x1 : Int64) (x3 : Int32) (m : Mem),  w_M_digest_86 n x1 x3 m E116 K → AW Z mX5_digest d k0 mc ms Q 86 [.ref 47, .long x1, .null, .int x3, .null] [] (lay t ex2 o m) k2 cs ss := by
  intro n
  induction n with
  | zero =>
    intros; rename_i hw; exact absurd hw (by simp [w_M_digest_86])
  | succ n ih =>
    intro x1 x3 m hw
    unfold w_M_digest_86 at hw
    refine AW.iload_n (pc := 86) dX5_digest_86 rfl rfl ?_
    refine AW.iconst (v := 2) (pc := 87) dX5_digest_87 (by decide) ?_
    refine AW.aload_n (pc := 88) dX5_digest_88 rfl rfl ?_
    refine LW.get (pc := 89) (f := 12) (ci := 5) (T := TX5) ht (by decide) rfl dX5_digest_89 tw_810 rfl (by decide) rfl ?_
    refine AW.imul (pc := 92) dX5_digest_92 ?_
    refine AW.icmp_ge (pc := 93) (tgt := 116) dX5_digest_93 (by decide) (fun c21 => ?_) (fun c21 => ?_)
    · have hw := hw.1 c21
      exact hE116 x1 x3 m hw
    · have hw := hw.2 c21
      refine AW.lload_n (pc := 96) dX5_digest_96 rfl rfl ?_
      refine AW.ldc2 (pc := 97) dX5_digest_97 tw_1125 ?_
      refine AW.lmul (pc := 100) dX5_digest_100 ?_
      refine AW.aload_n (pc := 101) dX5_digest_101 rfl rfl ?_
      refine LW.get (pc := 102) (f := 13) (ci := 5) (T := TX5) ht (by decide) rfl dX5_digest_102 tw_811 rfl (by decide) rfl ?_
      refine AW.iload_n (pc := 105) dX5_digest_105 rfl rfl ?_
      obtain ⟨hin, hw⟩ := hw
      refine LW.iald (pc := 106) (j := x3.toNatClampNeg) ht (by decide) rfl dX5_digest_106 hin rfl ?_
      refine AW.i2l (pc := 107) dX5_digest_107 ?_
      refine AW.ladd (pc := 108) dX5_digest_108 ?_
      refine AW.lstore_n (L' := [.ref 47, .long ((x1 * (31 : Int64)) + (m 57 (x3).toNatClampNeg).toInt64), .null, .int x3, .null]) (pc := 109) dX5_digest_109 rfl (by decide) rfl rfl ?_
      refine AW.iinc (v := (x3 + 1)) (L' := [.ref 47, .long ((x1 * (31 : Int64)) + (m 57 (x3).toNatClampNeg).toInt64), .null, .int (x3 + 1), .null]) (pc := 110) dX5_digest_110 rfl rfl (by decide) rfl rfl ?_
      refine AW.goto (pc := 113) (tgt := 86) dX5_digest_113 (by decide) ?_
      exact ih ((x1 * (31 : Int64)) + (m 57 (x3).toNatClampNeg).toInt64) (x3 + 1) m hw
set_option maxRecDepth 100000 in
set_option maxHeartbeats 4000000 in
theorem l_M_digest_118 {Z : Gz} {d k0 mc ms k t : Nat} {Q : Po} {ex : Hp} {o : Nat → Int64} {K : Int64 → Mem → Prop} {cB sB : Nat} (ht : tok t) (hd : 37 ≤ d) (hQ : ∀ {k2 : Nat} {ex2 : Hp}, exle k ex k2 ex2 → ∀ (r : Int64) (m : Mem), K r m → Q (.inl (some (.long r))) (lay t ex2 o m) k2) (hk : kok t k) (hc1 : cB ≤ mc) (hs1 : sB ≤ ms) {E143 : Int64 → Int32 → Mem → Prop} (hE143 : ∀ (x1 : Int64) (x3 : Int32) (m : Mem) (k2 : Nat) (ex2 : Hp), exle k ex k2 ex2 → E143 x1 x3 m → AW Z mX5_digest d k0 mc ms Q 143 [.ref 47, .long x1, .null, .int x3, .null] [] (lay t ex2 o m) k2 cB sB) : ∀ (n : Nat) (x1 : Int64) (x3 : Int32) (m : Mem) (k2 : Nat) (ex2 : Hp), exle k ex k2 ex2 → ∀ (cs ss : Nat), cs + n * 24 ≤ cB → ss + n * 576 ≤ sB → w_M_digest_118 n x1 x3 m E143 K → AW Z mX5_digest d k0 mc ms Q 118 [.ref 47, .long x1, .null, .int x3, .null] [] (lay t ex2 o m) k2 cs ss := by
  intro n
  induction n with
  | zero =>
    intros; rename_i hw; exact absurd hw (by simp [w_M_digest_118])
  | succ n ih =>
    intro x1 x3 m k2 ex2 hx2 cs ss hc2 hs2 hw
    unfold w_M_digest_118 at hw
    refine AW.iload_n (pc := 118) dX5_digest_118 rfl rfl ?_
    refine AW.bipush (v := 6) (pc := 119) dX5_digest_119 (by decide) ?_
    refine AW.icmp_ge (pc := 121) (tgt := 143) dX5_digest_121 (by decide) (fun c25 => ?_) (fun c25 => ?_)
    · have hw := hw.1 c25
      refine AW.widen (cs' := cB) (ss' := sB) (by omega) (by omega) ?_
      exact hE143 x1 x3 m _ _ hx2 hw
    · have hw := hw.2 c25
      refine AW.lload_n (pc := 124) dX5_digest_124 rfl rfl ?_
      refine AW.ldc2 (pc := 125) dX5_digest_125 tw_1125 ?_
      refine AW.lmul (pc := 128) dX5_digest_128 ?_
      refine AW.aload_n (pc := 129) dX5_digest_129 rfl rfl ?_
      refine AW.iload_n (pc := 130) dX5_digest_130 rfl rfl ?_
      refine AW.callV (pc := 131) (S' := [.long (x1 * (31 : Int64))]) dX5_digest_131 (c_M_wayNow (d := d - 1) ht (by omega) (hk.le hx2) hw) ok_X5_wayNow tw_974 ts_48 tw_972 (fix_pos (by decide)) (lay_at ht (by decide)) (show aw_cl[5]? = some _ from rfl) rfl rfl (by omega) rfl (Nat.le_of_ble_eq_true rfl) (by omega) (by omega) ?_ (fun E h' k' hq => by obtain ⟨ex29, r27, m26, hx30, hv, -⟩ := hq; cases hv)
      intro v h' k28 hq
      obtain ⟨ex29, r27, m26, hx30, hv, rfl, hw⟩ := hq
      cases hv
      show AW _ _ _ _ _ _ _ 134 [.ref 47, .long x1, .null, .int x3, .null] [.int r27, .long (x1 * (31 : Int64))] (lay t ex29 o m26) k28 _ _
      refine AW.i2l (pc := 134) dX5_digest_134 ?_
      refine AW.ladd (pc := 135) dX5_digest_135 ?_
      refine AW.lstore_n (L' := [.ref 47, .long ((x1 * (31 : Int64)) + r27.toInt64), .null, .int x3, .null]) (pc := 136) dX5_digest_136 rfl (by decide) rfl rfl ?_
      refine AW.iinc (v := (x3 + 1)) (L' := [.ref 47, .long ((x1 * (31 : Int64)) + r27.toInt64), .null, .int (x3 + 1), .null]) (pc := 137) dX5_digest_137 rfl rfl (by decide) rfl rfl ?_
      refine AW.goto (pc := 140) (tgt := 118) dX5_digest_140 (by decide) ?_
      exact ih ((x1 * (31 : Int64)) + r27.toInt64) (x3 + 1) m26 _ _ (hx2.trans hx30) _ _ (by omega) (by omega) hw
set_option maxRecDepth 100000 in
set_option maxHeartbeats 4000000 in
theorem l_M_digest_179 {Z : Gz} {d k0 mc ms cs ss k t : Nat} {Q : Po} {ex : Hp} {o : Nat → Int64} {K : Int64 → Mem → Prop}  (ht : tok t) (hd : 37 ≤ d) (hcs : cs ≤ mc) (hss : ss ≤ ms) (hQ : ∀ {k2 : Nat} {ex2 : Hp}, exle k ex k2 ex2 → ∀ (r : Int64) (m : Mem), K r m → Q (.inl (some (.long r))) (lay t ex2 o m) k2) (hk : kok t k) {k2 : Nat} {ex2 : Hp} (hx2 : exle k ex k2 ex2) {E214 : Int64 → Int32 → Int32 → Mem → Prop} (hE214 : ∀ (x1 : Int64) (x3 : Int32) (x4 : Int32) (m : Mem), E214 x1 x3 x4 m → AW Z mX5_digest d k0 mc ms Q 214 [.ref 47, .long x1, .null, .int x3, .int x4] [] (lay t ex2 o m) k2 cs ss) : ∀ (n : Nat) (x1 : Int64) (x3 : Int32) (x4 : Int32) (m : Mem),  w_M_digest_179 n x1 x3 x4 m E214 K → AW Z mX5_digest d k0 mc ms Q 179 [.ref 47, .long x1, .null, .int x3, .int x4] [] (lay t ex2 o m) k2 cs ss := by
  intro n
  induction n with
  | zero =>
    intros; rename_i hw; exact absurd hw (by simp [w_M_digest_179])
  | succ n ih =>
    intro x1 x3 x4 m hw
    unfold w_M_digest_179 at hw
    refine AW.iload (pc := 179) dX5_digest_179 rfl ?_
    refine AW.iconst (v := 4) (pc := 181) dX5_digest_181 (by decide) ?_
    refine AW.icmp_ge (pc := 182) (tgt := 214) dX5_digest_182 (by decide) (fun c40 => ?_) (fun c40 => ?_)
    · have hw := hw.1 c40
      exact hE214 x1 x3 x4 m hw
    · have hw := hw.2 c40
      refine AW.lload_n (pc := 185) dX5_digest_185 rfl rfl ?_
      refine AW.ldc2 (pc := 186) dX5_digest_186 tw_1125 ?_
      refine AW.lmul (pc := 189) dX5_digest_189 ?_
      refine AW.aload_n (pc := 190) dX5_digest_190 rfl rfl ?_
      refine LW.get (pc := 191) (f := 10) (ci := 5) (T := TX5) ht (by decide) rfl dX5_digest_191 tw_808 rfl (by decide) rfl ?_
      refine AW.bipush (v := 6) (pc := 194) dX5_digest_194 (by decide) ?_
      refine AW.iload (pc := 196) dX5_digest_196 rfl ?_
      refine AW.bipush (v := 24) (pc := 198) dX5_digest_198 (by decide) ?_
      refine AW.imul (pc := 200) dX5_digest_200 ?_
      refine AW.iadd (pc := 201) dX5_digest_201 ?_
      refine AW.iload_n (pc := 202) dX5_digest_202 rfl rfl ?_
      refine AW.iadd (pc := 203) dX5_digest_203 ?_
      obtain ⟨hin, hw⟩ := hw
      refine LW.ialdt (pc := 204) (j := (((6 : Int32) + (x4 * (24 : Int32))) + x3).toNatClampNeg) ht dX5_digest_204 hin rfl ?_
      refine AW.i2l (pc := 205) dX5_digest_205 ?_
      refine AW.ladd (pc := 206) dX5_digest_206 ?_
      refine AW.lstore_n (L' := [.ref 47, .long ((x1 * (31 : Int64)) + (m 60 (((6 : Int32) + (x4 * (24 : Int32))) + x3).toNatClampNeg).toInt64), .null, .int x3, .int x4]) (pc := 207) dX5_digest_207 rfl (by decide) rfl rfl ?_
      refine AW.iinc (v := (x4 + 1)) (L' := [.ref 47, .long ((x1 * (31 : Int64)) + (m 60 (((6 : Int32) + (x4 * (24 : Int32))) + x3).toNatClampNeg).toInt64), .null, .int x3, .int (x4 + 1)]) (pc := 208) dX5_digest_208 rfl rfl (by decide) rfl rfl ?_
      refine AW.goto (pc := 211) (tgt := 179) dX5_digest_211 (by decide) ?_
      exact ih ((x1 * (31 : Int64)) + (m 60 (((6 : Int32) + (x4 * (24 : Int32))) + x3).toNatClampNeg).toInt64) x3 (x4 + 1) m hw
set_option maxRecDepth 100000 in
set_option maxHeartbeats 4000000 in
theorem l_M_digest_145 {Z : Gz} {d k0 mc ms cs ss k t : Nat} {Q : Po} {ex : Hp} {o : Nat → Int64} {K : Int64 → Mem → Prop}  (ht : tok t) (hd : 37 ≤ d) (hcs : cs ≤ mc) (hss : ss ≤ ms) (hQ : ∀ {k2 : Nat} {ex2 : Hp}, exle k ex k2 ex2 → ∀ (r : Int64) (m : Mem), K r m → Q (.inl (some (.long r))) (lay t ex2 o m) k2) (hk : kok t k) {k2 : Nat} {ex2 : Hp} (hx2 : exle k ex k2 ex2) {E220 : Int64 → Int32 → Mem → Prop} (hE220 : ∀ (x1 : Int64) (x3 : Int32) (m : Mem), E220 x1 x3 m → AW Z mX5_digest d k0 mc ms Q 220 [.ref 47, .long x1, .null, .int x3, .null] [] (lay t ex2 o m) k2 cs ss) : ∀ (n : Nat) (x1 : Int64) (x3 : Int32) (m : Mem),  w_M_digest_145 n x1 x3 m E220 K → AW Z mX5_digest d k0 mc ms Q 145 [.ref 47, .long x1, .null, .int x3, .null] [] (lay t ex2 o m) k2 cs ss := by
  intro n
  induction n with
  | zero =>
    intros; rename_i hw; exact absurd hw (by simp [w_M_digest_145])
  | succ n ih =>
    intro x1 x3 m hw
    unfold w_M_digest_145 at hw
    refine AW.iload_n (pc := 145) dX5_digest_145 rfl rfl ?_
    refine AW.bipush (v := 24) (pc := 146) dX5_digest_146 (by decide) ?_
    refine AW.icmp_ge (pc := 148) (tgt := 220) dX5_digest_148 (by decide) (fun c37 => ?_) (fun c37 => ?_)
    · have hw := hw.1 c37
      exact hE220 x1 x3 m hw
    · have hw := hw.2 c37
      refine AW.lload_n (pc := 151) dX5_digest_151 rfl rfl ?_
      refine AW.ldc2 (pc := 152) dX5_digest_152 tw_1125 ?_
      refine AW.lmul (pc := 155) dX5_digest_155 ?_
      refine AW.aload_n (pc := 156) dX5_digest_156 rfl rfl ?_
      refine LW.get (pc := 157) (f := 14) (ci := 5) (T := TX5) ht (by decide) rfl dX5_digest_157 tw_812 rfl (by decide) rfl ?_
      refine AW.iload_n (pc := 160) dX5_digest_160 rfl rfl ?_
      obtain ⟨hin, hw⟩ := hw
      refine LW.iald (pc := 161) (j := x3.toNatClampNeg) ht (by decide) rfl dX5_digest_161 hin rfl ?_
      refine AW.i2l (pc := 162) dX5_digest_162 ?_
      refine AW.ladd (pc := 163) dX5_digest_163 ?_
      refine AW.ldc2 (pc := 164) dX5_digest_164 tw_1125 ?_
      refine AW.lmul (pc := 167) dX5_digest_167 ?_
      refine AW.aload_n (pc := 168) dX5_digest_168 rfl rfl ?_
      refine AW.iload_n (pc := 169) dX5_digest_169 rfl rfl ?_
      refine AW.callV (pc := 170) (S' := [.long (((x1 * (31 : Int64)) + (m 58 (x3).toNatClampNeg).toInt64) * (31 : Int64))]) dX5_digest_170 (c_M_usersNow (d := d - 1) ht (by omega) hw) ok_X5_usersNow tw_914 ts_38 tw_912 (fix_pos (by decide)) (lay_at ht (by decide)) (show aw_cl[5]? = some _ from rfl) rfl rfl (by omega) rfl (Nat.le_of_ble_eq_true rfl) (by omega) (by omega) ?_ (fun E h' k' hq => by obtain ⟨rfl, r39, m38, hv, -⟩ := hq; cases hv)
      intro v h' k' hq
      obtain ⟨rfl, r39, m38, hv, rfl, hw⟩ := hq
      cases hv
      show AW _ _ _ _ _ _ _ 173 [.ref 47, .long x1, .null, .int x3, .null] [.int r39, .long (((x1 * (31 : Int64)) + (m 58 (x3).toNatClampNeg).toInt64) * (31 : Int64))] (lay t ex2 o m38) k2 _ _
      refine AW.i2l (pc := 173) dX5_digest_173 ?_
      refine AW.ladd (pc := 174) dX5_digest_174 ?_
      refine AW.lstore_n (L' := [.ref 47, .long ((((x1 * (31 : Int64)) + (m 58 (x3).toNatClampNeg).toInt64) * (31 : Int64)) + r39.toInt64), .null, .int x3, .null]) (pc := 175) dX5_digest_175 rfl (by decide) rfl rfl ?_
      refine AW.iconst (v := 0) (pc := 176) dX5_digest_176 (by decide) ?_
      refine AW.istore (L' := [.ref 47, .long ((((x1 * (31 : Int64)) + (m 58 (x3).toNatClampNeg).toInt64) * (31 : Int64)) + r39.toInt64), .null, .int x3, .int (0 : Int32)]) (pc := 177) dX5_digest_177 (by decide) rfl rfl ?_
      refine l_M_digest_179 ht hd (by omega) (by omega) hQ hk hx2 ?_ 5 ((((x1 * (31 : Int64)) + (m 58 (x3).toNatClampNeg).toInt64) * (31 : Int64)) + r39.toInt64) x3 (0 : Int32) m38 hw
      intro y41 y42 y43 m44 hw
      refine AW.iinc (v := (y42 + 1)) (L' := [.ref 47, .long y41, .null, .int (y42 + 1), .int y43]) (pc := 214) dX5_digest_214 rfl rfl (by decide) rfl rfl ?_
      refine AW.goto (pc := 217) (tgt := 145) dX5_digest_217 (by decide) ?_
      refine AW.locals (L' := [.ref 47, .long y41, .null, .int (y42 + 1), .null]) (aw_fewer_same (aw_fewer_same (aw_fewer_null (aw_fewer_same (aw_fewer_null aw_fewer_nil))))) ?_
      exact ih y41 (y42 + 1) m44 hw
set_option maxRecDepth 100000 in
set_option maxHeartbeats 4000000 in
theorem l_M_digest_222 {Z : Gz} {d k0 mc ms cs ss k t : Nat} {Q : Po} {ex : Hp} {o : Nat → Int64} {K : Int64 → Mem → Prop}  (ht : tok t) (hd : 37 ≤ d) (hcs : cs ≤ mc) (hss : ss ≤ ms) (hQ : ∀ {k2 : Nat} {ex2 : Hp}, exle k ex k2 ex2 → ∀ (r : Int64) (m : Mem), K r m → Q (.inl (some (.long r))) (lay t ex2 o m) k2) (hk : kok t k) {k2 : Nat} {ex2 : Hp} (hx2 : exle k ex k2 ex2) {E253 : Int64 → Int32 → Mem → Prop} (hE253 : ∀ (x1 : Int64) (x3 : Int32) (m : Mem), E253 x1 x3 m → AW Z mX5_digest d k0 mc ms Q 253 [.ref 47, .long x1, .null, .int x3, .null] [] (lay t ex2 o m) k2 cs ss) : ∀ (n : Nat) (x1 : Int64) (x3 : Int32) (m : Mem),  w_M_digest_222 n x1 x3 m E253 K → AW Z mX5_digest d k0 mc ms Q 222 [.ref 47, .long x1, .null, .int x3, .null] [] (lay t ex2 o m) k2 cs ss := by
  intro n
  induction n with
  | zero =>
    intros; rename_i hw; exact absurd hw (by simp [w_M_digest_222])
  | succ n ih =>
    intro x1 x3 m hw
    unfold w_M_digest_222 at hw
    refine AW.iload_n (pc := 222) dX5_digest_222 rfl rfl ?_
    refine AW.aload_n (pc := 223) dX5_digest_223 rfl rfl ?_
    refine LW.get (pc := 224) (f := 1) (ci := 5) (T := TX5) ht (by decide) rfl dX5_digest_224 tw_799 rfl (by decide) rfl ?_
    refine AW.icmp_ge (pc := 227) (tgt := 253) dX5_digest_227 (by decide) (fun c48 => ?_) (fun c48 => ?_)
    · have hw := hw.1 c48
      exact hE253 x1 x3 m hw
    · have hw := hw.2 c48
      refine AW.lload_n (pc := 230) dX5_digest_230 rfl rfl ?_
      refine AW.ldc2 (pc := 231) dX5_digest_231 tw_1125 ?_
      refine AW.lmul (pc := 234) dX5_digest_234 ?_
      refine AW.aload_n (pc := 235) dX5_digest_235 rfl rfl ?_
      refine LW.get (pc := 236) (f := 10) (ci := 5) (T := TX5) ht (by decide) rfl dX5_digest_236 tw_808 rfl (by decide) rfl ?_
      refine AW.bipush (v := 102) (pc := 239) dX5_digest_239 (by decide) ?_
      refine AW.iload_n (pc := 241) dX5_digest_241 rfl rfl ?_
      refine AW.iadd (pc := 242) dX5_digest_242 ?_
      obtain ⟨hin, hw⟩ := hw
      refine LW.ialdt (pc := 243) (j := ((102 : Int32) + x3).toNatClampNeg) ht dX5_digest_243 hin rfl ?_
      refine AW.i2l (pc := 244) dX5_digest_244 ?_
      refine AW.ladd (pc := 245) dX5_digest_245 ?_
      refine AW.lstore_n (L' := [.ref 47, .long ((x1 * (31 : Int64)) + (m 60 ((102 : Int32) + x3).toNatClampNeg).toInt64), .null, .int x3, .null]) (pc := 246) dX5_digest_246 rfl (by decide) rfl rfl ?_
      refine AW.iinc (v := (x3 + 1)) (L' := [.ref 47, .long ((x1 * (31 : Int64)) + (m 60 ((102 : Int32) + x3).toNatClampNeg).toInt64), .null, .int (x3 + 1), .null]) (pc := 247) dX5_digest_247 rfl rfl (by decide) rfl rfl ?_
      refine AW.goto (pc := 250) (tgt := 222) dX5_digest_250 (by decide) ?_
      exact ih ((x1 * (31 : Int64)) + (m 60 ((102 : Int32) + x3).toNatClampNeg).toInt64) (x3 + 1) m hw
set_option maxRecDepth 100000 in
set_option maxHeartbeats 4000000 in
theorem l_M_digest_269 {Z : Gz} {d k0 mc ms cs ss k t : Nat} {Q : Po} {ex : Hp} {o : Nat → Int64} {K : Int64 → Mem → Prop}  (ht : tok t) (hd : 37 ≤ d) (hcs : cs ≤ mc) (hss : ss ≤ ms) (hQ : ∀ {k2 : Nat} {ex2 : Hp}, exle k ex k2 ex2 → ∀ (r : Int64) (m : Mem), K r m → Q (.inl (some (.long r))) (lay t ex2 o m) k2) (hk : kok t k) {k2 : Nat} {ex2 : Hp} (hx2 : exle k ex k2 ex2) {E305 : Int64 → Int32 → Mem → Prop} (hE305 : ∀ (x1 : Int64) (x3 : Int32) (m : Mem), E305 x1 x3 m → AW Z mX5_digest d k0 mc ms Q 305 [.ref 47, .long x1, .null, .int x3, .null] [] (lay t ex2 o m) k2 cs ss) : ∀ (n : Nat) (x1 : Int64) (x3 : Int32) (m : Mem),  w_M_digest_269 n x1 x3 m E305 K → AW Z mX5_digest d k0 mc ms Q 269 [.ref 47, .long x1, .null, .int x3, .null] [] (lay t ex2 o m) k2 cs ss := by
  intro n
  induction n with
  | zero =>
    intros; rename_i hw; exact absurd hw (by simp [w_M_digest_269])
  | succ n ih =>
    intro x1 x3 m hw
    unfold w_M_digest_269 at hw
    refine AW.iload_n (pc := 269) dX5_digest_269 rfl rfl ?_
    refine AW.iconst (v := 3) (pc := 270) dX5_digest_270 (by decide) ?_
    refine AW.aload_n (pc := 271) dX5_digest_271 rfl rfl ?_
    refine LW.get (pc := 272) (f := 10) (ci := 5) (T := TX5) ht (by decide) rfl dX5_digest_272 tw_808 rfl (by decide) rfl ?_
    refine AW.iconst (v := 5) (pc := 275) dX5_digest_275 (by decide) ?_
    refine LW.ialdt (pc := 276) (j := 5) ht dX5_digest_276 (vp_lit (by decide)) (by decide) ?_
    refine AW.imul (pc := 277) dX5_digest_277 ?_
    refine AW.icmp_ge (pc := 278) (tgt := 305) dX5_digest_278 (by decide) (fun c52 => ?_) (fun c52 => ?_)
    · have hw := hw.1 c52
      exact hE305 x1 x3 m hw
    · have hw := hw.2 c52
      refine AW.lload_n (pc := 281) dX5_digest_281 rfl rfl ?_
      refine AW.ldc2 (pc := 282) dX5_digest_282 tw_1125 ?_
      refine AW.lmul (pc := 285) dX5_digest_285 ?_
      refine AW.aload_n (pc := 286) dX5_digest_286 rfl rfl ?_
      refine LW.get (pc := 287) (f := 10) (ci := 5) (T := TX5) ht (by decide) rfl dX5_digest_287 tw_808 rfl (by decide) rfl ?_
      refine AW.sipush (v := 222) (pc := 290) dX5_digest_290 (by decide) ?_
      refine AW.iload_n (pc := 293) dX5_digest_293 rfl rfl ?_
      refine AW.iadd (pc := 294) dX5_digest_294 ?_
      obtain ⟨hin, hw⟩ := hw
      refine LW.ialdt (pc := 295) (j := ((222 : Int32) + x3).toNatClampNeg) ht dX5_digest_295 hin rfl ?_
      refine AW.i2l (pc := 296) dX5_digest_296 ?_
      refine AW.ladd (pc := 297) dX5_digest_297 ?_
      refine AW.lstore_n (L' := [.ref 47, .long ((x1 * (31 : Int64)) + (m 60 ((222 : Int32) + x3).toNatClampNeg).toInt64), .null, .int x3, .null]) (pc := 298) dX5_digest_298 rfl (by decide) rfl rfl ?_
      refine AW.iinc (v := (x3 + 1)) (L' := [.ref 47, .long ((x1 * (31 : Int64)) + (m 60 ((222 : Int32) + x3).toNatClampNeg).toInt64), .null, .int (x3 + 1), .null]) (pc := 299) dX5_digest_299 rfl rfl (by decide) rfl rfl ?_
      refine AW.goto (pc := 302) (tgt := 269) dX5_digest_302 (by decide) ?_
      exact ih ((x1 * (31 : Int64)) + (m 60 ((222 : Int32) + x3).toNatClampNeg).toInt64) (x3 + 1) m hw
set_option maxRecDepth 100000 in
set_option maxHeartbeats 4000000 in
theorem b_M_digest {Z : Gz} {d k0 mc ms cs ss k t : Nat} {Q : Po} {ex : Hp} {o : Nat → Int64} {K : Int64 → Mem → Prop}  (ht : tok t) (hd : 37 ≤ d) (hcs : cs + 224 ≤ mc) (hss : ss + 5694 ≤ ms) (hQ : ∀ {k2 : Nat} {ex2 : Hp}, exle k ex k2 ex2 → ∀ (r : Int64) (m : Mem), K r m → Q (.inl (some (.long r))) (lay t ex2 o m) k2) (hk : kok t k) {m : Mem}  (hw : w_M_digest  m K) : AW Z mX5_digest d k0 mc ms Q 0 [.ref 47, .null, .null, .null, .null] [] (lay t ex o m) k cs ss := by
  unfold w_M_digest at hw
  refine AW.aload_n (pc := 0) dX5_digest_0 rfl rfl ?_
  refine AW.iconst (v := 0) (pc := 1) dX5_digest_1 (by decide) ?_
  have hw := hw _ rfl
  refine LW.put (pc := 2) (f := 0) (ci := 5) (T := TX5) ht (by decide) rfl sp_47_0 dX5_digest_2 tw_798 rfl (by decide) (Nat.le_of_ble_eq_true rfl) rfl ⟨rfl, rfl⟩ ?_
  generalize up2 m 47 0 (0 : Int32) = m1 at hw ⊢
  refine AW.aload_n (pc := 5) dX5_digest_5 rfl rfl ?_
  refine AW.callV (pc := 6) (S' := []) dX5_digest_6 (c_M_noteFlaws (d := d - 1) ht (by omega) hk hw) ok_X5_noteFlaws tw_906 ts_36 tw_904 (fix_pos (by decide)) (lay_at ht (by decide)) (show aw_cl[5]? = some _ from rfl) rfl rfl (by omega) rfl (Nat.le_of_ble_eq_true rfl) (by omega) (by omega) ?_ (fun E h' k' hq => by obtain ⟨ex4, m2, hx5, hv, -⟩ := hq; cases hv)
  intro v h' k3 hq
  obtain ⟨ex4, m2, hx5, hv, rfl, hw⟩ := hq
  cases hv
  show AW _ _ _ _ _ _ _ 9 [.ref 47, .null, .null, .null, .null] [] (lay t ex4 o m2) k3 _ _
  refine AW.ldc2 (pc := 9) dX5_digest_9 tw_1124 ?_
  refine AW.aload_n (pc := 12) dX5_digest_12 rfl rfl ?_
  refine LW.get (pc := 13) (f := 1) (ci := 5) (T := TX5) ht (by decide) rfl dX5_digest_13 tw_799 rfl (by decide) rfl ?_
  refine AW.i2l (pc := 16) dX5_digest_16 ?_
  refine AW.ladd (pc := 17) dX5_digest_17 ?_
  refine AW.ldc2 (pc := 18) dX5_digest_18 tw_1125 ?_
  refine AW.lmul (pc := 21) dX5_digest_21 ?_
  refine AW.aload_n (pc := 22) dX5_digest_22 rfl rfl ?_
  refine LW.get (pc := 23) (f := 12) (ci := 5) (T := TX5) ht (by decide) rfl dX5_digest_23 tw_810 rfl (by decide) rfl ?_
  refine AW.i2l (pc := 26) dX5_digest_26 ?_
  refine AW.ladd (pc := 27) dX5_digest_27 ?_
  refine AW.ldc2 (pc := 28) dX5_digest_28 tw_1125 ?_
  refine AW.lmul (pc := 31) dX5_digest_31 ?_
  refine AW.aload_n (pc := 32) dX5_digest_32 rfl rfl ?_
  refine AW.callV (pc := 33) (S' := [.long (((((1800170 : Int64) + (m2 47 1).toInt64) * (31 : Int64)) + (m2 47 12).toInt64) * (31 : Int64))]) dX5_digest_33 (c_M_longestNow (d := d - 1) ht (by omega) (hk.le hx5) hw) ok_X5_longestNow tw_966 ts_47 tw_964 (fix_pos (by decide)) (lay_at ht (by decide)) (show aw_cl[5]? = some _ from rfl) rfl rfl (by omega) rfl (Nat.le_of_ble_eq_true rfl) (by omega) (by omega) ?_ (fun E h' k' hq => by obtain ⟨ex9, r7, m6, hx10, hv, -⟩ := hq; cases hv)
  intro v h' k8 hq
  obtain ⟨ex9, r7, m6, hx10, hv, rfl, hw⟩ := hq
  cases hv
  show AW _ _ _ _ _ _ _ 36 [.ref 47, .null, .null, .null, .null] [.int r7, .long (((((1800170 : Int64) + (m2 47 1).toInt64) * (31 : Int64)) + (m2 47 12).toInt64) * (31 : Int64))] (lay t ex9 o m6) k8 _ _
  refine AW.i2l (pc := 36) dX5_digest_36 ?_
  refine AW.ladd (pc := 37) dX5_digest_37 ?_
  refine AW.ldc2 (pc := 38) dX5_digest_38 tw_1125 ?_
  refine AW.lmul (pc := 41) dX5_digest_41 ?_
  refine AW.aload_n (pc := 42) dX5_digest_42 rfl rfl ?_
  refine LW.get (pc := 43) (f := 11) (ci := 5) (T := TX5) ht (by decide) rfl dX5_digest_43 tw_809 rfl (by decide) rfl ?_
  have hw := hw (fun v11 m12 => AW Z mX5_digest d k0 mc ms Q 54 [.ref 47, .null, .null, .null, .null] [.int v11, .long (((((((1800170 : Int64) + (m2 47 1).toInt64) * (31 : Int64)) + (m2 47 12).toInt64) * (31 : Int64)) + r7.toInt64) * (31 : Int64))] (lay t ex9 o m12) k8 (cs + 55) (ss + 1320)) (by
      intro v11 m12 hw
      refine AW.i2l (pc := 54) dX5_digest_54 ?_
      refine AW.ladd (pc := 55) dX5_digest_55 ?_
      refine AW.lstore_n (L' := [.ref 47, .long ((((((((1800170 : Int64) + (m2 47 1).toInt64) * (31 : Int64)) + (m2 47 12).toInt64) * (31 : Int64)) + r7.toInt64) * (31 : Int64)) + v11.toInt64), .null, .null, .null]) (pc := 56) dX5_digest_56 rfl (by decide) rfl rfl ?_
      refine AW.iconst (v := 0) (pc := 57) dX5_digest_57 (by decide) ?_
      refine AW.istore_n (L' := [.ref 47, .long ((((((((1800170 : Int64) + (m2 47 1).toInt64) * (31 : Int64)) + (m2 47 12).toInt64) * (31 : Int64)) + r7.toInt64) * (31 : Int64)) + v11.toInt64), .null, .int (0 : Int32), .null]) (pc := 58) dX5_digest_58 rfl (by decide) rfl rfl ?_
      refine l_M_digest_59 ht hd (by omega) (by omega) hQ hk (hx5.trans hx10) ?_ 7 ((((((((1800170 : Int64) + (m2 47 1).toInt64) * (31 : Int64)) + (m2 47 12).toInt64) * (31 : Int64)) + r7.toInt64) * (31 : Int64)) + v11.toInt64) (0 : Int32) m12 hw
      intro y18 y19 m20 hw
      refine AW.iconst (v := 0) (pc := 84) dX5_digest_84 (by decide) ?_
      refine AW.istore_n (L' := [.ref 47, .long y18, .null, .int (0 : Int32), .null]) (pc := 85) dX5_digest_85 rfl (by decide) rfl rfl ?_
      refine l_M_digest_86 ht hd (by omega) (by omega) hQ hk (hx5.trans hx10) ?_ 109 y18 (0 : Int32) m20 hw
      intro y22 y23 m24 hw
      refine AW.iconst (v := 0) (pc := 116) dX5_digest_116 (by decide) ?_
      refine AW.istore_n (L' := [.ref 47, .long y22, .null, .int (0 : Int32), .null]) (pc := 117) dX5_digest_117 rfl (by decide) rfl rfl ?_
      refine l_M_digest_118 (cB := cs + 223) (sB := ss + 5352) ht hd hQ hk (by omega) (by omega) ?_ 7 y22 (0 : Int32) m24 _ _ (hx5.trans hx10) _ _ (by omega) (by omega) hw
      intro y31 y32 m33 k34 ex35 hx36 hw
      refine AW.iconst (v := 0) (pc := 143) dX5_digest_143 (by decide) ?_
      refine AW.istore_n (L' := [.ref 47, .long y31, .null, .int (0 : Int32), .null]) (pc := 144) dX5_digest_144 rfl (by decide) rfl rfl ?_
      refine l_M_digest_145 ht hd (by omega) (by omega) hQ hk hx36 ?_ 25 y31 (0 : Int32) m33 hw
      intro y45 y46 m47 hw
      refine AW.iconst (v := 0) (pc := 220) dX5_digest_220 (by decide) ?_
      refine AW.istore_n (L' := [.ref 47, .long y45, .null, .int (0 : Int32), .null]) (pc := 221) dX5_digest_221 rfl (by decide) rfl rfl ?_
      refine l_M_digest_222 ht hd (by omega) (by omega) hQ hk hx36 ?_ 31 y45 (0 : Int32) m47 hw
      intro y49 y50 m51 hw
      refine AW.lload_n (pc := 253) dX5_digest_253 rfl rfl ?_
      refine AW.ldc2 (pc := 254) dX5_digest_254 tw_1125 ?_
      refine AW.lmul (pc := 257) dX5_digest_257 ?_
      refine AW.aload_n (pc := 258) dX5_digest_258 rfl rfl ?_
      refine LW.get (pc := 259) (f := 10) (ci := 5) (T := TX5) ht (by decide) rfl dX5_digest_259 tw_808 rfl (by decide) rfl ?_
      refine AW.iconst (v := 5) (pc := 262) dX5_digest_262 (by decide) ?_
      refine LW.ialdt (pc := 263) (j := 5) ht dX5_digest_263 (vp_lit (by decide)) (by decide) ?_
      refine AW.i2l (pc := 264) dX5_digest_264 ?_
      refine AW.ladd (pc := 265) dX5_digest_265 ?_
      refine AW.lstore_n (L' := [.ref 47, .long ((y49 * (31 : Int64)) + (m51 60 5).toInt64), .null, .int y50, .null]) (pc := 266) dX5_digest_266 rfl (by decide) rfl rfl ?_
      refine AW.iconst (v := 0) (pc := 267) dX5_digest_267 (by decide) ?_
      refine AW.istore_n (L' := [.ref 47, .long ((y49 * (31 : Int64)) + (m51 60 5).toInt64), .null, .int (0 : Int32), .null]) (pc := 268) dX5_digest_268 rfl (by decide) rfl rfl ?_
      refine l_M_digest_269 ht hd (by omega) (by omega) hQ hk hx36 ?_ 121 ((y49 * (31 : Int64)) + (m51 60 5).toInt64) (0 : Int32) m51 hw
      intro y53 y54 m55 hw
      refine AW.aload_n (pc := 305) dX5_digest_305 rfl rfl ?_
      refine LW.get (pc := 306) (f := 11) (ci := 5) (T := TX5) ht (by decide) rfl dX5_digest_306 tw_809 rfl (by decide) rfl ?_
      refine AW.if_eq (pc := 309) (tgt := 326) dX5_digest_309 (by decide) (fun c56 => ?_) (fun c56 => ?_)
      · have hw := hw.1 c56
        refine AW.lload_n (pc := 326) dX5_digest_326 rfl rfl ?_
        exact AW.lret (pc := 327) dX5_digest_327 rfl (by omega) (by omega) (hQ hx36 _ _ hw)
      · have hw := hw.2 c56
        refine AW.lload_n (pc := 312) dX5_digest_312 rfl rfl ?_
        refine AW.ldc2 (pc := 313) dX5_digest_313 tw_1125 ?_
        refine AW.lmul (pc := 316) dX5_digest_316 ?_
        refine AW.aload_n (pc := 317) dX5_digest_317 rfl rfl ?_
        refine AW.callV (pc := 318) (S' := [.long (y53 * (31 : Int64))]) dX5_digest_318 (c_M_settlesNow (d := d - 1) ht (by omega) (hk.le hx36) hw) ok_X5_settlesNow tw_1110 ts_66 tw_1108 (fix_pos (by decide)) (lay_at ht (by decide)) (show aw_cl[5]? = some _ from rfl) rfl rfl (by omega) rfl (Nat.le_of_ble_eq_true rfl) (by omega) (by omega) ?_ (fun E h' k' hq => by obtain ⟨ex60, r58, m57, hx61, hv, -⟩ := hq; cases hv)
        intro v h' k59 hq
        obtain ⟨ex60, r58, m57, hx61, hv, rfl, hw⟩ := hq
        cases hv
        show AW _ _ _ _ _ _ _ 321 [.ref 47, .long y53, .null, .int y54, .null] [.int r58, .long (y53 * (31 : Int64))] (lay t ex60 o m57) k59 _ _
        refine AW.i2l (pc := 321) dX5_digest_321 ?_
        refine AW.ladd (pc := 322) dX5_digest_322 ?_
        refine AW.goto (pc := 323) (tgt := 327) dX5_digest_323 (by decide) ?_
        exact AW.lret (pc := 327) dX5_digest_327 rfl (by omega) (by omega) (hQ (hx36.trans hx61) _ _ hw))
  refine AW.if_eq (pc := 46) (tgt := 53) dX5_digest_46 (by decide) (fun c14 => ?_) (fun c14 => ?_)
  · have hw := hw.1 c14
    refine AW.iconst (v := 0) (pc := 53) dX5_digest_53 (by decide) ?_
    refine AW.widen (cs' := cs + 55) (ss' := ss + 1320) (by omega) (by omega) ?_
    exact hw
  · have hw := hw.2 c14
    refine AW.iconst (v := 1) (pc := 49) dX5_digest_49 (by decide) ?_
    refine AW.goto (pc := 50) (tgt := 54) dX5_digest_50 (by decide) ?_
    refine AW.widen (cs' := cs + 55) (ss' := ss + 1320) (by omega) (by omega) ?_
    exact hw
set_option maxRecDepth 100000 in
set_option maxHeartbeats 4000000 in
theorem c_M_digest {d k t : Nat} {ex : Hp} {o : Nat → Int64} {K : Int64 → Mem → Prop} {m : Mem}  (ht : tok t) (hd : 37 ≤ d) (hk : kok t k) (hw : w_M_digest  m K) : AM mX5_digest d [.ref 47] (lay t ex o m) k 224 5694 (fun oc h' k' => ∃ (ex' : Hp) (r : Int64) (m' : Mem), exle k ex k' ex' ∧ oc = .inl (some (.long r)) ∧ h' = lay t ex' o m' ∧ K r m') :=
  AM.intro (μ := mX5_digest) (n := 4) (by decide) rfl rfl rfl (b_M_digest ht hd (by omega) (by omega) (fun hx _ _ hK => ⟨_, _, _, hx, rfl, rfl, hK⟩) hk  hw)
def w_M_flaws (m : Mem) (K : Int32 → Mem → Prop) : Prop :=
  ∀ m1 : Mem, m1 = up2 m 47 0 (0 : Int32) → w_M_noteFlaws  m1 (fun m2 => K (m2 47 12) m2)
set_option maxRecDepth 100000 in
set_option maxHeartbeats 4000000 in
theorem b_M_flaws {Z : Gz} {d k0 mc ms cs ss k t : Nat} {Q : Po} {ex : Hp} {o : Nat → Int64} {K : Int32 → Mem → Prop}  (ht : tok t) (hd : 6 ≤ d) (hcs : cs + 31 ≤ mc) (hss : ss + 744 ≤ ms) (hQ : ∀ {k2 : Nat} {ex2 : Hp}, exle k ex k2 ex2 → ∀ (r : Int32) (m : Mem), K r m → Q (.inl (some (.int r))) (lay t ex2 o m) k2) (hk : kok t k) {m : Mem}  (hw : w_M_flaws  m K) : AW Z mX5_flaws d k0 mc ms Q 0 [.ref 47] [] (lay t ex o m) k cs ss := by
  unfold w_M_flaws at hw
  refine AW.aload_n (pc := 0) dX5_flaws_0 rfl rfl ?_
  refine AW.iconst (v := 0) (pc := 1) dX5_flaws_1 (by decide) ?_
  have hw := hw _ rfl
  refine LW.put (pc := 2) (f := 0) (ci := 5) (T := TX5) ht (by decide) rfl sp_47_0 dX5_flaws_2 tw_798 rfl (by decide) (Nat.le_of_ble_eq_true rfl) rfl ⟨rfl, rfl⟩ ?_
  generalize up2 m 47 0 (0 : Int32) = m1 at hw ⊢
  refine AW.aload_n (pc := 5) dX5_flaws_5 rfl rfl ?_
  refine AW.callV (pc := 6) (S' := []) dX5_flaws_6 (c_M_noteFlaws (d := d - 1) ht (by omega) hk hw) ok_X5_noteFlaws tw_906 ts_36 tw_904 (fix_pos (by decide)) (lay_at ht (by decide)) (show aw_cl[5]? = some _ from rfl) rfl rfl (by omega) rfl (Nat.le_of_ble_eq_true rfl) (by omega) (by omega) ?_ (fun E h' k' hq => by obtain ⟨ex4, m2, hx5, hv, -⟩ := hq; cases hv)
  intro v h' k3 hq
  obtain ⟨ex4, m2, hx5, hv, rfl, hw⟩ := hq
  cases hv
  show AW _ _ _ _ _ _ _ 9 [.ref 47] [] (lay t ex4 o m2) k3 _ _
  refine AW.aload_n (pc := 9) dX5_flaws_9 rfl rfl ?_
  refine LW.get (pc := 10) (f := 12) (ci := 5) (T := TX5) ht (by decide) rfl dX5_flaws_10 tw_810 rfl (by decide) rfl ?_
  exact AW.iret (pc := 13) dX5_flaws_13 rfl rfl (by omega) (by omega) (hQ hx5 _ _ hw)
set_option maxRecDepth 100000 in
set_option maxHeartbeats 4000000 in
theorem c_M_flaws {d k t : Nat} {ex : Hp} {o : Nat → Int64} {K : Int32 → Mem → Prop} {m : Mem}  (ht : tok t) (hd : 6 ≤ d) (hk : kok t k) (hw : w_M_flaws  m K) : AM mX5_flaws d [.ref 47] (lay t ex o m) k 31 744 (fun oc h' k' => ∃ (ex' : Hp) (r : Int32) (m' : Mem), exle k ex k' ex' ∧ oc = .inl (some (.int r)) ∧ h' = lay t ex' o m' ∧ K r m') :=
  AM.intro (μ := mX5_flaws) (n := 0) (by decide) rfl rfl rfl (b_M_flaws ht hd (by omega) (by omega) (fun hx _ _ hK => ⟨_, _, _, hx, rfl, rfl, hK⟩) hk  hw)
def w_M_longest (m : Mem) (K : Int32 → Mem → Prop) : Prop :=
  w_M_longestNow  m (fun r2 m1 => w_M_ok r2 m1 (fun r7 m6 => K r7 m6))
set_option maxRecDepth 100000 in
set_option maxHeartbeats 4000000 in
theorem b_M_longest {Z : Gz} {d k0 mc ms cs ss k t : Nat} {Q : Po} {ex : Hp} {o : Nat → Int64} {K : Int32 → Mem → Prop}  (ht : tok t) (hd : 37 ≤ d) (hcs : cs + 24 ≤ mc) (hss : ss + 576 ≤ ms) (hQ : ∀ {k2 : Nat} {ex2 : Hp}, exle k ex k2 ex2 → ∀ (r : Int32) (m : Mem), K r m → Q (.inl (some (.int r))) (lay t ex2 o m) k2) (hk : kok t k) {m : Mem}  (hw : w_M_longest  m K) : AW Z mX5_longest d k0 mc ms Q 0 [.ref 47] [] (lay t ex o m) k cs ss := by
  unfold w_M_longest at hw
  refine AW.aload_n (pc := 0) dX5_longest_0 rfl rfl ?_
  refine AW.aload_n (pc := 1) dX5_longest_1 rfl rfl ?_
  refine AW.callV (pc := 2) (S' := [.ref 47]) dX5_longest_2 (c_M_longestNow (d := d - 1) ht (by omega) hk hw) ok_X5_longestNow tw_966 ts_47 tw_964 (fix_pos (by decide)) (lay_at ht (by decide)) (show aw_cl[5]? = some _ from rfl) rfl rfl (by omega) rfl (Nat.le_of_ble_eq_true rfl) (by omega) (by omega) ?_ (fun E h' k' hq => by obtain ⟨ex4, r2, m1, hx5, hv, -⟩ := hq; cases hv)
  intro v h' k3 hq
  obtain ⟨ex4, r2, m1, hx5, hv, rfl, hw⟩ := hq
  cases hv
  show AW _ _ _ _ _ _ _ 5 [.ref 47] [.int r2, .ref 47] (lay t ex4 o m1) k3 _ _
  refine AW.callV (pc := 5) (S' := []) dX5_longest_5 (c_M_ok (d := d - 1) ht (by omega) hw) ok_X5_ok tw_898 ts_35 tw_896 (fix_pos (by decide)) (lay_at ht (by decide)) (show aw_cl[5]? = some _ from rfl) rfl rfl (by omega) rfl (Nat.le_of_ble_eq_true rfl) (by omega) (by omega) ?_ (fun E h' k' hq => by obtain ⟨rfl, r7, m6, hv, -⟩ := hq; cases hv)
  intro v h' k' hq
  obtain ⟨rfl, r7, m6, hv, rfl, hw⟩ := hq
  cases hv
  show AW _ _ _ _ _ _ _ 8 [.ref 47] [.int r7] (lay t ex4 o m6) k3 _ _
  exact AW.iret (pc := 8) dX5_longest_8 rfl rfl (by omega) (by omega) (hQ hx5 _ _ hw)
set_option maxRecDepth 100000 in
set_option maxHeartbeats 4000000 in
theorem c_M_longest {d k t : Nat} {ex : Hp} {o : Nat → Int64} {K : Int32 → Mem → Prop} {m : Mem}  (ht : tok t) (hd : 37 ≤ d) (hk : kok t k) (hw : w_M_longest  m K) : AM mX5_longest d [.ref 47] (lay t ex o m) k 24 576 (fun oc h' k' => ∃ (ex' : Hp) (r : Int32) (m' : Mem), exle k ex k' ex' ∧ oc = .inl (some (.int r)) ∧ h' = lay t ex' o m' ∧ K r m') :=
  AM.intro (μ := mX5_longest) (n := 0) (by decide) rfl rfl rfl (b_M_longest ht hd (by omega) (by omega) (fun hx _ _ hK => ⟨_, _, _, hx, rfl, rfl, hK⟩) hk  hw)
def w_M_longestWith (p1 : Int32) (p2 : Int32) (m : Mem) (K : Int32 → Mem → Prop) : Prop :=
  ∀ m1 : Mem, m1 = up2 m 47 0 (0 : Int32) → w_M_isLine p1 m1 (fun r3 m2 => ((¬ (r3 = 0) → vp_in p1 30 ∧ (((m2 48 (p1).toNatClampNeg) = (-1 : Int32) → w_M_no (2 : Int32) m2 (fun r7 m6 => K r7 m6)) ∧ (¬ ((m2 48 (p1).toNatClampNeg) = (-1 : Int32)) → w_M_isIn p2 (0 : Int32) (20 : Int32) m2 (fun r9 m8 => ((¬ (r9 = 0) → vp_in p1 30 ∧ vp_in p1 30 ∧ ∀ m11 : Mem, m11 = up2 m8 53 (p1.toNatClampNeg) p2 → w_M_longestNow  m11 (fun r13 m12 => vp_in p1 30 ∧ ∀ m17 : Mem, m17 = up2 m12 53 (p1.toNatClampNeg) (m8 53 (p1).toNatClampNeg) → K r13 m17)) ∧ (r9 = 0 → w_M_no (2 : Int32) m8 (fun r19 m18 => K r19 m18))))))) ∧ (r3 = 0 → w_M_no (1 : Int32) m2 (fun r21 m20 => K r21 m20))))
set_option maxRecDepth 100000 in
set_option maxHeartbeats 4000000 in
theorem b_M_longestWith {Z : Gz} {d k0 mc ms cs ss k t : Nat} {Q : Po} {ex : Hp} {o : Nat → Int64} {K : Int32 → Mem → Prop}  (ht : tok t) (hd : 37 ≤ d) (hcs : cs + 24 ≤ mc) (hss : ss + 576 ≤ ms) (hQ : ∀ {k2 : Nat} {ex2 : Hp}, exle k ex k2 ex2 → ∀ (r : Int32) (m : Mem), K r m → Q (.inl (some (.int r))) (lay t ex2 o m) k2) (hk : kok t k) {m : Mem} (p1 : Int32) (p2 : Int32) (hw : w_M_longestWith p1 p2 m K) : AW Z mX5_longestWith d k0 mc ms Q 0 [.ref 47, .int p1, .int p2, .null, .null] [] (lay t ex o m) k cs ss := by
  unfold w_M_longestWith at hw
  refine AW.aload_n (pc := 0) dX5_longestWith_0 rfl rfl ?_
  refine AW.iconst (v := 0) (pc := 1) dX5_longestWith_1 (by decide) ?_
  have hw := hw _ rfl
  refine LW.put (pc := 2) (f := 0) (ci := 5) (T := TX5) ht (by decide) rfl sp_47_0 dX5_longestWith_2 tw_798 rfl (by decide) (Nat.le_of_ble_eq_true rfl) rfl ⟨rfl, rfl⟩ ?_
  generalize up2 m 47 0 (0 : Int32) = m1 at hw ⊢
  refine AW.aload_n (pc := 5) dX5_longestWith_5 rfl rfl ?_
  refine AW.iload_n (pc := 6) dX5_longestWith_6 rfl rfl ?_
  refine AW.callV (pc := 7) (S' := []) dX5_longestWith_7 (c_M_isLine (d := d - 1) ht (by omega) hw) ok_X5_isLine tw_886 ts_34 tw_884 (fix_pos (by decide)) (lay_at ht (by decide)) (show aw_cl[5]? = some _ from rfl) rfl rfl (by omega) rfl (Nat.le_of_ble_eq_true rfl) (by omega) (by omega) ?_ (fun E h' k' hq => by obtain ⟨rfl, r3, m2, hv, -⟩ := hq; cases hv)
  intro v h' k' hq
  obtain ⟨rfl, r3, m2, hv, rfl, hw⟩ := hq
  cases hv
  show AW _ _ _ _ _ _ _ 10 [.ref 47, .int p1, .int p2, .null, .null] [.int r3] (lay t ex o m2) k _ _
  refine AW.if_ne (pc := 10) (tgt := 19) dX5_longestWith_10 (by decide) (fun c4 => ?_) (fun c4 => ?_)
  · have hw := hw.1 c4
    refine AW.aload_n (pc := 19) dX5_longestWith_19 rfl rfl ?_
    refine LW.get (pc := 20) (f := 2) (ci := 5) (T := TX5) ht (by decide) rfl dX5_longestWith_20 tw_800 rfl (by decide) rfl ?_
    refine AW.iload_n (pc := 23) dX5_longestWith_23 rfl rfl ?_
    obtain ⟨hin, hw⟩ := hw
    refine LW.iald (pc := 24) (j := p1.toNatClampNeg) ht (by decide) rfl dX5_longestWith_24 hin rfl ?_
    refine AW.iconst (v := -1) (pc := 25) dX5_longestWith_25 (by decide) ?_
    refine AW.icmp_eq (pc := 26) (tgt := 39) dX5_longestWith_26 (by decide) (fun c5 => ?_) (fun c5 => ?_)
    · have hw := hw.1 c5
      refine AW.aload_n (pc := 39) dX5_longestWith_39 rfl rfl ?_
      refine AW.iconst (v := 2) (pc := 40) dX5_longestWith_40 (by decide) ?_
      refine AW.callV (pc := 41) (S' := []) dX5_longestWith_41 (c_M_no (d := d - 1) ht (by omega) hw) ok_X5_no tw_863 ts_32 tw_861 (fix_pos (by decide)) (lay_at ht (by decide)) (show aw_cl[5]? = some _ from rfl) rfl rfl (by omega) rfl (Nat.le_of_ble_eq_true rfl) (by omega) (by omega) ?_ (fun E h' k' hq => by obtain ⟨rfl, r7, m6, hv, -⟩ := hq; cases hv)
      intro v h' k' hq
      obtain ⟨rfl, r7, m6, hv, rfl, hw⟩ := hq
      cases hv
      show AW _ _ _ _ _ _ _ 44 [.ref 47, .int p1, .int p2, .null, .null] [.int r7] (lay t ex o m6) k _ _
      exact AW.iret (pc := 44) dX5_longestWith_44 rfl rfl (by omega) (by omega) (hQ (exle.refl _ _) _ _ hw)
    · have hw := hw.2 c5
      refine AW.iload_n (pc := 29) dX5_longestWith_29 rfl rfl ?_
      refine AW.iconst (v := 0) (pc := 30) dX5_longestWith_30 (by decide) ?_
      refine AW.bipush (v := 20) (pc := 31) dX5_longestWith_31 (by decide) ?_
      refine AW.callS (pc := 33) (S' := []) dX5_longestWith_33 (c_M_isIn (d := d - 1) ht (by omega) hw) ok_X5_isIn tw_859 tw_858 rfl (by omega) rfl (Nat.le_of_ble_eq_true rfl) (by omega) (by omega) ?_ (fun E h' k' hq => by obtain ⟨rfl, r9, m8, hv, -⟩ := hq; cases hv)
      intro v h' k' hq
      obtain ⟨rfl, r9, m8, hv, rfl, hw⟩ := hq
      cases hv
      show AW _ _ _ _ _ _ _ 36 [.ref 47, .int p1, .int p2, .null, .null] [.int r9] (lay t ex o m8) k _ _
      refine AW.if_ne (pc := 36) (tgt := 45) dX5_longestWith_36 (by decide) (fun c10 => ?_) (fun c10 => ?_)
      · have hw := hw.1 c10
        refine AW.aload_n (pc := 45) dX5_longestWith_45 rfl rfl ?_
        refine LW.get (pc := 46) (f := 7) (ci := 5) (T := TX5) ht (by decide) rfl dX5_longestWith_46 tw_805 rfl (by decide) rfl ?_
        refine AW.iload_n (pc := 49) dX5_longestWith_49 rfl rfl ?_
        obtain ⟨hin, hw⟩ := hw
        refine LW.iald (pc := 50) (j := p1.toNatClampNeg) ht (by decide) rfl dX5_longestWith_50 hin rfl ?_
        refine AW.istore_n (L' := [.ref 47, .int p1, .int p2, .int (m8 53 (p1).toNatClampNeg), .null]) (pc := 51) dX5_longestWith_51 rfl (by decide) rfl rfl ?_
        refine AW.aload_n (pc := 52) dX5_longestWith_52 rfl rfl ?_
        refine LW.get (pc := 53) (f := 7) (ci := 5) (T := TX5) ht (by decide) rfl dX5_longestWith_53 tw_805 rfl (by decide) rfl ?_
        refine AW.iload_n (pc := 56) dX5_longestWith_56 rfl rfl ?_
        refine AW.iload_n (pc := 57) dX5_longestWith_57 rfl rfl ?_
        obtain ⟨hin, hw⟩ := hw
        have hw := hw _ rfl
        refine LW.iast (pc := 58) (j := p1.toNatClampNeg) ht (by decide) (fun _ => rfl) dX5_longestWith_58 hin rfl ?_
        generalize up2 m8 53 (p1.toNatClampNeg) p2 = m11 at hw ⊢
        refine AW.aload_n (pc := 59) dX5_longestWith_59 rfl rfl ?_
        refine AW.callV (pc := 60) (S' := []) dX5_longestWith_60 (c_M_longestNow (d := d - 1) ht (by omega) hk hw) ok_X5_longestNow tw_966 ts_47 tw_964 (fix_pos (by decide)) (lay_at ht (by decide)) (show aw_cl[5]? = some _ from rfl) rfl rfl (by omega) rfl (Nat.le_of_ble_eq_true rfl) (by omega) (by omega) ?_ (fun E h' k' hq => by obtain ⟨ex15, r13, m12, hx16, hv, -⟩ := hq; cases hv)
        intro v h' k14 hq
        obtain ⟨ex15, r13, m12, hx16, hv, rfl, hw⟩ := hq
        cases hv
        show AW _ _ _ _ _ _ _ 63 [.ref 47, .int p1, .int p2, .int (m8 53 (p1).toNatClampNeg), .null] [.int r13] (lay t ex15 o m12) k14 _ _
        refine AW.istore (L' := [.ref 47, .int p1, .int p2, .int (m8 53 (p1).toNatClampNeg), .int r13]) (pc := 63) dX5_longestWith_63 (by decide) rfl rfl ?_
        refine AW.aload_n (pc := 65) dX5_longestWith_65 rfl rfl ?_
        refine LW.get (pc := 66) (f := 7) (ci := 5) (T := TX5) ht (by decide) rfl dX5_longestWith_66 tw_805 rfl (by decide) rfl ?_
        refine AW.iload_n (pc := 69) dX5_longestWith_69 rfl rfl ?_
        refine AW.iload_n (pc := 70) dX5_longestWith_70 rfl rfl ?_
        obtain ⟨hin, hw⟩ := hw
        have hw := hw _ rfl
        refine LW.iast (pc := 71) (j := p1.toNatClampNeg) ht (by decide) (fun _ => rfl) dX5_longestWith_71 hin rfl ?_
        generalize up2 m12 53 (p1.toNatClampNeg) (m8 53 (p1).toNatClampNeg) = m17 at hw ⊢
        refine AW.iload (pc := 72) dX5_longestWith_72 rfl ?_
        exact AW.iret (pc := 74) dX5_longestWith_74 rfl rfl (by omega) (by omega) (hQ hx16 _ _ hw)
      · have hw := hw.2 c10
        refine AW.aload_n (pc := 39) dX5_longestWith_39 rfl rfl ?_
        refine AW.iconst (v := 2) (pc := 40) dX5_longestWith_40 (by decide) ?_
        refine AW.callV (pc := 41) (S' := []) dX5_longestWith_41 (c_M_no (d := d - 1) ht (by omega) hw) ok_X5_no tw_863 ts_32 tw_861 (fix_pos (by decide)) (lay_at ht (by decide)) (show aw_cl[5]? = some _ from rfl) rfl rfl (by omega) rfl (Nat.le_of_ble_eq_true rfl) (by omega) (by omega) ?_ (fun E h' k' hq => by obtain ⟨rfl, r19, m18, hv, -⟩ := hq; cases hv)
        intro v h' k' hq
        obtain ⟨rfl, r19, m18, hv, rfl, hw⟩ := hq
        cases hv
        show AW _ _ _ _ _ _ _ 44 [.ref 47, .int p1, .int p2, .null, .null] [.int r19] (lay t ex o m18) k _ _
        exact AW.iret (pc := 44) dX5_longestWith_44 rfl rfl (by omega) (by omega) (hQ (exle.refl _ _) _ _ hw)
  · have hw := hw.2 c4
    refine AW.aload_n (pc := 13) dX5_longestWith_13 rfl rfl ?_
    refine AW.iconst (v := 1) (pc := 14) dX5_longestWith_14 (by decide) ?_
    refine AW.callV (pc := 15) (S' := []) dX5_longestWith_15 (c_M_no (d := d - 1) ht (by omega) hw) ok_X5_no tw_863 ts_32 tw_861 (fix_pos (by decide)) (lay_at ht (by decide)) (show aw_cl[5]? = some _ from rfl) rfl rfl (by omega) rfl (Nat.le_of_ble_eq_true rfl) (by omega) (by omega) ?_ (fun E h' k' hq => by obtain ⟨rfl, r21, m20, hv, -⟩ := hq; cases hv)
    intro v h' k' hq
    obtain ⟨rfl, r21, m20, hv, rfl, hw⟩ := hq
    cases hv
    show AW _ _ _ _ _ _ _ 18 [.ref 47, .int p1, .int p2, .null, .null] [.int r21] (lay t ex o m20) k _ _
    exact AW.iret (pc := 18) dX5_longestWith_18 rfl rfl (by omega) (by omega) (hQ (exle.refl _ _) _ _ hw)
set_option maxRecDepth 100000 in
set_option maxHeartbeats 4000000 in
theorem c_M_longestWith {d k t : Nat} {ex : Hp} {o : Nat → Int64} {K : Int32 → Mem → Prop} {m : Mem} {p1 : Int32} {p2 : Int32} (ht : tok t) (hd : 37 ≤ d) (hk : kok t k) (hw : w_M_longestWith p1 p2 m K) : AM mX5_longestWith d [.ref 47, .int p1, .int p2] (lay t ex o m) k 24 576 (fun oc h' k' => ∃ (ex' : Hp) (r : Int32) (m' : Mem), exle k ex k' ex' ∧ oc = .inl (some (.int r)) ∧ h' = lay t ex' o m' ∧ K r m') :=
  AM.intro (μ := mX5_longestWith) (n := 2) (by decide) rfl rfl rfl (b_M_longestWith ht hd (by omega) (by omega) (fun hx _ _ hK => ⟨_, _, _, hx, rfl, rfl, hK⟩) hk p1 p2 hw)
def w_M_meanArrival_15 : Nat → Int32 → Int32 → Int32 → Mem → (Int32 → Int32 → Int32 → Mem → Prop) → (UInt64 → Mem → Prop) → Prop
  | 0, _, _, _, _, _, _ => False
  | n + 1, x1, x2, x3, m, E61, K => (((24 : Int32) ≤ x3 → E61 x1 x2 x3 m) ∧ (¬ ((24 : Int32) ≤ x3) → w_M_driver x3 m (fun r8 m7 => ((r8 = (-1 : Int32) → w_M_meanArrival_15 n x1 x2 (x3 + 1) m7 E61 K) ∧ (¬ (r8 = (-1 : Int32)) → vp_in x3 24 ∧ ((¬ ((m7 58 (x3).toNatClampNeg) = (-1 : Int32)) → vp_in x3 24 ∧ w_M_meanArrival_15 n (x1 + (m7 58 (x3).toNatClampNeg)) (x2 + 1) (x3 + 1) m7 E61 K) ∧ ((m7 58 (x3).toNatClampNeg) = (-1 : Int32) → w_M_meanArrival_15 n x1 x2 (x3 + 1) m7 E61 K)))))))
def w_M_meanArrival (m : Mem) (K : UInt64 → Mem → Prop) : Prop :=
  ∀ m1 : Mem, m1 = up2 m 47 0 (0 : Int32) → w_M_tellArrivals  m1 (fun m2 => w_M_meanArrival_15 25 (0 : Int32) (0 : Int32) (0 : Int32) m2 (fun y11 y12 y13 m14 => ((¬ (y12 = 0) → vf_n64 (FP.ddiv (FP.i2d y11) (FP.i2d y12)) ∧ K (FP.ddiv (FP.i2d y11) (FP.i2d y12)) m14) ∧ (y12 = 0 → K FP.dconst0 m14))) K)
set_option maxRecDepth 100000 in
set_option maxHeartbeats 4000000 in
theorem l_M_meanArrival_15 {Z : Gz} {d k0 mc ms cs ss k t : Nat} {Q : Po} {ex : Hp} {o : Nat → Int64} {K : UInt64 → Mem → Prop}  (ht : tok t) (hd : 36 ≤ d) (hcs : cs ≤ mc) (hss : ss ≤ ms) (hQ : ∀ {k2 : Nat} {ex2 : Hp}, exle k ex k2 ex2 → ∀ (r : UInt64) (m : Mem), K r m → Q (.inl (some (.double r))) (lay t ex2 o m) k2) (hk : kok t k) {k2 : Nat} {ex2 : Hp} (hx2 : exle k ex k2 ex2) {E61 : Int32 → Int32 → Int32 → Mem → Prop} (hE61 : ∀ (x1 : Int32) (x2 : Int32) (x3 : Int32) (m : Mem), E61 x1 x2 x3 m → AW Z mX5_meanArrival d k0 mc ms Q 61 [.ref 47, .int x1, .int x2, .int x3] [] (lay t ex2 o m) k2 cs ss) : ∀ (n : Nat) (x1 : Int32) (x2 : Int32) (x3 : Int32) (m : Mem),  w_M_meanArrival_15 n x1 x2 x3 m E61 K → AW Z mX5_meanArrival d k0 mc ms Q 15 [.ref 47, .int x1, .int x2, .int x3] [] (lay t ex2 o m) k2 cs ss := by
  intro n
  induction n with
  | zero =>
    intros; rename_i hw; exact absurd hw (by simp [w_M_meanArrival_15])
  | succ n ih =>
    intro x1 x2 x3 m hw
    unfold w_M_meanArrival_15 at hw
    refine AW.iload_n (pc := 15) dX5_meanArrival_15 rfl rfl ?_
    refine AW.bipush (v := 24) (pc := 16) dX5_meanArrival_16 (by decide) ?_
    refine AW.icmp_ge (pc := 18) (tgt := 61) dX5_meanArrival_18 (by decide) (fun c6 => ?_) (fun c6 => ?_)
    · have hw := hw.1 c6
      exact hE61 x1 x2 x3 m hw
    · have hw := hw.2 c6
      refine AW.aload_n (pc := 21) dX5_meanArrival_21 rfl rfl ?_
      refine AW.iload_n (pc := 22) dX5_meanArrival_22 rfl rfl ?_
      refine AW.callV (pc := 23) (S' := []) dX5_meanArrival_23 (c_M_driver (d := d - 1) ht (by omega) hw) ok_X5_driver tw_950 ts_45 tw_948 (fix_pos (by decide)) (lay_at ht (by decide)) (show aw_cl[5]? = some _ from rfl) rfl rfl (by omega) rfl (Nat.le_of_ble_eq_true rfl) (by omega) (by omega) ?_ (fun E h' k' hq => by obtain ⟨rfl, r8, m7, hv, -⟩ := hq; cases hv)
      intro v h' k' hq
      obtain ⟨rfl, r8, m7, hv, rfl, hw⟩ := hq
      cases hv
      show AW _ _ _ _ _ _ _ 26 [.ref 47, .int x1, .int x2, .int x3] [.int r8] (lay t ex2 o m7) k2 _ _
      refine AW.iconst (v := -1) (pc := 26) dX5_meanArrival_26 (by decide) ?_
      refine AW.icmp_eq (pc := 27) (tgt := 55) dX5_meanArrival_27 (by decide) (fun c9 => ?_) (fun c9 => ?_)
      · have hw := hw.1 c9
        refine AW.iinc (v := (x3 + 1)) (L' := [.ref 47, .int x1, .int x2, .int (x3 + 1)]) (pc := 55) dX5_meanArrival_55 rfl rfl (by decide) rfl rfl ?_
        refine AW.goto (pc := 58) (tgt := 15) dX5_meanArrival_58 (by decide) ?_
        exact ih x1 x2 (x3 + 1) m7 hw
      · have hw := hw.2 c9
        refine AW.aload_n (pc := 30) dX5_meanArrival_30 rfl rfl ?_
        refine LW.get (pc := 31) (f := 14) (ci := 5) (T := TX5) ht (by decide) rfl dX5_meanArrival_31 tw_812 rfl (by decide) rfl ?_
        refine AW.iload_n (pc := 34) dX5_meanArrival_34 rfl rfl ?_
        obtain ⟨hin, hw⟩ := hw
        refine LW.iald (pc := 35) (j := x3.toNatClampNeg) ht (by decide) rfl dX5_meanArrival_35 hin rfl ?_
        refine AW.iconst (v := -1) (pc := 36) dX5_meanArrival_36 (by decide) ?_
        refine AW.icmp_ne (pc := 37) (tgt := 43) dX5_meanArrival_37 (by decide) (fun c10 => ?_) (fun c10 => ?_)
        · have hw := hw.1 c10
          refine AW.iload_n (pc := 43) dX5_meanArrival_43 rfl rfl ?_
          refine AW.aload_n (pc := 44) dX5_meanArrival_44 rfl rfl ?_
          refine LW.get (pc := 45) (f := 14) (ci := 5) (T := TX5) ht (by decide) rfl dX5_meanArrival_45 tw_812 rfl (by decide) rfl ?_
          refine AW.iload_n (pc := 48) dX5_meanArrival_48 rfl rfl ?_
          obtain ⟨hin, hw⟩ := hw
          refine LW.iald (pc := 49) (j := x3.toNatClampNeg) ht (by decide) rfl dX5_meanArrival_49 hin rfl ?_
          refine AW.iadd (pc := 50) dX5_meanArrival_50 ?_
          refine AW.istore_n (L' := [.ref 47, .int (x1 + (m7 58 (x3).toNatClampNeg)), .int x2, .int x3]) (pc := 51) dX5_meanArrival_51 rfl (by decide) rfl rfl ?_
          refine AW.iinc (v := (x2 + 1)) (L' := [.ref 47, .int (x1 + (m7 58 (x3).toNatClampNeg)), .int (x2 + 1), .int x3]) (pc := 52) dX5_meanArrival_52 rfl rfl (by decide) rfl rfl ?_
          refine AW.iinc (v := (x3 + 1)) (L' := [.ref 47, .int (x1 + (m7 58 (x3).toNatClampNeg)), .int (x2 + 1), .int (x3 + 1)]) (pc := 55) dX5_meanArrival_55 rfl rfl (by decide) rfl rfl ?_
          refine AW.goto (pc := 58) (tgt := 15) dX5_meanArrival_58 (by decide) ?_
          exact ih (x1 + (m7 58 (x3).toNatClampNeg)) (x2 + 1) (x3 + 1) m7 hw
        · have hw := hw.2 c10
          refine AW.goto (pc := 40) (tgt := 55) dX5_meanArrival_40 (by decide) ?_
          refine AW.iinc (v := (x3 + 1)) (L' := [.ref 47, .int x1, .int x2, .int (x3 + 1)]) (pc := 55) dX5_meanArrival_55 rfl rfl (by decide) rfl rfl ?_
          refine AW.goto (pc := 58) (tgt := 15) dX5_meanArrival_58 (by decide) ?_
          exact ih x1 x2 (x3 + 1) m7 hw
set_option maxRecDepth 100000 in
set_option maxHeartbeats 4000000 in
theorem b_M_meanArrival {Z : Gz} {d k0 mc ms cs ss k t : Nat} {Q : Po} {ex : Hp} {o : Nat → Int64} {K : UInt64 → Mem → Prop}  (ht : tok t) (hd : 36 ≤ d) (hcs : cs + 24 ≤ mc) (hss : ss + 576 ≤ ms) (hQ : ∀ {k2 : Nat} {ex2 : Hp}, exle k ex k2 ex2 → ∀ (r : UInt64) (m : Mem), K r m → Q (.inl (some (.double r))) (lay t ex2 o m) k2) (hk : kok t k) {m : Mem}  (hw : w_M_meanArrival  m K) : AW Z mX5_meanArrival d k0 mc ms Q 0 [.ref 47, .null, .null, .null] [] (lay t ex o m) k cs ss := by
  unfold w_M_meanArrival at hw
  refine AW.aload_n (pc := 0) dX5_meanArrival_0 rfl rfl ?_
  refine AW.iconst (v := 0) (pc := 1) dX5_meanArrival_1 (by decide) ?_
  have hw := hw _ rfl
  refine LW.put (pc := 2) (f := 0) (ci := 5) (T := TX5) ht (by decide) rfl sp_47_0 dX5_meanArrival_2 tw_798 rfl (by decide) (Nat.le_of_ble_eq_true rfl) rfl ⟨rfl, rfl⟩ ?_
  generalize up2 m 47 0 (0 : Int32) = m1 at hw ⊢
  refine AW.aload_n (pc := 5) dX5_meanArrival_5 rfl rfl ?_
  refine AW.callV (pc := 6) (S' := []) dX5_meanArrival_6 (c_M_tellArrivals (d := d - 1) ht (by omega) hk hw) ok_X5_tellArrivals tw_942 ts_43 tw_940 (fix_pos (by decide)) (lay_at ht (by decide)) (show aw_cl[5]? = some _ from rfl) rfl rfl (by omega) rfl (Nat.le_of_ble_eq_true rfl) (by omega) (by omega) ?_ (fun E h' k' hq => by obtain ⟨ex4, m2, hx5, hv, -⟩ := hq; cases hv)
  intro v h' k3 hq
  obtain ⟨ex4, m2, hx5, hv, rfl, hw⟩ := hq
  cases hv
  show AW _ _ _ _ _ _ _ 9 [.ref 47, .null, .null, .null] [] (lay t ex4 o m2) k3 _ _
  refine AW.iconst (v := 0) (pc := 9) dX5_meanArrival_9 (by decide) ?_
  refine AW.istore_n (L' := [.ref 47, .int (0 : Int32), .null, .null]) (pc := 10) dX5_meanArrival_10 rfl (by decide) rfl rfl ?_
  refine AW.iconst (v := 0) (pc := 11) dX5_meanArrival_11 (by decide) ?_
  refine AW.istore_n (L' := [.ref 47, .int (0 : Int32), .int (0 : Int32), .null]) (pc := 12) dX5_meanArrival_12 rfl (by decide) rfl rfl ?_
  refine AW.iconst (v := 0) (pc := 13) dX5_meanArrival_13 (by decide) ?_
  refine AW.istore_n (L' := [.ref 47, .int (0 : Int32), .int (0 : Int32), .int (0 : Int32)]) (pc := 14) dX5_meanArrival_14 rfl (by decide) rfl rfl ?_
  refine l_M_meanArrival_15 ht hd (by omega) (by omega) hQ hk hx5 ?_ 25 (0 : Int32) (0 : Int32) (0 : Int32) m2 hw
  intro y11 y12 y13 m14 hw
  refine AW.iload_n (pc := 61) dX5_meanArrival_61 rfl rfl ?_
  refine AW.if_ne (pc := 62) (tgt := 69) dX5_meanArrival_62 (by decide) (fun c15 => ?_) (fun c15 => ?_)
  · have hw := hw.1 c15
    refine AW.iload_n (pc := 69) dX5_meanArrival_69 rfl rfl ?_
    refine AW.i2d (pc := 70) dX5_meanArrival_70 ?_
    refine AW.iload_n (pc := 71) dX5_meanArrival_71 rfl rfl ?_
    refine AW.i2d (pc := 72) dX5_meanArrival_72 ?_
    obtain ⟨hin, hw⟩ := hw
    refine AW.ddiv (pc := 73) dX5_meanArrival_73 hin ?_
    exact AW.dret (pc := 74) dX5_meanArrival_74 rfl (by omega) (by omega) (hQ hx5 _ _ hw)
  · have hw := hw.2 c15
    refine AW.dconst0 (pc := 65) dX5_meanArrival_65 ?_
    refine AW.goto (pc := 66) (tgt := 74) dX5_meanArrival_66 (by decide) ?_
    exact AW.dret (pc := 74) dX5_meanArrival_74 rfl (by omega) (by omega) (hQ hx5 _ _ hw)
set_option maxRecDepth 100000 in
set_option maxHeartbeats 4000000 in
theorem c_M_meanArrival {d k t : Nat} {ex : Hp} {o : Nat → Int64} {K : UInt64 → Mem → Prop} {m : Mem}  (ht : tok t) (hd : 36 ≤ d) (hk : kok t k) (hw : w_M_meanArrival  m K) : AM mX5_meanArrival d [.ref 47] (lay t ex o m) k 24 576 (fun oc h' k' => ∃ (ex' : Hp) (r : UInt64) (m' : Mem), exle k ex k' ex' ∧ oc = .inl (some (.double r)) ∧ h' = lay t ex' o m' ∧ K r m') :=
  AM.intro (μ := mX5_meanArrival) (n := 3) (by decide) rfl rfl rfl (b_M_meanArrival ht hd (by omega) (by omega) (fun hx _ _ hK => ⟨_, _, _, hx, rfl, rfl, hK⟩) hk  hw)
def w_M_ofFlaw (p1 : Int32) (p2 : Int32) (m : Mem) (K : Int32 → Mem → Prop) : Prop :=
  ∀ m1 : Mem, m1 = up2 m 47 0 (0 : Int32) → w_M_noteFlaws  m1 (fun m2 => w_M_isIn p1 (0 : Int32) ((m2 47 12) - (1 : Int32)) m2 (fun r7 m6 => ((¬ (r7 = 0) → w_M_isIn p2 (0 : Int32) (1 : Int32) m6 (fun r10 m9 => ((r10 = 0 → w_M_no (2 : Int32) m9 (fun r13 m12 => K r13 m12)) ∧ (¬ (r10 = 0) → vp_in (((2 : Int32) * p1) + p2) 108 ∧ K (m9 57 (((2 : Int32) * p1) + p2).toNatClampNeg) m9)))) ∧ (r7 = 0 → w_M_no (1 : Int32) m6 (fun r15 m14 => K r15 m14)))))
set_option maxRecDepth 100000 in
set_option maxHeartbeats 4000000 in
theorem b_M_ofFlaw {Z : Gz} {d k0 mc ms cs ss k t : Nat} {Q : Po} {ex : Hp} {o : Nat → Int64} {K : Int32 → Mem → Prop}  (ht : tok t) (hd : 6 ≤ d) (hcs : cs + 31 ≤ mc) (hss : ss + 744 ≤ ms) (hQ : ∀ {k2 : Nat} {ex2 : Hp}, exle k ex k2 ex2 → ∀ (r : Int32) (m : Mem), K r m → Q (.inl (some (.int r))) (lay t ex2 o m) k2) (hk : kok t k) {m : Mem} (p1 : Int32) (p2 : Int32) (hw : w_M_ofFlaw p1 p2 m K) : AW Z mX5_ofFlaw d k0 mc ms Q 0 [.ref 47, .int p1, .int p2] [] (lay t ex o m) k cs ss := by
  unfold w_M_ofFlaw at hw
  refine AW.aload_n (pc := 0) dX5_ofFlaw_0 rfl rfl ?_
  refine AW.iconst (v := 0) (pc := 1) dX5_ofFlaw_1 (by decide) ?_
  have hw := hw _ rfl
  refine LW.put (pc := 2) (f := 0) (ci := 5) (T := TX5) ht (by decide) rfl sp_47_0 dX5_ofFlaw_2 tw_798 rfl (by decide) (Nat.le_of_ble_eq_true rfl) rfl ⟨rfl, rfl⟩ ?_
  generalize up2 m 47 0 (0 : Int32) = m1 at hw ⊢
  refine AW.aload_n (pc := 5) dX5_ofFlaw_5 rfl rfl ?_
  refine AW.callV (pc := 6) (S' := []) dX5_ofFlaw_6 (c_M_noteFlaws (d := d - 1) ht (by omega) hk hw) ok_X5_noteFlaws tw_906 ts_36 tw_904 (fix_pos (by decide)) (lay_at ht (by decide)) (show aw_cl[5]? = some _ from rfl) rfl rfl (by omega) rfl (Nat.le_of_ble_eq_true rfl) (by omega) (by omega) ?_ (fun E h' k' hq => by obtain ⟨ex4, m2, hx5, hv, -⟩ := hq; cases hv)
  intro v h' k3 hq
  obtain ⟨ex4, m2, hx5, hv, rfl, hw⟩ := hq
  cases hv
  show AW _ _ _ _ _ _ _ 9 [.ref 47, .int p1, .int p2] [] (lay t ex4 o m2) k3 _ _
  refine AW.iload_n (pc := 9) dX5_ofFlaw_9 rfl rfl ?_
  refine AW.iconst (v := 0) (pc := 10) dX5_ofFlaw_10 (by decide) ?_
  refine AW.aload_n (pc := 11) dX5_ofFlaw_11 rfl rfl ?_
  refine LW.get (pc := 12) (f := 12) (ci := 5) (T := TX5) ht (by decide) rfl dX5_ofFlaw_12 tw_810 rfl (by decide) rfl ?_
  refine AW.iconst (v := 1) (pc := 15) dX5_ofFlaw_15 (by decide) ?_
  refine AW.isub (pc := 16) dX5_ofFlaw_16 ?_
  refine AW.callS (pc := 17) (S' := []) dX5_ofFlaw_17 (c_M_isIn (d := d - 1) ht (by omega) hw) ok_X5_isIn tw_859 tw_858 rfl (by omega) rfl (Nat.le_of_ble_eq_true rfl) (by omega) (by omega) ?_ (fun E h' k' hq => by obtain ⟨rfl, r7, m6, hv, -⟩ := hq; cases hv)
  intro v h' k' hq
  obtain ⟨rfl, r7, m6, hv, rfl, hw⟩ := hq
  cases hv
  show AW _ _ _ _ _ _ _ 20 [.ref 47, .int p1, .int p2] [.int r7] (lay t ex4 o m6) k3 _ _
  refine AW.if_ne (pc := 20) (tgt := 29) dX5_ofFlaw_20 (by decide) (fun c8 => ?_) (fun c8 => ?_)
  · have hw := hw.1 c8
    refine AW.iload_n (pc := 29) dX5_ofFlaw_29 rfl rfl ?_
    refine AW.iconst (v := 0) (pc := 30) dX5_ofFlaw_30 (by decide) ?_
    refine AW.iconst (v := 1) (pc := 31) dX5_ofFlaw_31 (by decide) ?_
    refine AW.callS (pc := 32) (S' := []) dX5_ofFlaw_32 (c_M_isIn (d := d - 1) ht (by omega) hw) ok_X5_isIn tw_859 tw_858 rfl (by omega) rfl (Nat.le_of_ble_eq_true rfl) (by omega) (by omega) ?_ (fun E h' k' hq => by obtain ⟨rfl, r10, m9, hv, -⟩ := hq; cases hv)
    intro v h' k' hq
    obtain ⟨rfl, r10, m9, hv, rfl, hw⟩ := hq
    cases hv
    show AW _ _ _ _ _ _ _ 35 [.ref 47, .int p1, .int p2] [.int r10] (lay t ex4 o m9) k3 _ _
    refine AW.if_eq (pc := 35) (tgt := 51) dX5_ofFlaw_35 (by decide) (fun c11 => ?_) (fun c11 => ?_)
    · have hw := hw.1 c11
      refine AW.aload_n (pc := 51) dX5_ofFlaw_51 rfl rfl ?_
      refine AW.iconst (v := 2) (pc := 52) dX5_ofFlaw_52 (by decide) ?_
      refine AW.callV (pc := 53) (S' := []) dX5_ofFlaw_53 (c_M_no (d := d - 1) ht (by omega) hw) ok_X5_no tw_863 ts_32 tw_861 (fix_pos (by decide)) (lay_at ht (by decide)) (show aw_cl[5]? = some _ from rfl) rfl rfl (by omega) rfl (Nat.le_of_ble_eq_true rfl) (by omega) (by omega) ?_ (fun E h' k' hq => by obtain ⟨rfl, r13, m12, hv, -⟩ := hq; cases hv)
      intro v h' k' hq
      obtain ⟨rfl, r13, m12, hv, rfl, hw⟩ := hq
      cases hv
      show AW _ _ _ _ _ _ _ 56 [.ref 47, .int p1, .int p2] [.int r13] (lay t ex4 o m12) k3 _ _
      exact AW.iret (pc := 56) dX5_ofFlaw_56 rfl rfl (by omega) (by omega) (hQ hx5 _ _ hw)
    · have hw := hw.2 c11
      refine AW.aload_n (pc := 38) dX5_ofFlaw_38 rfl rfl ?_
      refine LW.get (pc := 39) (f := 13) (ci := 5) (T := TX5) ht (by decide) rfl dX5_ofFlaw_39 tw_811 rfl (by decide) rfl ?_
      refine AW.iconst (v := 2) (pc := 42) dX5_ofFlaw_42 (by decide) ?_
      refine AW.iload_n (pc := 43) dX5_ofFlaw_43 rfl rfl ?_
      refine AW.imul (pc := 44) dX5_ofFlaw_44 ?_
      refine AW.iload_n (pc := 45) dX5_ofFlaw_45 rfl rfl ?_
      refine AW.iadd (pc := 46) dX5_ofFlaw_46 ?_
      obtain ⟨hin, hw⟩ := hw
      refine LW.iald (pc := 47) (j := (((2 : Int32) * p1) + p2).toNatClampNeg) ht (by decide) rfl dX5_ofFlaw_47 hin rfl ?_
      refine AW.goto (pc := 48) (tgt := 56) dX5_ofFlaw_48 (by decide) ?_
      exact AW.iret (pc := 56) dX5_ofFlaw_56 rfl rfl (by omega) (by omega) (hQ hx5 _ _ hw)
  · have hw := hw.2 c8
    refine AW.aload_n (pc := 23) dX5_ofFlaw_23 rfl rfl ?_
    refine AW.iconst (v := 1) (pc := 24) dX5_ofFlaw_24 (by decide) ?_
    refine AW.callV (pc := 25) (S' := []) dX5_ofFlaw_25 (c_M_no (d := d - 1) ht (by omega) hw) ok_X5_no tw_863 ts_32 tw_861 (fix_pos (by decide)) (lay_at ht (by decide)) (show aw_cl[5]? = some _ from rfl) rfl rfl (by omega) rfl (Nat.le_of_ble_eq_true rfl) (by omega) (by omega) ?_ (fun E h' k' hq => by obtain ⟨rfl, r15, m14, hv, -⟩ := hq; cases hv)
    intro v h' k' hq
    obtain ⟨rfl, r15, m14, hv, rfl, hw⟩ := hq
    cases hv
    show AW _ _ _ _ _ _ _ 28 [.ref 47, .int p1, .int p2] [.int r15] (lay t ex4 o m14) k3 _ _
    exact AW.iret (pc := 28) dX5_ofFlaw_28 rfl rfl (by omega) (by omega) (hQ hx5 _ _ hw)
set_option maxRecDepth 100000 in
set_option maxHeartbeats 4000000 in
theorem c_M_ofFlaw {d k t : Nat} {ex : Hp} {o : Nat → Int64} {K : Int32 → Mem → Prop} {m : Mem} {p1 : Int32} {p2 : Int32} (ht : tok t) (hd : 6 ≤ d) (hk : kok t k) (hw : w_M_ofFlaw p1 p2 m K) : AM mX5_ofFlaw d [.ref 47, .int p1, .int p2] (lay t ex o m) k 31 744 (fun oc h' k' => ∃ (ex' : Hp) (r : Int32) (m' : Mem), exle k ex k' ex' ∧ oc = .inl (some (.int r)) ∧ h' = lay t ex' o m' ∧ K r m') :=
  AM.intro (μ := mX5_ofFlaw) (n := 0) (by decide) rfl rfl rfl (b_M_ofFlaw ht hd (by omega) (by omega) (fun hx _ _ hK => ⟨_, _, _, hx, rfl, rfl, hK⟩) hk p1 p2 hw)
def w_M_settlesIn (m : Mem) (K : Int32 → Mem → Prop) : Prop :=
  ∀ m1 : Mem, m1 = up2 m 47 0 (0 : Int32) → (((m1 47 11) = 0 → w_M_no (1 : Int32) m1 (fun r4 m3 => K r4 m3)) ∧ (¬ ((m1 47 11) = 0) → w_M_settlesNow  m1 (fun r6 m5 => K r6 m5)))
set_option maxRecDepth 100000 in
set_option maxHeartbeats 4000000 in
theorem b_M_settlesIn {Z : Gz} {d k0 mc ms cs ss k t : Nat} {Q : Po} {ex : Hp} {o : Nat → Int64} {K : Int32 → Mem → Prop}  (ht : tok t) (hd : 8 ≤ d) (hcs : cs + 1 ≤ mc) (hss : ss + 342 ≤ ms) (hQ : ∀ {k2 : Nat} {ex2 : Hp}, exle k ex k2 ex2 → ∀ (r : Int32) (m : Mem), K r m → Q (.inl (some (.int r))) (lay t ex2 o m) k2) (hk : kok t k) {m : Mem}  (hw : w_M_settlesIn  m K) : AW Z mX5_settlesIn d k0 mc ms Q 0 [.ref 47] [] (lay t ex o m) k cs ss := by
  unfold w_M_settlesIn at hw
  refine AW.aload_n (pc := 0) dX5_settlesIn_0 rfl rfl ?_
  refine AW.iconst (v := 0) (pc := 1) dX5_settlesIn_1 (by decide) ?_
  have hw := hw _ rfl
  refine LW.put (pc := 2) (f := 0) (ci := 5) (T := TX5) ht (by decide) rfl sp_47_0 dX5_settlesIn_2 tw_798 rfl (by decide) (Nat.le_of_ble_eq_true rfl) rfl ⟨rfl, rfl⟩ ?_
  generalize up2 m 47 0 (0 : Int32) = m1 at hw ⊢
  refine AW.aload_n (pc := 5) dX5_settlesIn_5 rfl rfl ?_
  refine LW.get (pc := 6) (f := 11) (ci := 5) (T := TX5) ht (by decide) rfl dX5_settlesIn_6 tw_809 rfl (by decide) rfl ?_
  refine AW.if_eq (pc := 9) (tgt := 19) dX5_settlesIn_9 (by decide) (fun c2 => ?_) (fun c2 => ?_)
  · have hw := hw.1 c2
    refine AW.aload_n (pc := 19) dX5_settlesIn_19 rfl rfl ?_
    refine AW.iconst (v := 1) (pc := 20) dX5_settlesIn_20 (by decide) ?_
    refine AW.callV (pc := 21) (S' := []) dX5_settlesIn_21 (c_M_no (d := d - 1) ht (by omega) hw) ok_X5_no tw_863 ts_32 tw_861 (fix_pos (by decide)) (lay_at ht (by decide)) (show aw_cl[5]? = some _ from rfl) rfl rfl (by omega) rfl (Nat.le_of_ble_eq_true rfl) (by omega) (by omega) ?_ (fun E h' k' hq => by obtain ⟨rfl, r4, m3, hv, -⟩ := hq; cases hv)
    intro v h' k' hq
    obtain ⟨rfl, r4, m3, hv, rfl, hw⟩ := hq
    cases hv
    show AW _ _ _ _ _ _ _ 24 [.ref 47] [.int r4] (lay t ex o m3) k _ _
    exact AW.iret (pc := 24) dX5_settlesIn_24 rfl rfl (by omega) (by omega) (hQ (exle.refl _ _) _ _ hw)
  · have hw := hw.2 c2
    refine AW.aload_n (pc := 12) dX5_settlesIn_12 rfl rfl ?_
    refine AW.callV (pc := 13) (S' := []) dX5_settlesIn_13 (c_M_settlesNow (d := d - 1) ht (by omega) hk hw) ok_X5_settlesNow tw_1110 ts_66 tw_1108 (fix_pos (by decide)) (lay_at ht (by decide)) (show aw_cl[5]? = some _ from rfl) rfl rfl (by omega) rfl (Nat.le_of_ble_eq_true rfl) (by omega) (by omega) ?_ (fun E h' k' hq => by obtain ⟨ex8, r6, m5, hx9, hv, -⟩ := hq; cases hv)
    intro v h' k7 hq
    obtain ⟨ex8, r6, m5, hx9, hv, rfl, hw⟩ := hq
    cases hv
    show AW _ _ _ _ _ _ _ 16 [.ref 47] [.int r6] (lay t ex8 o m5) k7 _ _
    refine AW.goto (pc := 16) (tgt := 24) dX5_settlesIn_16 (by decide) ?_
    exact AW.iret (pc := 24) dX5_settlesIn_24 rfl rfl (by omega) (by omega) (hQ hx9 _ _ hw)
set_option maxRecDepth 100000 in
set_option maxHeartbeats 4000000 in
theorem c_M_settlesIn {d k t : Nat} {ex : Hp} {o : Nat → Int64} {K : Int32 → Mem → Prop} {m : Mem}  (ht : tok t) (hd : 8 ≤ d) (hk : kok t k) (hw : w_M_settlesIn  m K) : AM mX5_settlesIn d [.ref 47] (lay t ex o m) k 1 342 (fun oc h' k' => ∃ (ex' : Hp) (r : Int32) (m' : Mem), exle k ex k' ex' ∧ oc = .inl (some (.int r)) ∧ h' = lay t ex' o m' ∧ K r m') :=
  AM.intro (μ := mX5_settlesIn) (n := 0) (by decide) rfl rfl rfl (b_M_settlesIn ht hd (by omega) (by omega) (fun hx _ _ hK => ⟨_, _, _, hx, rfl, rfl, hK⟩) hk  hw)
def w_M_way (p1 : Int32) (m : Mem) (K : Int32 → Mem → Prop) : Prop :=
  ∀ m1 : Mem, m1 = up2 m 47 0 (0 : Int32) → ((0 ≤ p1 → w_M_wayNow (jmin p1 (99 : Int32)) m1 (fun r4 m3 => K r4 m3)) ∧ (¬ (0 ≤ p1) → K (-1 : Int32) m1))
set_option maxRecDepth 100000 in
set_option maxHeartbeats 4000000 in
theorem b_M_way {Z : Gz} {d k0 mc ms cs ss k t : Nat} {Q : Po} {ex : Hp} {o : Nat → Int64} {K : Int32 → Mem → Prop}  (ht : tok t) (hd : 37 ≤ d) (hcs : cs + 24 ≤ mc) (hss : ss + 576 ≤ ms) (hQ : ∀ {k2 : Nat} {ex2 : Hp}, exle k ex k2 ex2 → ∀ (r : Int32) (m : Mem), K r m → Q (.inl (some (.int r))) (lay t ex2 o m) k2) (hk : kok t k) {m : Mem} (p1 : Int32) (hw : w_M_way p1 m K) : AW Z mX5_way d k0 mc ms Q 0 [.ref 47, .int p1] [] (lay t ex o m) k cs ss := by
  unfold w_M_way at hw
  refine AW.aload_n (pc := 0) dX5_way_0 rfl rfl ?_
  refine AW.iconst (v := 0) (pc := 1) dX5_way_1 (by decide) ?_
  have hw := hw _ rfl
  refine LW.put (pc := 2) (f := 0) (ci := 5) (T := TX5) ht (by decide) rfl sp_47_0 dX5_way_2 tw_798 rfl (by decide) (Nat.le_of_ble_eq_true rfl) rfl ⟨rfl, rfl⟩ ?_
  generalize up2 m 47 0 (0 : Int32) = m1 at hw ⊢
  refine AW.iload_n (pc := 5) dX5_way_5 rfl rfl ?_
  refine AW.if_ge (pc := 6) (tgt := 13) dX5_way_6 (by decide) (fun c2 => ?_) (fun c2 => ?_)
  · have hw := hw.1 c2
    refine AW.aload_n (pc := 13) dX5_way_13 rfl rfl ?_
    refine AW.iload_n (pc := 14) dX5_way_14 rfl rfl ?_
    refine AW.bipush (v := 99) (pc := 15) dX5_way_15 (by decide) ?_
    refine AW.mmin (pc := 17) dX5_way_17 tw_952 tw_953 tw_14 (Nat.le_of_ble_eq_true rfl) (by omega) (by omega) ?_
    refine AW.callV (pc := 20) (S' := []) dX5_way_20 (c_M_wayNow (d := d - 1) ht (by omega) hk hw) ok_X5_wayNow tw_974 ts_48 tw_972 (fix_pos (by decide)) (lay_at ht (by decide)) (show aw_cl[5]? = some _ from rfl) rfl rfl (by omega) rfl (Nat.le_of_ble_eq_true rfl) (by omega) (by omega) ?_ (fun E h' k' hq => by obtain ⟨ex6, r4, m3, hx7, hv, -⟩ := hq; cases hv)
    intro v h' k5 hq
    obtain ⟨ex6, r4, m3, hx7, hv, rfl, hw⟩ := hq
    cases hv
    show AW _ _ _ _ _ _ _ 23 [.ref 47, .int p1] [.int r4] (lay t ex6 o m3) k5 _ _
    exact AW.iret (pc := 23) dX5_way_23 rfl rfl (by omega) (by omega) (hQ hx7 _ _ hw)
  · have hw := hw.2 c2
    refine AW.iconst (v := -1) (pc := 9) dX5_way_9 (by decide) ?_
    refine AW.goto (pc := 10) (tgt := 23) dX5_way_10 (by decide) ?_
    exact AW.iret (pc := 23) dX5_way_23 rfl rfl (by omega) (by omega) (hQ (exle.refl _ _) _ _ hw)
set_option maxRecDepth 100000 in
set_option maxHeartbeats 4000000 in
theorem c_M_way {d k t : Nat} {ex : Hp} {o : Nat → Int64} {K : Int32 → Mem → Prop} {m : Mem} {p1 : Int32} (ht : tok t) (hd : 37 ≤ d) (hk : kok t k) (hw : w_M_way p1 m K) : AM mX5_way d [.ref 47, .int p1] (lay t ex o m) k 24 576 (fun oc h' k' => ∃ (ex' : Hp) (r : Int32) (m' : Mem), exle k ex k' ex' ∧ oc = .inl (some (.int r)) ∧ h' = lay t ex' o m' ∧ K r m') :=
  AM.intro (μ := mX5_way) (n := 0) (by decide) rfl rfl rfl (b_M_way ht hd (by omega) (by omega) (fun hx _ _ hK => ⟨_, _, _, hx, rfl, rfl, hK⟩) hk p1 hw)
