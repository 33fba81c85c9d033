/-! the reference's constructor, and the heap as the law finds it -/
def iX : List Ce := [.inr (4, [.ref 2, .ref 14, .ref 19, .ref 21, .ref 23, .ref 35, .int 0]),
  .inr (1, [.ref 3, .ref 4, .ref 5, .ref 6, .ref 7, .ref 8, .ref 9, .ref 10, .ref 11, .ref 12, .ref 13, .int 0]),
  .inl (.int, 30, .inl (fun _ => 0)),
  .inl (.int, 30, .inl (fun _ => 0)),
  .inl (.int, 30, .inl (fun _ => 0)),
  .inl (.int, 30, .inl (fun _ => 0)),
  .inl (.int, 30, .inl (fun _ => 0)),
  .inl (.int, 30, .inl (fun _ => 0)),
  .inl (.int, 30, .inl (fun _ => 0)),
  .inl (.int, 30, .inl (fun _ => 0)),
  .inl (.int, 24, .inl (fun _ => 0)),
  .inl (.int, 24, .inl (fun _ => 0)),
  .inl (.int, 24, .inl (jfill (fun _ => 0) 24 (-1))),
  .inr (2, [.ref 15, .ref 16, .ref 17, .ref 18, .int 0, .int 0]),
  .inl (.int, 54, .inl (fun _ => 0)),
  .inl (.int, 54, .inl (fun _ => 0)),
  .inl (.boolean, 30, .inl (fun _ => 0)),
  .inl (.int, 24, .inl (fun _ => 0)),
  .inr (0, [.ref 20]),
  .inl (.int, 24, .inl (fun _ => 0)),
  .inr (0, [.ref 22]),
  .inl (.int, 24, .inl (fun _ => 0)),
  .inr (3, [.ref 2, .ref 24, .ref 25, .ref 26, .ref 27, .ref 28, .ref 29, .ref 30, .ref 31, .ref 32, .ref 33, .ref 34, .int 0, .int 0, .int 0, .int 0, .int 0, .int 0]),
  .inl (.int, 24, .inl (jfill (fun _ => 0) 24 2)),
  .inl (.int, 24, .inl (jfill (fun _ => 0) 24 (-1))),
  .inl (.int, 24, .inl (jfill (fun _ => 0) 24 0)),
  .inl (.int, 24, .inl (va_cpy (jfill (fun _ => 0) 24 2) (fun _ => 0) 0 0 24)),
  .inl (.int, 30, .inl (jfill (fun _ => 0) 30 (-1))),
  .inl (.int, 30, .inl (fun _ => 0)),
  .inl (.int, 30, .inl (fun _ => 0)),
  .inl (.int, 30, .inl (jfill (fun _ => 0) 30 (-1))),
  .inl (.int, 40, .inl (fun _ => 0)),
  .inl (.int, 40, .inl (fun _ => 0)),
  .inl (.int, 40, .inl (fun _ => 0)),
  .inr (3, [.ref 2, .ref 36, .ref 37, .ref 38, .ref 39, .ref 40, .ref 41, .ref 42, .ref 43, .ref 44, .ref 45, .ref 46, .int 0, .int 0, .int 0, .int 0, .int 0, .int 0]),
  .inl (.int, 24, .inl (jfill (fun _ => 0) 24 2)),
  .inl (.int, 24, .inl (jfill (fun _ => 0) 24 (-1))),
  .inl (.int, 24, .inl (jfill (fun _ => 0) 24 0)),
  .inl (.int, 24, .inl (va_cpy (jfill (fun _ => 0) 24 2) (fun _ => 0) 0 0 24)),
  .inl (.int, 30, .inl (jfill (fun _ => 0) 30 (-1))),
  .inl (.int, 30, .inl (fun _ => 0)),
  .inl (.int, 30, .inl (fun _ => 0)),
  .inl (.int, 30, .inl (jfill (fun _ => 0) 30 (-1))),
  .inl (.int, 40, .inl (fun _ => 0)),
  .inl (.int, 40, .inl (fun _ => 0)),
  .inl (.int, 40, .inl (fun _ => 0))]
def m0 : Mem := fun i => match i with
  | 13 => jfill (fun _ => 0) 24 (-1)
  | 24 => jfill (fun _ => 0) 24 2
  | 25 => jfill (fun _ => 0) 24 (-1)
  | 26 => jfill (fun _ => 0) 24 0
  | 27 => va_cpy (jfill (fun _ => 0) 24 2) (fun _ => 0) 0 0 24
  | 28 => jfill (fun _ => 0) 30 (-1)
  | 31 => jfill (fun _ => 0) 30 (-1)
  | 36 => jfill (fun _ => 0) 24 2
  | 37 => jfill (fun _ => 0) 24 (-1)
  | 38 => jfill (fun _ => 0) 24 0
  | 39 => va_cpy (jfill (fun _ => 0) 24 2) (fun _ => 0) 0 0 24
  | 40 => jfill (fun _ => 0) 30 (-1)
  | 43 => jfill (fun _ => 0) 30 (-1)
  | _ => fun _ => 0
def ex0 : Hp := fun j => if j = 56 then rw_ (fun _ => 0) else .inr (0, [])
set_option maxRecDepth 100000 in
set_option maxHeartbeats 4000000 in
theorem ini_lay {h0 : Hp} : ∀ i, 0 < i → i < 61 → (ov 47 [.inr (5, [.int 0, .int 0, .ref 48, .ref 49, .ref 50, .ref 51, .ref 52, .ref 53, .ref 54, .ref 55, .ref 60, .int 0, .int 0, .ref 57, .ref 58, .ref 59]), .inl (.int, 30, .inl (fun _ => 0)), .inl (.int, 30, .inl (fun _ => 0)), .inl (.int, 30, .inl (fun _ => 0)), .inl (.int, 30, .inl (fun _ => 0)), .inl (.int, 30, .inl (fun _ => 0)), .inl (.int, 30, .inl (fun _ => 0)), .inl (.int, 30, .inl (fun _ => 0)), .inl (.int, 30, .inl (fun _ => 0)), .inl (.int, 342, .inl (fun _ => 0)), .inl (.int, 108, .inl (fun _ => 0)), .inl (.int, 24, .inl (fun _ => 0)), .inl (.boolean, 24, .inl (fun _ => 0)), .inl (.int, 342, .inl (fun _ => 0))] (ov 1 iX h0)) i = lay 60 ex0 (fun _ => 0) m0 i := by
  intro i h0 hi
  match i, h0, hi with
  | 1, _, _ => rfl
  | 2, _, _ => rfl
  | 3, _, _ => rfl
  | 4, _, _ => rfl
  | 5, _, _ => rfl
  | 6, _, _ => rfl
  | 7, _, _ => rfl
  | 8, _, _ => rfl
  | 9, _, _ => rfl
  | 10, _, _ => rfl
  | 11, _, _ => rfl
  | 12, _, _ => rfl
  | 13, _, _ => rfl
  | 14, _, _ => rfl
  | 15, _, _ => rfl
  | 16, _, _ => rfl
  | 17, _, _ => rfl
  | 18, _, _ => rfl
  | 19, _, _ => rfl
  | 20, _, _ => rfl
  | 21, _, _ => rfl
  | 22, _, _ => rfl
  | 23, _, _ => rfl
  | 24, _, _ => rfl
  | 25, _, _ => rfl
  | 26, _, _ => rfl
  | 27, _, _ => rfl
  | 28, _, _ => rfl
  | 29, _, _ => rfl
  | 30, _, _ => rfl
  | 31, _, _ => rfl
  | 32, _, _ => rfl
  | 33, _, _ => rfl
  | 34, _, _ => rfl
  | 35, _, _ => rfl
  | 36, _, _ => rfl
  | 37, _, _ => rfl
  | 38, _, _ => rfl
  | 39, _, _ => rfl
  | 40, _, _ => rfl
  | 41, _, _ => rfl
  | 42, _, _ => rfl
  | 43, _, _ => rfl
  | 44, _, _ => rfl
  | 45, _, _ => rfl
  | 46, _, _ => rfl
  | 47, _, _ => rfl
  | 48, _, _ => rfl
  | 49, _, _ => rfl
  | 50, _, _ => rfl
  | 51, _, _ => rfl
  | 52, _, _ => rfl
  | 53, _, _ => rfl
  | 54, _, _ => rfl
  | 55, _, _ => rfl
  | 56, _, _ => rfl
  | 57, _, _ => rfl
  | 58, _, _ => rfl
  | 59, _, _ => rfl
  | 60, _, _ => rfl
  | n + 61, _, hi => exact absurd hi (by omega)
set_option maxRecDepth 100000 in
set_option maxHeartbeats 4000000 in
theorem c0_M_clear {d : Nat} {h0 : Hp} {K : Mem → Prop} (hd : 2 ≤ d) (hw : w_M_clear_9 m0 K) : AM mX5_clear d [.ref 47] (ov 47 [.inr (5, [.int 0, .int 0, .ref 48, .ref 49, .ref 50, .ref 51, .ref 52, .ref 53, .ref 54, .ref 55, .ref 56, .int 0, .int 0, .ref 57, .ref 58, .ref 59]), .inl (.int, 30, .inl (fun _ => 0)), .inl (.int, 30, .inl (fun _ => 0)), .inl (.int, 30, .inl (fun _ => 0)), .inl (.int, 30, .inl (fun _ => 0)), .inl (.int, 30, .inl (fun _ => 0)), .inl (.int, 30, .inl (fun _ => 0)), .inl (.int, 30, .inl (fun _ => 0)), .inl (.int, 30, .inl (fun _ => 0)), .inl (.int, 342, .inl (fun _ => 0)), .inl (.int, 108, .inl (fun _ => 0)), .inl (.int, 24, .inl (fun _ => 0)), .inl (.boolean, 24, .inl (fun _ => 0))] (ov 1 iX h0)) 60 1 342 (fun oc h' k' => oc = .inl none ∧ k' = 61 ∧ ∃ (ex : Hp) (m' : Mem), h' = lay 60 ex (fun _ => 0) m' ∧ K m') := by
  refine AM.intro (n := 1) (by decide) rfl rfl rfl ?_
  refine AW.aload_n (pc := 0) dX5_clear_0 rfl rfl ?_
  refine AW.sipush (v := 342) (pc := 1) dX5_clear_1 (by decide) ?_
  refine AW.newa (ty := .int) (N := 342) (a0 := (342, .inl (fun _ => 0))) (pc := 4) dX5_clear_4 rfl (Or.inl rfl) tw_97 (fun _ => rfl) (by decide) (by decide) (by decide) (by omega) (by omega) ?_
  rw [ov_push (k := 60) rfl]
  show AW _ _ _ _ _ _ _ 6 [.ref 47, .null] [.ref 60, .ref 47] (ov 47 [.inr (5, [.int 0, .int 0, .ref 48, .ref 49, .ref 50, .ref 51, .ref 52, .ref 53, .ref 54, .ref 55, .ref 56, .int 0, .int 0, .ref 57, .ref 58, .ref 59]), .inl (.int, 30, .inl (fun _ => 0)), .inl (.int, 30, .inl (fun _ => 0)), .inl (.int, 30, .inl (fun _ => 0)), .inl (.int, 30, .inl (fun _ => 0)), .inl (.int, 30, .inl (fun _ => 0)), .inl (.int, 30, .inl (fun _ => 0)), .inl (.int, 30, .inl (fun _ => 0)), .inl (.int, 30, .inl (fun _ => 0)), .inl (.int, 342, .inl (fun _ => 0)), .inl (.int, 108, .inl (fun _ => 0)), .inl (.int, 24, .inl (fun _ => 0)), .inl (.boolean, 24, .inl (fun _ => 0)), .inl (.int, 342, .inl (fun _ => 0))] (ov 1 iX h0)) 61 _ _
  refine AW.put (i := 47) (ci := 5) (f := 10) (N := 16) (C := RX5) (T := TX5) (fs' := [.int 0, .int 0, .ref 48, .ref 49, .ref 50, .ref 51, .ref 52, .ref 53, .ref 54, .ref 55, .ref 60, .int 0, .int 0, .ref 57, .ref 58, .ref 59]) (pc := 6) dX5_clear_6 tw_808 rfl (by decide) rfl (by decide) (ov_at (p := 0) rfl rfl) (Nat.le_of_ble_eq_true rfl) rfl (fun _ => ⟨rfl, rfl⟩) rfl ?_
  rw [ov_set (p := 0) (Nat.le_of_ble_eq_true rfl) rfl]
  show AW _ _ _ _ _ _ _ 9 [.ref 47, .null] [] (ov 47 [.inr (5, [.int 0, .int 0, .ref 48, .ref 49, .ref 50, .ref 51, .ref 52, .ref 53, .ref 54, .ref 55, .ref 60, .int 0, .int 0, .ref 57, .ref 58, .ref 59]), .inl (.int, 30, .inl (fun _ => 0)), .inl (.int, 30, .inl (fun _ => 0)), .inl (.int, 30, .inl (fun _ => 0)), .inl (.int, 30, .inl (fun _ => 0)), .inl (.int, 30, .inl (fun _ => 0)), .inl (.int, 30, .inl (fun _ => 0)), .inl (.int, 30, .inl (fun _ => 0)), .inl (.int, 30, .inl (fun _ => 0)), .inl (.int, 342, .inl (fun _ => 0)), .inl (.int, 108, .inl (fun _ => 0)), .inl (.int, 24, .inl (fun _ => 0)), .inl (.boolean, 24, .inl (fun _ => 0)), .inl (.int, 342, .inl (fun _ => 0))] (ov 1 iX h0)) 61 _ _
  refine AW.junk ini_lay ?_
  exact b_M_clear_9 (Or.inl rfl) hd (by omega) (by omega) (fun _ hK => ⟨rfl, rfl, _, _, rfl, hK⟩) hw
set_option maxRecDepth 100000 in
set_option maxHeartbeats 4000000 in
theorem c0_M_init {d : Nat} {h0 : Hp} {K : Mem → Prop} (hd : 3 ≤ d) (hw : w_M_clear_9 m0 K) : AM mX5_init d [.ref 47] (ov 47 [.inr (5, [.int 0, .int 0, .null, .null, .null, .null, .null, .null, .null, .null, .null, .int 0, .int 0, .null, .null, .null])] (ov 1 iX h0)) 48 13 1080 (fun oc h' k' => oc = .inl none ∧ k' = 61 ∧ ∃ (ex : Hp) (m' : Mem), h' = lay 60 ex (fun _ => 0) m' ∧ K m') := by
  refine AM.intro (n := 0) (by decide) rfl rfl rfl ?_
  refine AW.aload_n (pc := 0) dX5_init_0 rfl rfl ?_
  refine AW.objInit (pc := 1) dX5_init_1 tw_793 tw_23 tw_24 (Nat.le_of_ble_eq_true rfl) ?_
  refine AW.aload_n (pc := 4) dX5_init_4 rfl rfl ?_
  refine AW.bipush (v := 30) (pc := 5) dX5_init_5 (by decide) ?_
  refine AW.newa (ty := .int) (N := 30) (a0 := (30, .inl (fun _ => 0))) (pc := 7) dX5_init_7 rfl (Or.inl rfl) tw_97 (fun _ => rfl) (by decide) (by decide) (by decide) (by omega) (by omega) ?_
  rw [ov_push (k := 48) rfl]
  show AW _ _ _ _ _ _ _ 9 [.ref 47] [.ref 48, .ref 47] (ov 47 [.inr (5, [.int 0, .int 0, .null, .null, .null, .null, .null, .null, .null, .null, .null, .int 0, .int 0, .null, .null, .null]), .inl (.int, 30, .inl (fun _ => 0))] (ov 1 iX h0)) 49 _ _
  refine AW.putF (i := 47) (ci := 5) (f := 2) (N := 16) (C := RX5) (T := TX5) (fs' := [.int 0, .int 0, .ref 48, .null, .null, .null, .null, .null, .null, .null, .null, .int 0, .int 0, .null, .null, .null]) (pc := 9) dX5_init_9 tw_800 rfl (by decide) rfl (by decide) (ov_at (p := 0) rfl rfl) (Nat.le_of_ble_eq_true rfl) rfl rfl rfl (fun _ => ⟨rfl, rfl⟩) rfl ?_
  rw [ov_set (p := 0) (Nat.le_of_ble_eq_true rfl) rfl]
  show AW _ _ _ _ _ _ _ 12 [.ref 47] [] (ov 47 [.inr (5, [.int 0, .int 0, .ref 48, .null, .null, .null, .null, .null, .null, .null, .null, .int 0, .int 0, .null, .null, .null]), .inl (.int, 30, .inl (fun _ => 0))] (ov 1 iX h0)) 49 _ _
  refine AW.aload_n (pc := 12) dX5_init_12 rfl rfl ?_
  refine AW.bipush (v := 30) (pc := 13) dX5_init_13 (by decide) ?_
  refine AW.newa (ty := .int) (N := 30) (a0 := (30, .inl (fun _ => 0))) (pc := 15) dX5_init_15 rfl (Or.inl rfl) tw_97 (fun _ => rfl) (by decide) (by decide) (by decide) (by omega) (by omega) ?_
  rw [ov_push (k := 49) rfl]
  show AW _ _ _ _ _ _ _ 17 [.ref 47] [.ref 49, .ref 47] (ov 47 [.inr (5, [.int 0, .int 0, .ref 48, .null, .null, .null, .null, .null, .null, .null, .null, .int 0, .int 0, .null, .null, .null]), .inl (.int, 30, .inl (fun _ => 0)), .inl (.int, 30, .inl (fun _ => 0))] (ov 1 iX h0)) 50 _ _
  refine AW.putF (i := 47) (ci := 5) (f := 3) (N := 16) (C := RX5) (T := TX5) (fs' := [.int 0, .int 0, .ref 48, .ref 49, .null, .null, .null, .null, .null, .null, .null, .int 0, .int 0, .null, .null, .null]) (pc := 17) dX5_init_17 tw_801 rfl (by decide) rfl (by decide) (ov_at (p := 0) rfl rfl) (Nat.le_of_ble_eq_true rfl) rfl rfl rfl (fun _ => ⟨rfl, rfl⟩) rfl ?_
  rw [ov_set (p := 0) (Nat.le_of_ble_eq_true rfl) rfl]
  show AW _ _ _ _ _ _ _ 20 [.ref 47] [] (ov 47 [.inr (5, [.int 0, .int 0, .ref 48, .ref 49, .null, .null, .null, .null, .null, .null, .null, .int 0, .int 0, .null, .null, .null]), .inl (.int, 30, .inl (fun _ => 0)), .inl (.int, 30, .inl (fun _ => 0))] (ov 1 iX h0)) 50 _ _
  refine AW.aload_n (pc := 20) dX5_init_20 rfl rfl ?_
  refine AW.bipush (v := 30) (pc := 21) dX5_init_21 (by decide) ?_
  refine AW.newa (ty := .int) (N := 30) (a0 := (30, .inl (fun _ => 0))) (pc := 23) dX5_init_23 rfl (Or.inl rfl) tw_97 (fun _ => rfl) (by decide) (by decide) (by decide) (by omega) (by omega) ?_
  rw [ov_push (k := 50) rfl]
  show AW _ _ _ _ _ _ _ 25 [.ref 47] [.ref 50, .ref 47] (ov 47 [.inr (5, [.int 0, .int 0, .ref 48, .ref 49, .null, .null, .null, .null, .null, .null, .null, .int 0, .int 0, .null, .null, .null]), .inl (.int, 30, .inl (fun _ => 0)), .inl (.int, 30, .inl (fun _ => 0)), .inl (.int, 30, .inl (fun _ => 0))] (ov 1 iX h0)) 51 _ _
  refine AW.putF (i := 47) (ci := 5) (f := 4) (N := 16) (C := RX5) (T := TX5) (fs' := [.int 0, .int 0, .ref 48, .ref 49, .ref 50, .null, .null, .null, .null, .null, .null, .int 0, .int 0, .null, .null, .null]) (pc := 25) dX5_init_25 tw_802 rfl (by decide) rfl (by decide) (ov_at (p := 0) rfl rfl) (Nat.le_of_ble_eq_true rfl) rfl rfl rfl (fun _ => ⟨rfl, rfl⟩) rfl ?_
  rw [ov_set (p := 0) (Nat.le_of_ble_eq_true rfl) rfl]
  show AW _ _ _ _ _ _ _ 28 [.ref 47] [] (ov 47 [.inr (5, [.int 0, .int 0, .ref 48, .ref 49, .ref 50, .null, .null, .null, .null, .null, .null, .int 0, .int 0, .null, .null, .null]), .inl (.int, 30, .inl (fun _ => 0)), .inl (.int, 30, .inl (fun _ => 0)), .inl (.int, 30, .inl (fun _ => 0))] (ov 1 iX h0)) 51 _ _
  refine AW.aload_n (pc := 28) dX5_init_28 rfl rfl ?_
  refine AW.bipush (v := 30) (pc := 29) dX5_init_29 (by decide) ?_
  refine AW.newa (ty := .int) (N := 30) (a0 := (30, .inl (fun _ => 0))) (pc := 31) dX5_init_31 rfl (Or.inl rfl) tw_97 (fun _ => rfl) (by decide) (by decide) (by decide) (by omega) (by omega) ?_
  rw [ov_push (k := 51) rfl]
  show AW _ _ _ _ _ _ _ 33 [.ref 47] [.ref 51, .ref 47] (ov 47 [.inr (5, [.int 0, .int 0, .ref 48, .ref 49, .ref 50, .null, .null, .null, .null, .null, .null, .int 0, .int 0, .null, .null, .null]), .inl (.int, 30, .inl (fun _ => 0)), .inl (.int, 30, .inl (fun _ => 0)), .inl (.int, 30, .inl (fun _ => 0)), .inl (.int, 30, .inl (fun _ => 0))] (ov 1 iX h0)) 52 _ _
  refine AW.putF (i := 47) (ci := 5) (f := 5) (N := 16) (C := RX5) (T := TX5) (fs' := [.int 0, .int 0, .ref 48, .ref 49, .ref 50, .ref 51, .null, .null, .null, .null, .null, .int 0, .int 0, .null, .null, .null]) (pc := 33) dX5_init_33 tw_803 rfl (by decide) rfl (by decide) (ov_at (p := 0) rfl rfl) (Nat.le_of_ble_eq_true rfl) rfl rfl rfl (fun _ => ⟨rfl, rfl⟩) rfl ?_
  rw [ov_set (p := 0) (Nat.le_of_ble_eq_true rfl) rfl]
  show AW _ _ _ _ _ _ _ 36 [.ref 47] [] (ov 47 [.inr (5, [.int 0, .int 0, .ref 48, .ref 49, .ref 50, .ref 51, .null, .null, .null, .null, .null, .int 0, .int 0, .null, .null, .null]), .inl (.int, 30, .inl (fun _ => 0)), .inl (.int, 30, .inl (fun _ => 0)), .inl (.int, 30, .inl (fun _ => 0)), .inl (.int, 30, .inl (fun _ => 0))] (ov 1 iX h0)) 52 _ _
  refine AW.aload_n (pc := 36) dX5_init_36 rfl rfl ?_
  refine AW.bipush (v := 30) (pc := 37) dX5_init_37 (by decide) ?_
  refine AW.newa (ty := .int) (N := 30) (a0 := (30, .inl (fun _ => 0))) (pc := 39) dX5_init_39 rfl (Or.inl rfl) tw_97 (fun _ => rfl) (by decide) (by decide) (by decide) (by omega) (by omega) ?_
  rw [ov_push (k := 52) rfl]
  show AW _ _ _ _ _ _ _ 41 [.ref 47] [.ref 52, .ref 47] (ov 47 [.inr (5, [.int 0, .int 0, .ref 48, .ref 49, .ref 50, .ref 51, .null, .null, .null, .null, .null, .int 0, .int 0, .null, .null, .null]), .inl (.int, 30, .inl (fun _ => 0)), .inl (.int, 30, .inl (fun _ => 0)), .inl (.int, 30, .inl (fun _ => 0)), .inl (.int, 30, .inl (fun _ => 0)), .inl (.int, 30, .inl (fun _ => 0))] (ov 1 iX h0)) 53 _ _
  refine AW.putF (i := 47) (ci := 5) (f := 6) (N := 16) (C := RX5) (T := TX5) (fs' := [.int 0, .int 0, .ref 48, .ref 49, .ref 50, .ref 51, .ref 52, .null, .null, .null, .null, .int 0, .int 0, .null, .null, .null]) (pc := 41) dX5_init_41 tw_804 rfl (by decide) rfl (by decide) (ov_at (p := 0) rfl rfl) (Nat.le_of_ble_eq_true rfl) rfl rfl rfl (fun _ => ⟨rfl, rfl⟩) rfl ?_
  rw [ov_set (p := 0) (Nat.le_of_ble_eq_true rfl) rfl]
  show AW _ _ _ _ _ _ _ 44 [.ref 47] [] (ov 47 [.inr (5, [.int 0, .int 0, .ref 48, .ref 49, .ref 50, .ref 51, .ref 52, .null, .null, .null, .null, .int 0, .int 0, .null, .null, .null]), .inl (.int, 30, .inl (fun _ => 0)), .inl (.int, 30, .inl (fun _ => 0)), .inl (.int, 30, .inl (fun _ => 0)), .inl (.int, 30, .inl (fun _ => 0)), .inl (.int, 30, .inl (fun _ => 0))] (ov 1 iX h0)) 53 _ _
  refine AW.aload_n (pc := 44) dX5_init_44 rfl rfl ?_
  refine AW.bipush (v := 30) (pc := 45) dX5_init_45 (by decide) ?_
  refine AW.newa (ty := .int) (N := 30) (a0 := (30, .inl (fun _ => 0))) (pc := 47) dX5_init_47 rfl (Or.inl rfl) tw_97 (fun _ => rfl) (by decide) (by decide) (by decide) (by omega) (by omega) ?_
  rw [ov_push (k := 53) rfl]
  show AW _ _ _ _ _ _ _ 49 [.ref 47] [.ref 53, .ref 47] (ov 47 [.inr (5, [.int 0, .int 0, .ref 48, .ref 49, .ref 50, .ref 51, .ref 52, .null, .null, .null, .null, .int 0, .int 0, .null, .null, .null]), .inl (.int, 30, .inl (fun _ => 0)), .inl (.int, 30, .inl (fun _ => 0)), .inl (.int, 30, .inl (fun _ => 0)), .inl (.int, 30, .inl (fun _ => 0)), .inl (.int, 30, .inl (fun _ => 0)), .inl (.int, 30, .inl (fun _ => 0))] (ov 1 iX h0)) 54 _ _
  refine AW.putF (i := 47) (ci := 5) (f := 7) (N := 16) (C := RX5) (T := TX5) (fs' := [.int 0, .int 0, .ref 48, .ref 49, .ref 50, .ref 51, .ref 52, .ref 53, .null, .null, .null, .int 0, .int 0, .null, .null, .null]) (pc := 49) dX5_init_49 tw_805 rfl (by decide) rfl (by decide) (ov_at (p := 0) rfl rfl) (Nat.le_of_ble_eq_true rfl) rfl rfl rfl (fun _ => ⟨rfl, rfl⟩) rfl ?_
  rw [ov_set (p := 0) (Nat.le_of_ble_eq_true rfl) rfl]
  show AW _ _ _ _ _ _ _ 52 [.ref 47] [] (ov 47 [.inr (5, [.int 0, .int 0, .ref 48, .ref 49, .ref 50, .ref 51, .ref 52, .ref 53, .null, .null, .null, .int 0, .int 0, .null, .null, .null]), .inl (.int, 30, .inl (fun _ => 0)), .inl (.int, 30, .inl (fun _ => 0)), .inl (.int, 30, .inl (fun _ => 0)), .inl (.int, 30, .inl (fun _ => 0)), .inl (.int, 30, .inl (fun _ => 0)), .inl (.int, 30, .inl (fun _ => 0))] (ov 1 iX h0)) 54 _ _
  refine AW.aload_n (pc := 52) dX5_init_52 rfl rfl ?_
  refine AW.bipush (v := 30) (pc := 53) dX5_init_53 (by decide) ?_
  refine AW.newa (ty := .int) (N := 30) (a0 := (30, .inl (fun _ => 0))) (pc := 55) dX5_init_55 rfl (Or.inl rfl) tw_97 (fun _ => rfl) (by decide) (by decide) (by decide) (by omega) (by omega) ?_
  rw [ov_push (k := 54) rfl]
  show AW _ _ _ _ _ _ _ 57 [.ref 47] [.ref 54, .ref 47] (ov 47 [.inr (5, [.int 0, .int 0, .ref 48, .ref 49, .ref 50, .ref 51, .ref 52, .ref 53, .null, .null, .null, .int 0, .int 0, .null, .null, .null]), .inl (.int, 30, .inl (fun _ => 0)), .inl (.int, 30, .inl (fun _ => 0)), .inl (.int, 30, .inl (fun _ => 0)), .inl (.int, 30, .inl (fun _ => 0)), .inl (.int, 30, .inl (fun _ => 0)), .inl (.int, 30, .inl (fun _ => 0)), .inl (.int, 30, .inl (fun _ => 0))] (ov 1 iX h0)) 55 _ _
  refine AW.putF (i := 47) (ci := 5) (f := 8) (N := 16) (C := RX5) (T := TX5) (fs' := [.int 0, .int 0, .ref 48, .ref 49, .ref 50, .ref 51, .ref 52, .ref 53, .ref 54, .null, .null, .int 0, .int 0, .null, .null, .null]) (pc := 57) dX5_init_57 tw_806 rfl (by decide) rfl (by decide) (ov_at (p := 0) rfl rfl) (Nat.le_of_ble_eq_true rfl) rfl rfl rfl (fun _ => ⟨rfl, rfl⟩) rfl ?_
  rw [ov_set (p := 0) (Nat.le_of_ble_eq_true rfl) rfl]
  show AW _ _ _ _ _ _ _ 60 [.ref 47] [] (ov 47 [.inr (5, [.int 0, .int 0, .ref 48, .ref 49, .ref 50, .ref 51, .ref 52, .ref 53, .ref 54, .null, .null, .int 0, .int 0, .null, .null, .null]), .inl (.int, 30, .inl (fun _ => 0)), .inl (.int, 30, .inl (fun _ => 0)), .inl (.int, 30, .inl (fun _ => 0)), .inl (.int, 30, .inl (fun _ => 0)), .inl (.int, 30, .inl (fun _ => 0)), .inl (.int, 30, .inl (fun _ => 0)), .inl (.int, 30, .inl (fun _ => 0))] (ov 1 iX h0)) 55 _ _
  refine AW.aload_n (pc := 60) dX5_init_60 rfl rfl ?_
  refine AW.bipush (v := 30) (pc := 61) dX5_init_61 (by decide) ?_
  refine AW.newa (ty := .int) (N := 30) (a0 := (30, .inl (fun _ => 0))) (pc := 63) dX5_init_63 rfl (Or.inl rfl) tw_97 (fun _ => rfl) (by decide) (by decide) (by decide) (by omega) (by omega) ?_
  rw [ov_push (k := 55) rfl]
  show AW _ _ _ _ _ _ _ 65 [.ref 47] [.ref 55, .ref 47] (ov 47 [.inr (5, [.int 0, .int 0, .ref 48, .ref 49, .ref 50, .ref 51, .ref 52, .ref 53, .ref 54, .null, .null, .int 0, .int 0, .null, .null, .null]), .inl (.int, 30, .inl (fun _ => 0)), .inl (.int, 30, .inl (fun _ => 0)), .inl (.int, 30, .inl (fun _ => 0)), .inl (.int, 30, .inl (fun _ => 0)), .inl (.int, 30, .inl (fun _ => 0)), .inl (.int, 30, .inl (fun _ => 0)), .inl (.int, 30, .inl (fun _ => 0)), .inl (.int, 30, .inl (fun _ => 0))] (ov 1 iX h0)) 56 _ _
  refine AW.putF (i := 47) (ci := 5) (f := 9) (N := 16) (C := RX5) (T := TX5) (fs' := [.int 0, .int 0, .ref 48, .ref 49, .ref 50, .ref 51, .ref 52, .ref 53, .ref 54, .ref 55, .null, .int 0, .int 0, .null, .null, .null]) (pc := 65) dX5_init_65 tw_807 rfl (by decide) rfl (by decide) (ov_at (p := 0) rfl rfl) (Nat.le_of_ble_eq_true rfl) rfl rfl rfl (fun _ => ⟨rfl, rfl⟩) rfl ?_
  rw [ov_set (p := 0) (Nat.le_of_ble_eq_true rfl) rfl]
  show AW _ _ _ _ _ _ _ 68 [.ref 47] [] (ov 47 [.inr (5, [.int 0, .int 0, .ref 48, .ref 49, .ref 50, .ref 51, .ref 52, .ref 53, .ref 54, .ref 55, .null, .int 0, .int 0, .null, .null, .null]), .inl (.int, 30, .inl (fun _ => 0)), .inl (.int, 30, .inl (fun _ => 0)), .inl (.int, 30, .inl (fun _ => 0)), .inl (.int, 30, .inl (fun _ => 0)), .inl (.int, 30, .inl (fun _ => 0)), .inl (.int, 30, .inl (fun _ => 0)), .inl (.int, 30, .inl (fun _ => 0)), .inl (.int, 30, .inl (fun _ => 0))] (ov 1 iX h0)) 56 _ _
  refine AW.aload_n (pc := 68) dX5_init_68 rfl rfl ?_
  refine AW.sipush (v := 342) (pc := 69) dX5_init_69 (by decide) ?_
  refine AW.newa (ty := .int) (N := 342) (a0 := (342, .inl (fun _ => 0))) (pc := 72) dX5_init_72 rfl (Or.inl rfl) tw_97 (fun _ => rfl) (by decide) (by decide) (by decide) (by omega) (by omega) ?_
  rw [ov_push (k := 56) rfl]
  show AW _ _ _ _ _ _ _ 74 [.ref 47] [.ref 56, .ref 47] (ov 47 [.inr (5, [.int 0, .int 0, .ref 48, .ref 49, .ref 50, .ref 51, .ref 52, .ref 53, .ref 54, .ref 55, .null, .int 0, .int 0, .null, .null, .null]), .inl (.int, 30, .inl (fun _ => 0)), .inl (.int, 30, .inl (fun _ => 0)), .inl (.int, 30, .inl (fun _ => 0)), .inl (.int, 30, .inl (fun _ => 0)), .inl (.int, 30, .inl (fun _ => 0)), .inl (.int, 30, .inl (fun _ => 0)), .inl (.int, 30, .inl (fun _ => 0)), .inl (.int, 30, .inl (fun _ => 0)), .inl (.int, 342, .inl (fun _ => 0))] (ov 1 iX h0)) 57 _ _
  refine AW.put (i := 47) (ci := 5) (f := 10) (N := 16) (C := RX5) (T := TX5) (fs' := [.int 0, .int 0, .ref 48, .ref 49, .ref 50, .ref 51, .ref 52, .ref 53, .ref 54, .ref 55, .ref 56, .int 0, .int 0, .null, .null, .null]) (pc := 74) dX5_init_74 tw_808 rfl (by decide) rfl (by decide) (ov_at (p := 0) rfl rfl) (Nat.le_of_ble_eq_true rfl) rfl (fun _ => ⟨rfl, rfl⟩) rfl ?_
  rw [ov_set (p := 0) (Nat.le_of_ble_eq_true rfl) rfl]
  show AW _ _ _ _ _ _ _ 77 [.ref 47] [] (ov 47 [.inr (5, [.int 0, .int 0, .ref 48, .ref 49, .ref 50, .ref 51, .ref 52, .ref 53, .ref 54, .ref 55, .ref 56, .int 0, .int 0, .null, .null, .null]), .inl (.int, 30, .inl (fun _ => 0)), .inl (.int, 30, .inl (fun _ => 0)), .inl (.int, 30, .inl (fun _ => 0)), .inl (.int, 30, .inl (fun _ => 0)), .inl (.int, 30, .inl (fun _ => 0)), .inl (.int, 30, .inl (fun _ => 0)), .inl (.int, 30, .inl (fun _ => 0)), .inl (.int, 30, .inl (fun _ => 0)), .inl (.int, 342, .inl (fun _ => 0))] (ov 1 iX h0)) 57 _ _
  refine AW.aload_n (pc := 77) dX5_init_77 rfl rfl ?_
  refine AW.bipush (v := 108) (pc := 78) dX5_init_78 (by decide) ?_
  refine AW.newa (ty := .int) (N := 108) (a0 := (108, .inl (fun _ => 0))) (pc := 80) dX5_init_80 rfl (Or.inl rfl) tw_97 (fun _ => rfl) (by decide) (by decide) (by decide) (by omega) (by omega) ?_
  rw [ov_push (k := 57) rfl]
  show AW _ _ _ _ _ _ _ 82 [.ref 47] [.ref 57, .ref 47] (ov 47 [.inr (5, [.int 0, .int 0, .ref 48, .ref 49, .ref 50, .ref 51, .ref 52, .ref 53, .ref 54, .ref 55, .ref 56, .int 0, .int 0, .null, .null, .null]), .inl (.int, 30, .inl (fun _ => 0)), .inl (.int, 30, .inl (fun _ => 0)), .inl (.int, 30, .inl (fun _ => 0)), .inl (.int, 30, .inl (fun _ => 0)), .inl (.int, 30, .inl (fun _ => 0)), .inl (.int, 30, .inl (fun _ => 0)), .inl (.int, 30, .inl (fun _ => 0)), .inl (.int, 30, .inl (fun _ => 0)), .inl (.int, 342, .inl (fun _ => 0)), .inl (.int, 108, .inl (fun _ => 0))] (ov 1 iX h0)) 58 _ _
  refine AW.putF (i := 47) (ci := 5) (f := 13) (N := 16) (C := RX5) (T := TX5) (fs' := [.int 0, .int 0, .ref 48, .ref 49, .ref 50, .ref 51, .ref 52, .ref 53, .ref 54, .ref 55, .ref 56, .int 0, .int 0, .ref 57, .null, .null]) (pc := 82) dX5_init_82 tw_811 rfl (by decide) rfl (by decide) (ov_at (p := 0) rfl rfl) (Nat.le_of_ble_eq_true rfl) rfl rfl rfl (fun _ => ⟨rfl, rfl⟩) rfl ?_
  rw [ov_set (p := 0) (Nat.le_of_ble_eq_true rfl) rfl]
  show AW _ _ _ _ _ _ _ 85 [.ref 47] [] (ov 47 [.inr (5, [.int 0, .int 0, .ref 48, .ref 49, .ref 50, .ref 51, .ref 52, .ref 53, .ref 54, .ref 55, .ref 56, .int 0, .int 0, .ref 57, .null, .null]), .inl (.int, 30, .inl (fun _ => 0)), .inl (.int, 30, .inl (fun _ => 0)), .inl (.int, 30, .inl (fun _ => 0)), .inl (.int, 30, .inl (fun _ => 0)), .inl (.int, 30, .inl (fun _ => 0)), .inl (.int, 30, .inl (fun _ => 0)), .inl (.int, 30, .inl (fun _ => 0)), .inl (.int, 30, .inl (fun _ => 0)), .inl (.int, 342, .inl (fun _ => 0)), .inl (.int, 108, .inl (fun _ => 0))] (ov 1 iX h0)) 58 _ _
  refine AW.aload_n (pc := 85) dX5_init_85 rfl rfl ?_
  refine AW.bipush (v := 24) (pc := 86) dX5_init_86 (by decide) ?_
  refine AW.newa (ty := .int) (N := 24) (a0 := (24, .inl (fun _ => 0))) (pc := 88) dX5_init_88 rfl (Or.inl rfl) tw_97 (fun _ => rfl) (by decide) (by decide) (by decide) (by omega) (by omega) ?_
  rw [ov_push (k := 58) rfl]
  show AW _ _ _ _ _ _ _ 90 [.ref 47] [.ref 58, .ref 47] (ov 47 [.inr (5, [.int 0, .int 0, .ref 48, .ref 49, .ref 50, .ref 51, .ref 52, .ref 53, .ref 54, .ref 55, .ref 56, .int 0, .int 0, .ref 57, .null, .null]), .inl (.int, 30, .inl (fun _ => 0)), .inl (.int, 30, .inl (fun _ => 0)), .inl (.int, 30, .inl (fun _ => 0)), .inl (.int, 30, .inl (fun _ => 0)), .inl (.int, 30, .inl (fun _ => 0)), .inl (.int, 30, .inl (fun _ => 0)), .inl (.int, 30, .inl (fun _ => 0)), .inl (.int, 30, .inl (fun _ => 0)), .inl (.int, 342, .inl (fun _ => 0)), .inl (.int, 108, .inl (fun _ => 0)), .inl (.int, 24, .inl (fun _ => 0))] (ov 1 iX h0)) 59 _ _
  refine AW.putF (i := 47) (ci := 5) (f := 14) (N := 16) (C := RX5) (T := TX5) (fs' := [.int 0, .int 0, .ref 48, .ref 49, .ref 50, .ref 51, .ref 52, .ref 53, .ref 54, .ref 55, .ref 56, .int 0, .int 0, .ref 57, .ref 58, .null]) (pc := 90) dX5_init_90 tw_812 rfl (by decide) rfl (by decide) (ov_at (p := 0) rfl rfl) (Nat.le_of_ble_eq_true rfl) rfl rfl rfl (fun _ => ⟨rfl, rfl⟩) rfl ?_
  rw [ov_set (p := 0) (Nat.le_of_ble_eq_true rfl) rfl]
  show AW _ _ _ _ _ _ _ 93 [.ref 47] [] (ov 47 [.inr (5, [.int 0, .int 0, .ref 48, .ref 49, .ref 50, .ref 51, .ref 52, .ref 53, .ref 54, .ref 55, .ref 56, .int 0, .int 0, .ref 57, .ref 58, .null]), .inl (.int, 30, .inl (fun _ => 0)), .inl (.int, 30, .inl (fun _ => 0)), .inl (.int, 30, .inl (fun _ => 0)), .inl (.int, 30, .inl (fun _ => 0)), .inl (.int, 30, .inl (fun _ => 0)), .inl (.int, 30, .inl (fun _ => 0)), .inl (.int, 30, .inl (fun _ => 0)), .inl (.int, 30, .inl (fun _ => 0)), .inl (.int, 342, .inl (fun _ => 0)), .inl (.int, 108, .inl (fun _ => 0)), .inl (.int, 24, .inl (fun _ => 0))] (ov 1 iX h0)) 59 _ _
  refine AW.aload_n (pc := 93) dX5_init_93 rfl rfl ?_
  refine AW.bipush (v := 24) (pc := 94) dX5_init_94 (by decide) ?_
  refine AW.newa (ty := .boolean) (N := 24) (a0 := (24, .inl (fun _ => 0))) (pc := 96) dX5_init_96 rfl (Or.inr (Or.inl rfl)) tw_128 (fun _ => rfl) (by decide) (by decide) (by decide) (by omega) (by omega) ?_
  rw [ov_push (k := 59) rfl]
  show AW _ _ _ _ _ _ _ 98 [.ref 47] [.ref 59, .ref 47] (ov 47 [.inr (5, [.int 0, .int 0, .ref 48, .ref 49, .ref 50, .ref 51, .ref 52, .ref 53, .ref 54, .ref 55, .ref 56, .int 0, .int 0, .ref 57, .ref 58, .null]), .inl (.int, 30, .inl (fun _ => 0)), .inl (.int, 30, .inl (fun _ => 0)), .inl (.int, 30, .inl (fun _ => 0)), .inl (.int, 30, .inl (fun _ => 0)), .inl (.int, 30, .inl (fun _ => 0)), .inl (.int, 30, .inl (fun _ => 0)), .inl (.int, 30, .inl (fun _ => 0)), .inl (.int, 30, .inl (fun _ => 0)), .inl (.int, 342, .inl (fun _ => 0)), .inl (.int, 108, .inl (fun _ => 0)), .inl (.int, 24, .inl (fun _ => 0)), .inl (.boolean, 24, .inl (fun _ => 0))] (ov 1 iX h0)) 60 _ _
  refine AW.putF (i := 47) (ci := 5) (f := 15) (N := 16) (C := RX5) (T := TX5) (fs' := [.int 0, .int 0, .ref 48, .ref 49, .ref 50, .ref 51, .ref 52, .ref 53, .ref 54, .ref 55, .ref 56, .int 0, .int 0, .ref 57, .ref 58, .ref 59]) (pc := 98) dX5_init_98 tw_813 rfl (by decide) rfl (by decide) (ov_at (p := 0) rfl rfl) (Nat.le_of_ble_eq_true rfl) rfl rfl rfl (fun _ => ⟨rfl, rfl⟩) rfl ?_
  rw [ov_set (p := 0) (Nat.le_of_ble_eq_true rfl) rfl]
  show AW _ _ _ _ _ _ _ 101 [.ref 47] [] (ov 47 [.inr (5, [.int 0, .int 0, .ref 48, .ref 49, .ref 50, .ref 51, .ref 52, .ref 53, .ref 54, .ref 55, .ref 56, .int 0, .int 0, .ref 57, .ref 58, .ref 59]), .inl (.int, 30, .inl (fun _ => 0)), .inl (.int, 30, .inl (fun _ => 0)), .inl (.int, 30, .inl (fun _ => 0)), .inl (.int, 30, .inl (fun _ => 0)), .inl (.int, 30, .inl (fun _ => 0)), .inl (.int, 30, .inl (fun _ => 0)), .inl (.int, 30, .inl (fun _ => 0)), .inl (.int, 30, .inl (fun _ => 0)), .inl (.int, 342, .inl (fun _ => 0)), .inl (.int, 108, .inl (fun _ => 0)), .inl (.int, 24, .inl (fun _ => 0)), .inl (.boolean, 24, .inl (fun _ => 0))] (ov 1 iX h0)) 60 _ _
  refine AW.aload_n (pc := 101) dX5_init_101 rfl rfl ?_
  refine AW.callV (pc := 102) (S' := []) dX5_init_102 (c0_M_clear (d := d - 1) (by omega) hw) ok_X5_clear tw_796 ts_31 tw_794 (by decide) (ov_at (p := 0) rfl rfl) (show aw_cl[5]? = some _ from rfl) rfl rfl (by omega) rfl (Nat.le_of_ble_eq_true rfl) (by omega) (by omega) ?_ (fun E h' k' hq => by obtain ⟨hv, -⟩ := hq; cases hv)
  intro v h' k' hq
  obtain ⟨hv, rfl, ex, m2, rfl, hK⟩ := hq
  cases hv
  exact AW.vret (pc := 105) dX5_init_105 rfl (by omega) (by omega) ⟨rfl, rfl, _, _, rfl, hK⟩
