/-! the law from its entry on -/
set_option maxRecDepth 100000 in
set_option maxHeartbeats 4000000 in
theorem law_go {Inv : Nat → Mem → Prop} (hI : ∀ (j : Nat) (m : Mem), j < 512 → Inv j m → ∀ (o : Nat → Int64) (p : Nat → Int32), w_law p o m (fun _ m2 => Inv (j + 1) m2)) (h0 : w_M_clear_9 m0 (fun m => Inv 0 m)) {n : Nat} {xs : Nat → Int32} (hn : n ≤ 3584) (h : Hp) : AW (aw_ZL n xs) mlaw 2028 1 601024 7293034 aw_QL 0 [.ref 0, .null, .null, .null, .null, .null, .null, .null, .null] [] h 1 0 0 := by
  refine AW.new (ci := 4) (N := 7) (C := RX4) (T := TX4) (fs := [.null, .null, .null, .null, .null, .null, .int 0]) (pc := 0) dL_law_0 tw_17 tw_18 tw_1 rfl (by decide) (by simp) (by omega) (by omega) ?_
  rw [← ov_nil 1 h, ov_push (k := 1) rfl]
  refine AW.dup (pc := 3) dL_law_3 rfl ?_
  refine AW.callI (pc := 4) (S' := [.ref 1]) dL_law_4 (c0_N_init_1 (d := 2027) (by omega)) ok_X4_init tw_20 rfl rfl tw_19 rfl (by omega) rfl (Nat.le_of_ble_eq_true rfl) (by omega) (by omega) (fun E h' k' hq => by obtain ⟨hv, -⟩ := hq; cases hv) ?_
  intro v h' k' hq
  obtain ⟨hv, rfl, rfl⟩ := hq
  cases hv
  show AW _ _ _ _ _ _ _ 7 [.ref 0, .null, .null, .null, .null, .null, .null, .null, .null] [.ref 1] (ov 1 iX h) 47 _ _
  refine AW.astore_n (L' := [.ref 0, .ref 1, .null, .null, .null, .null, .null, .null, .null]) (pc := 7) dL_law_7 rfl (by decide) rfl rfl ?_
  refine AW.new (ci := 5) (N := 16) (C := RX5) (T := TX5) (fs := [.int 0, .int 0, .null, .null, .null, .null, .null, .null, .null, .null, .null, .int 0, .int 0, .null, .null, .null]) (pc := 8) dL_law_8 tw_788 tw_789 tw_8 rfl (by decide) (by simp) (by omega) (by omega) ?_
  rw [← ov_nil 47 (ov 1 iX h), ov_push (k := 47) rfl]
  refine AW.dup (pc := 11) dL_law_11 rfl ?_
  refine AW.callI (pc := 12) (S' := [.ref 47]) dL_law_12 (c0_M_init (d := 2027) (by omega) h0) ok_X5_init tw_791 rfl rfl tw_790 rfl (by omega) rfl (Nat.le_of_ble_eq_true rfl) (by omega) (by omega) (fun E h' k' hq => by obtain ⟨hv, -⟩ := hq; cases hv) ?_
  intro v h' k' hq
  obtain ⟨hv, rfl, ex, m, rfl, hK⟩ := hq
  cases hv
  show AW _ _ _ _ _ _ _ 15 [.ref 0, .ref 1, .null, .null, .null, .null, .null, .null, .null] [.ref 47] (lay 60 ex (fun _ => 0) m) 61 _ _
  refine AW.astore_n (L' := [.ref 0, .ref 1, .ref 47, .null, .null, .null, .null, .null, .null]) (pc := 15) dL_law_15 rfl (by decide) rfl rfl ?_
  refine AW.iconst (v := 1) (pc := 16) dL_law_16 (by decide) ?_
  refine AW.newa (ty := .long) (N := 1) (a0 := (1, .inr (.inl (fun _ => 0)))) (pc := 17) dL_law_17 rfl (Or.inr (Or.inr rfl)) tw_1126 (fun _ => rfl) (by decide) (by decide) (by decide) (by omega) (by omega) ?_
  rw [lay_upo (Or.inl rfl)]
  refine AW.astore_n (L' := [.ref 0, .ref 1, .ref 47, .ref 61, .null, .null, .null, .null, .null]) (pc := 19) dL_law_19 rfl (by decide) rfl rfl ?_
  refine AW.iconst (v := 0) (pc := 20) dL_law_20 (by decide) ?_
  refine AW.istore (L' := [.ref 0, .ref 1, .ref 47, .ref 61, .int (nI (7 * 0)), .null, .null, .null, .null]) (pc := 21) dL_law_21 (by decide) rfl rfl ?_
  exact law_loop hI hn (by decide) (by decide) 512 0 60 62 _ _ ex _ m rfl (Or.inl rfl) ⟨by decide, by decide⟩ hK (by omega) (by omega)
