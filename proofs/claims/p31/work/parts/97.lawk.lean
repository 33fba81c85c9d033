/-! the law's walk: three benches -/
section LAW
variable {Ls : Nat} {xs : Nat → Int32}
set_option maxRecDepth 100000 in
set_option maxHeartbeats 4000000 in
theorem law_go (hL : Ls ≤ 260) : ∀ h : Hp, AW (aw_ZL Ls xs) mlaw 2028 1 600074 7301550 aw_QL 0 (.ref 0 :: List.replicate 21 .null) [] h 1 0 0 := by
  have loop : ∀ (r t : Nat) (h : Hp) (cs ss : Nat), t + r = 3 → cs ≤ 25000 * t → ss ≤ 150000 * t → AW (aw_ZL Ls xs) mlaw 2028 1 600074 7301550 aw_QL 2 [.ref 0, .int (nI t), .null, .null, .null, .null, .null, .null, .null, .null, .null, .null, .null, .null, .null, .null, .null, .null, .null, .null, .null, .null] [] h 1 cs ss := by
    intro r
    induction r with
    | zero =>
      intro t h cs ss hr hc hs
      refine AW.iload_n (pc := 2) dL_law_2 rfl rfl ?_
      refine AW.iconst (v := 3) (pc := 3) dL_law_3 (by decide) ?_
      refine AW.icmp_ge (pc := 4) (tgt := 1165) dL_law_4 (by decide) (fun _ => ?_) (fun c => absurd (nI_le (a := 3) (by omega) (by omega)) c)
      refine AW.iconst (v := 1) (pc := 1165) dL_law_1165 (by decide) ?_
      exact AW.iret (pc := 1166) dL_law_1166 rfl (by decide) (by omega) (by omega) (rfl)
    | succ r ih =>
      intro t h cs ss hr hc hs
      have hk0 : 0 < 1 := by decide
      refine AW.iload_n (pc := 2) dL_law_2 rfl rfl ?_
      refine AW.iconst (v := 3) (pc := 3) dL_law_3 (by decide) ?_
      refine AW.icmp_ge (pc := 4) (tgt := 1165) dL_law_4 (by decide) (fun c => absurd c (nI_ge (b := 3) (by omega) (by decide))) (fun _ => ?_)
      refine AW.new (ci := 5) (N := 14) (C := RX5) (T := TX5) (fs := [.null, .null, .int 0, .int 0, .null, .int 0, .int 0, .int 0, .int 0, .int 0, .null, .null, .null, .null]) (pc := 7) dL_law_7 tw_424 tw_425 tw_1 rfl (by decide) (by simp) (by omega) (by omega) ?_
      show AW _ _ _ _ _ _ _ 10 [.ref 0, .int (nI t), .null, .null, .null, .null, .null, .null, .null, .null, .null, .null, .null, .null, .null, .null, .null, .null, .null, .null, .null, .null] [.ref 1] (va_up h 1 (.inr (5, [.null, .null, .int 0, .int 0, .null, .int 0, .int 0, .int 0, .int 0, .int 0, .null, .null, .null, .null]))) 2 (cs + 1) (ss + 14)
      refine AW.dup (pc := 10) dL_law_10 rfl ?_
      refine AW.aload_n (pc := 11) dL_law_11 rfl rfl ?_
      refine AW.bipush (v := 31) (pc := 12) dL_law_12 (by decide) ?_
      refine AW.iload_n (pc := 14) dL_law_14 rfl rfl ?_
      refine AW.imul (pc := 15) dL_law_15 ?_
      rw [show (31 : Int32) * nI t = nI (31 * t) from nI_mul 31 t]
      refine AW.bipush (v := 7) (pc := 16) dL_law_16 (by decide) ?_
      refine AW.iadd (pc := 18) dL_law_18 ?_
      rw [show nI (31 * t) + (7 : Int32) = nI (31 * t + 7) from nI_add (31 * t) 7]
      show AW _ _ _ _ _ _ _ 19 [.ref 0, .int (nI t), .null, .null, .null, .null, .null, .null, .null, .null, .null, .null, .null, .null, .null, .null, .null, .null, .null, .null, .null, .null] [.int (nI (31 * t + 7)), .ref 0, .ref 1, .ref 1] (va_up h 1 (.inr (5, [.null, .null, .int 0, .int 0, .null, .int 0, .int 0, .int 0, .int 0, .int 0, .null, .null, .null, .null]))) 2 (cs + 1) (ss + 14)
      refine AW.callI (pc := 19) (S' := [.ref 1]) dL_law_19 (c_B_init (d := 2027) (q := 31 * t + 7) (by decide) up_same) ok_X5_init tw_427 rfl rfl tw_426 rfl (by omega) rfl (Nat.le_of_ble_eq_true rfl) (by omega) (by omega) (fun E h' k' hq => by obtain ⟨hv, -⟩ := hq; cases hv) ?_
      intro v hA k' hq
      obtain ⟨hv, rfl, hF, h49, r51, h51⟩ := hq
      cases hv
      show AW _ _ _ _ _ _ _ 22 [.ref 0, .int (nI t), .null, .null, .null, .null, .null, .null, .null, .null, .null, .null, .null, .null, .null, .null, .null, .null, .null, .null, .null, .null] [.ref 1] hA 79 (cs + 1 + 77) (ss + 14 + 1437)
      obtain ⟨x, T0, m0_, g0, -, hB, -⟩ := id hF
      refine AW.astore_n (L' := [.ref 0, .int (nI t), .ref 1, .null, .null, .null, .null, .null, .null, .null, .null, .null, .null, .null, .null, .null, .null, .null, .null, .null, .null, .null]) (pc := 22) dL_law_22 rfl (by decide) rfl rfl ?_
      refine AW.aload_n (pc := 23) dL_law_23 rfl rfl ?_
      refine AW.get (pc := 24) (i := 1) (ci := 5) (f := 0) (N := 14) (C := RX5) (T := TX5) dL_law_24 tw_649 rfl (by decide) rfl (by decide) (hB.1) rfl ?_
      refine AW.astore_n (L' := [.ref 0, .int (nI t), .ref 1, .ref 2, .null, .null, .null, .null, .null, .null, .null, .null, .null, .null, .null, .null, .null, .null, .null, .null, .null, .null]) (pc := 27) dL_law_27 rfl (by decide) rfl rfl ?_
      refine AW.aload_n (pc := 28) dL_law_28 rfl rfl ?_
      refine AW.iconst (v := 0) (pc := 29) dL_law_29 (by decide) ?_
      refine AW.callVz (pc := 30) (S' := []) dL_law_30 (c_B_found (d := 2027) (by decide) hL hF (by omega)) hk0 ok_X5_found tw_707 tw_708 tw_706 (by decide) (hB.1) (show aw_cl[5]? = some _ from rfl) rfl rfl (by omega) rfl (Nat.le_of_ble_eq_true rfl) (by omega) (by omega) ?_ (fun E h' k' hq => by obtain ⟨hx9, -⟩ := hq; try cases hx9)
      intro v h' k' hq
      obtain ⟨hx9, n, q2, hn12, rfl, hq2, hF2⟩ := hq
      cases hx9
      show AW _ _ _ _ _ _ _ 33 [.ref 0, .int (nI t), .ref 1, .ref 2, .null, .null, .null, .null, .null, .null, .null, .null, .null, .null, .null, .null, .null, .null, .null, .null, .null, .null] [.int 1] h' (79 + n) ((cs + 1 + 77) + 119) ((ss + 14 + 1437) + 748)
      refine AW.if_eq (pc := 33) (tgt := 43) dL_law_33 (by decide) (fun c => absurd c (by decide)) (fun _ => ?_)
      obtain ⟨x2, T, m, g, e2, hB2, hT, hTG, hC, hI, hFB⟩ := hF2
      have hG := GD.of hT hTG hI (by omega)
      refine AW.aload_n (pc := 36) dL_law_36 rfl rfl ?_
      refine AW.callVH (pc := 37) (S' := []) dL_law_37 (c_B_start (d := 2027) (k := 79 + n) (by decide) (Nat.le_refl _) hG hT hTG hB2 e2 hC hI ((hFB 49 (by decide) (by decide)).trans h49) ((hFB 51 (by decide) (by decide)).trans h51)) ok_X5_start tw_785 tw_786 tw_784 (by decide) (hB2.1) (show aw_cl[5]? = some _ from rfl) rfl rfl (by omega) rfl (Nat.le_of_ble_eq_true rfl) (by omega) (by omega) ?_ (fun E h' k' hq => by obtain ⟨hx9, -⟩ := hq; try cases hx9)
      intro v h' k' hq
      obtain ⟨hx9, hk, m2, hM⟩ := hq
      cases hx9
      show AW _ _ _ _ _ _ _ 40 [.ref 0, .int (nI t), .ref 1, .ref 2, .null, .null, .null, .null, .null, .null, .null, .null, .null, .null, .null, .null, .null, .null, .null, .null, .null, .null] [.int 1] h' k' (((cs + 1 + 77) + 119) + 881) (((ss + 14 + 1437) + 748) + 15006)
      refine AW.if_ne (pc := 40) (tgt := 45) dL_law_40 (by decide) (fun _ => ?_) (fun c => absurd c (by decide))
      refine AW.iconst (v := 0) (pc := 45) dL_law_45 (by decide) ?_
      refine AW.istore (L' := [.ref 0, .int (nI t), .ref 1, .ref 2, .int (0 : Int32), .null, .null, .null, .null, .null, .null, .null, .null, .null, .null, .null, .null, .null, .null, .null, .null, .null]) (pc := 46) dL_law_46 (by decide) rfl rfl ?_
      obtain ⟨t1, t2, -, -⟩ := start_ok hG
      have h17 := hG.1
      refine law_arr (cs0 := (((cs + 1 + 77) + 119) + 881)) (ss0 := (((ss + 14 + 1437) + 748) + 15006)) hG hT hTG hk (by omega) (by omega) (fun h2 m3 cs2 ss2 hM2 hc2 hs2 => ?_) 24 0 _ _ _ _ (by decide) hM (by omega) (by omega)
      refine law_way hG hT hTG hk hM2 (by omega) (by omega) fun cs3 ss3 hc3 hs3 => ?_
      refine AW.iconst (v := 0) (pc := 336) dL_law_336 (by decide) ?_
      refine AW.istore (L' := [.ref 0, .int (nI t), .ref 1, .ref 2, .null, .int (0 : Int32), .null, .null, .null, .null, .null, .null, .null, .null, .null, .null, .null, .null, .null, .null, .null, .null]) (pc := 337) dL_law_337 (by decide) rfl rfl ?_
      refine law_steps (q0 := q2) (cs0 := cs3) (ss0 := ss3) hL hG hT hTG hk (by omega) (by omega) (by omega) (fun h4 cs4 ss4 hc4 hs4 => ?_) 10 0 0 n q2 _ _ _ _ _ (by decide) hM2 t1 t2 (by omega) (by omega) (by omega) (by omega) (by omega)
      refine AW.iinc (v := ((nI t) + 1)) (L' := [.ref 0, .int ((nI t) + 1), .null, .null, .null, .null, .null, .null, .null, .null, .null, .null, .null, .null, .null, .null, .null, .null, .null, .null, .null, .null]) (pc := 1159) dL_law_1159 rfl rfl (by decide) rfl rfl ?_
      rw [nI_1 t]
      refine AW.goto (pc := 1162) (tgt := 2) dL_law_1162 (by decide) ?_
      refine AW.forget (L' := [.ref 0, .int (nI (t + 1)), .null, .null, .null, .null, .null, .null, .null, .null, .null, .null, .null, .null, .null, .null, .null, .null, .null, .null, .null, .null]) (by decide) (by omega) rfl (fun i v h1 h2 => ⟨h1, ?_⟩) (fun i i0 i1 => absurd i1 (by omega)) (ih (t + 1) h4 _ _ (by omega) (by omega) (by omega))
      have hm := List.mem_of_getElem? h1
      simp at hm
      rcases hm with rfl | rfl | rfl
      · exact Nat.zero_lt_one
      · trivial
      · exact absurd rfl h2
  intro h
  refine AW.iconst (v := 0) (pc := 0) dL_law_0 (by decide) ?_
  refine AW.istore_n (L' := [.ref 0, .int (0 : Int32), .null, .null, .null, .null, .null, .null, .null, .null, .null, .null, .null, .null, .null, .null, .null, .null, .null, .null, .null, .null]) (pc := 1) dL_law_1 rfl (by decide) rfl rfl ?_
  exact loop 3 0 h _ _ (by decide) (by decide) (by decide)
end LAW
