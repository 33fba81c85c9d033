/-! the law's walk: the way -/
section LAW
variable {Ls : Nat} {xs : Nat → Int32} {T : Nat → Nat → Int32} {g m : Mem} {n k t q cs ss : Nat} {h : Hp} {ρ : Rw}
set_option maxRecDepth 100000 in
set_option maxHeartbeats 4000000 in
theorem law_way {cs0 ss0 : Nat} (hG : GD g n) (hT : gT T n) (hTG : TG T g n) (hk : 79 + n ≤ k) (hM : LM T g n h q ρ m) (hcs : cs0 + 60 ≤ 600074) (hss : ss0 + 400 ≤ 7301550) (Kend : ∀ (cs2 ss2 : Nat), cs2 ≤ cs0 + 60 → ss2 ≤ ss0 + 400 → AW (aw_ZL Ls xs) mlaw 2028 1 600074 7301550 aw_QL 336 [.ref 0, .int (nI t), .ref 1, .ref 2, .null, .null, .null, .null, .null, .null, .null, .null, .null, .null, .null, .null, .null, .null, .null, .null, .null, .null] [] h k cs2 ss2) : AW (aw_ZL Ls xs) mlaw 2028 1 600074 7301550 aw_QL 205 [.ref 0, .int (nI t), .ref 1, .ref 2, .int (nI 24), .null, .null, .null, .null, .null, .null, .null, .null, .null, .null, .null, .null, .null, .null, .null, .null, .null] [] h k cs0 ss0 := by
  have h17 := hG.1
  obtain ⟨Lo, q0, eLo, hLo, -, hq0, e0, hq0L⟩ := hG.top
  have h0 : S_way g n (AR g n (g 53)) 0 = nI q0 := by rw [show (0 : Int32) = nI 0 from rfl, way_lo (by decide)]; exact e0
  have loop : ∀ (r p w : Nat) (cs ss : Nat), p + r = 23 → p < 24 → w < n → S_way g n (AR g n (g 53)) (nI p) = nI w → cs ≤ cs0 + 2 * p → ss ≤ ss0 + 12 * p → AW (aw_ZL Ls xs) mlaw 2028 1 600074 7301550 aw_QL 208 [.ref 0, .int (nI t), .ref 1, .ref 2, .int (nI p), .null, .null, .null, .null, .null, .null, .null, .null, .null, .null, .null, .null, .null, .null, .null, .null, .null] [] h k cs ss := by
    intro r
    induction r with
    | zero =>
      intro p w cs ss hr hp hwn hw hc hs
      have hwn2 : w < n := hwn
      obtain ⟨hk0, hw1⟩ | ⟨h24, hk0, v, hv, hv1, hu, hle⟩ := hG.step hp hwn hw
      · obtain ⟨x, pe, hz, e2, hB⟩ := hM.2.2.2.2
        refine AW.aload_n (pc := 208) dL_law_208 rfl rfl ?_
        refine AW.iload (pc := 209) dL_law_209 rfl ?_
        refine AW.iconst (v := 1) (pc := 211) dL_law_211 (by decide) ?_
        refine AW.iadd (pc := 212) dL_law_212 ?_
        rw [nI_1 p]
        refine AW.callRd (pc := 213) (S' := []) dL_law_213 (l_way (d := 2027) hM (by decide)) hM.1 (by omega) (by simp [aw_ok]) ok_X4_way tw_109 tw_110 tw_108 rfl rfl (by omega) rfl (Nat.le_of_ble_eq_true rfl) (by omega) (by omega) ?_
        show AW _ _ _ _ _ _ _ 216 [.ref 0, .int (nI t), .ref 1, .ref 2, .int (nI p), .null, .null, .null, .null, .null, .null, .null, .null, .null, .null, .null, .null, .null, .null, .null, .null, .null] [.int (S_way g n (AR g n (g 53)) (nI (p + 1)))] h k (cs + 0) (ss + 0)
        rw [hw1]
        show AW _ _ _ _ _ _ _ 216 [.ref 0, .int (nI t), .ref 1, .ref 2, .int (nI p), .null, .null, .null, .null, .null, .null, .null, .null, .null, .null, .null, .null, .null, .null, .null, .null, .null] [.int (-1)] h k (cs + 0) (ss + 0)
        refine AW.if_lt (pc := 216) (tgt := 301) dL_law_216 (by decide) (fun _ => ?_) (fun c => absurd (by decide) c)
        refine AW.aload_n (pc := 301) dL_law_301 rfl rfl ?_
        refine AW.aload_n (pc := 302) dL_law_302 rfl rfl ?_
        refine AW.aload_n (pc := 303) dL_law_303 rfl rfl ?_
        refine AW.iload (pc := 304) dL_law_304 rfl ?_
        refine AW.callRd (pc := 306) (S' := [.ref 1, .ref 1]) dL_law_306 (l_way (d := 2027) hM (by decide)) hM.1 (by omega) (by simp [aw_ok]) ok_X4_way tw_109 tw_110 tw_108 rfl rfl (by omega) rfl (Nat.le_of_ble_eq_true rfl) (by omega) (by omega) ?_
        show AW _ _ _ _ _ _ _ 309 [.ref 0, .int (nI t), .ref 1, .ref 2, .int (nI p), .null, .null, .null, .null, .null, .null, .null, .null, .null, .null, .null, .null, .null, .null, .null, .null, .null] [.int (S_way g n (AR g n (g 53)) (nI p)), .ref 1, .ref 1] h k ((cs + 0) + 0) ((ss + 0) + 0)
        rw [hw]
        show AW _ _ _ _ _ _ _ 309 [.ref 0, .int (nI t), .ref 1, .ref 2, .int (nI p), .null, .null, .null, .null, .null, .null, .null, .null, .null, .null, .null, .null, .null, .null, .null, .null, .null] [.int (nI w), .ref 1, .ref 1] h k ((cs + 0) + 0) ((ss + 0) + 0)
        refine AW.callV (pc := 309) (S' := [.ref 1]) dL_law_309 (c_B_driver (d := 2027) hB (fun l hl => (hT.2 l hl).1) (by omega)) ok_X5_driver tw_781 tw_782 tw_780 (by decide) (hB.1) (show aw_cl[5]? = some _ from rfl) rfl rfl (by omega) rfl (Nat.le_of_ble_eq_true rfl) (by omega) (by omega) ?_ (fun E h' k' hq => by obtain ⟨hx9, -⟩ := hq; try cases hx9)
        intro v h' k' hq
        obtain ⟨hx9, rfl, rfl⟩ := hq
        cases hx9
        show AW _ _ _ _ _ _ _ 312 [.ref 0, .int (nI t), .ref 1, .ref 2, .int (nI p), .null, .null, .null, .null, .null, .null, .null, .null, .null, .null, .null, .null, .null, .null, .null, .null, .null] [.int (if w < n then nI w else -1), .ref 1] h k ((cs + 0) + 0) ((ss + 0) + 0)
        rw [if_pos hwn]
        refine AW.callV (pc := 312) (S' := []) dL_law_312 (c_B_isGate (d := 2027) hB hwn) ok_X5_isGate tw_773 tw_774 tw_772 (by decide) (hB.1) (show aw_cl[5]? = some _ from rfl) rfl rfl (by omega) rfl (Nat.le_of_ble_eq_true rfl) (by omega) (by omega) ?_ (fun E h' k' hq => by obtain ⟨hx9, -⟩ := hq; try cases hx9)
        intro v h' k' hq
        obtain ⟨hx9, rfl, rfl⟩ := hq
        cases hx9
        show AW _ _ _ _ _ _ _ 315 [.ref 0, .int (nI t), .ref 1, .ref 2, .int (nI p), .null, .null, .null, .null, .null, .null, .null, .null, .null, .null, .null, .null, .null, .null, .null, .null, .null] [.int (if T w 0 < 0 then 0 else 1)] h k ((cs + 0) + 0) ((ss + 0) + 0)
        rw [if_pos (show T w 0 < 0 by rw [← (hTG.1 w hwn).1]; exact hk0)]
        refine AW.if_ne (pc := 315) (tgt := 334) dL_law_315 (by decide) (fun c => absurd (rfl) c) (fun _ => ?_)
        refine AW.aload_n (pc := 318) dL_law_318 rfl rfl ?_
        refine AW.aload_n (pc := 319) dL_law_319 rfl rfl ?_
        refine AW.iconst (v := 0) (pc := 320) dL_law_320 (by decide) ?_
        refine AW.callRd (pc := 321) (S' := [.ref 2]) dL_law_321 (l_way (d := 2027) hM (by decide)) hM.1 (by omega) (by simp [aw_ok]) ok_X4_way tw_109 tw_110 tw_108 rfl rfl (by omega) rfl (Nat.le_of_ble_eq_true rfl) (by omega) (by omega) ?_
        show AW _ _ _ _ _ _ _ 324 [.ref 0, .int (nI t), .ref 1, .ref 2, .int (nI p), .null, .null, .null, .null, .null, .null, .null, .null, .null, .null, .null, .null, .null, .null, .null, .null, .null] [.int (S_way g n (AR g n (g 53)) (0 : Int32)), .ref 2] h k (((cs + 0) + 0) + 0) (((ss + 0) + 0) + 0)
        rw [h0]
        show AW _ _ _ _ _ _ _ 324 [.ref 0, .int (nI t), .ref 1, .ref 2, .int (nI p), .null, .null, .null, .null, .null, .null, .null, .null, .null, .null, .null, .null, .null, .null, .null, .null, .null] [.int (nI q0), .ref 2] h k (((cs + 0) + 0) + 0) (((ss + 0) + 0) + 0)
        refine AW.callRd (pc := 324) (S' := []) dL_law_324 (l_arrival (d := 2027) hM (by decide) (by omega)) hM.1 (by omega) (by simp [aw_ok]) ok_X4_arrival tw_18 tw_19 tw_17 rfl rfl (by omega) rfl (Nat.le_of_ble_eq_true rfl) (by omega) (by omega) ?_
        show AW _ _ _ _ _ _ _ 327 [.ref 0, .int (nI t), .ref 1, .ref 2, .int (nI p), .null, .null, .null, .null, .null, .null, .null, .null, .null, .null, .null, .null, .null, .null, .null, .null, .null] [.int (AR g n (g 53) q0)] h k ((((cs + 0) + 0) + 0) + 1) ((((ss + 0) + 0) + 0) + 6)
        rw [(hG.ar (w := q0) (by omega)).1]
        show AW _ _ _ _ _ _ _ 327 [.ref 0, .int (nI t), .ref 1, .ref 2, .int (nI p), .null, .null, .null, .null, .null, .null, .null, .null, .null, .null, .null, .null, .null, .null, .null, .null, .null] [.int (nI (av g n q0))] h k ((((cs + 0) + 0) + 0) + 1) ((((ss + 0) + 0) + 0) + 6)
        refine AW.aload_n (pc := 327) dL_law_327 rfl rfl ?_
        refine AW.callRd (pc := 328) (S' := [.int (nI (av g n q0))]) dL_law_328 (l_longest (d := 2027) hM (by decide)) hM.1 (by omega) (by simp [aw_ok]) ok_X4_longest tw_98 tw_99 tw_97 rfl rfl (by omega) rfl (Nat.le_of_ble_eq_true rfl) (by omega) (by omega) ?_
        show AW _ _ _ _ _ _ _ 331 [.ref 0, .int (nI t), .ref 1, .ref 2, .int (nI p), .null, .null, .null, .null, .null, .null, .null, .null, .null, .null, .null, .null, .null, .null, .null, .null, .null] [.int (S_lng (AR g n (g 53)) 24 0 0), .int (nI (av g n q0))] h k (((((cs + 0) + 0) + 0) + 1) + 0) (((((ss + 0) + 0) + 0) + 6) + 0)
        rw [eLo]
        refine AW.icmp_eq (pc := 331) (tgt := 336) dL_law_331 (by decide) (fun _ => ?_) (fun c => absurd (congrArg nI hq0L) c)
        refine AW.locals (L' := [.ref 0, .int (nI t), .ref 1, .ref 2, .null, .null, .null, .null, .null, .null, .null, .null, .null, .null, .null, .null, .null, .null, .null, .null, .null, .null]) (aw_fewer_same (aw_fewer_same (aw_fewer_same (aw_fewer_same (aw_fewer_null (aw_fewer_null (aw_fewer_null (aw_fewer_null (aw_fewer_null (aw_fewer_null (aw_fewer_null (aw_fewer_null (aw_fewer_null (aw_fewer_null (aw_fewer_null (aw_fewer_null (aw_fewer_null (aw_fewer_null (aw_fewer_null (aw_fewer_null (aw_fewer_null (aw_fewer_null aw_fewer_nil)))))))))))))))))))))) ?_
        exact Kend _ _ (by omega) (by omega)
      · exact absurd h24 (by omega)
    | succ r ih =>
      intro p w cs ss hr hp hwn0 hw hc hs
      have hwn : w < n := hwn0
      obtain ⟨hk0, hw1⟩ | ⟨h24, hk0, v, hv, hv1, hu, hle⟩ := hG.step hp hwn hw
      · obtain ⟨x, pe, hz, e2, hB⟩ := hM.2.2.2.2
        refine AW.aload_n (pc := 208) dL_law_208 rfl rfl ?_
        refine AW.iload (pc := 209) dL_law_209 rfl ?_
        refine AW.iconst (v := 1) (pc := 211) dL_law_211 (by decide) ?_
        refine AW.iadd (pc := 212) dL_law_212 ?_
        rw [nI_1 p]
        refine AW.callRd (pc := 213) (S' := []) dL_law_213 (l_way (d := 2027) hM (by decide)) hM.1 (by omega) (by simp [aw_ok]) ok_X4_way tw_109 tw_110 tw_108 rfl rfl (by omega) rfl (Nat.le_of_ble_eq_true rfl) (by omega) (by omega) ?_
        show AW _ _ _ _ _ _ _ 216 [.ref 0, .int (nI t), .ref 1, .ref 2, .int (nI p), .null, .null, .null, .null, .null, .null, .null, .null, .null, .null, .null, .null, .null, .null, .null, .null, .null] [.int (S_way g n (AR g n (g 53)) (nI (p + 1)))] h k (cs + 0) (ss + 0)
        rw [hw1]
        show AW _ _ _ _ _ _ _ 216 [.ref 0, .int (nI t), .ref 1, .ref 2, .int (nI p), .null, .null, .null, .null, .null, .null, .null, .null, .null, .null, .null, .null, .null, .null, .null, .null, .null] [.int (-1)] h k (cs + 0) (ss + 0)
        refine AW.if_lt (pc := 216) (tgt := 301) dL_law_216 (by decide) (fun _ => ?_) (fun c => absurd (by decide) c)
        refine AW.aload_n (pc := 301) dL_law_301 rfl rfl ?_
        refine AW.aload_n (pc := 302) dL_law_302 rfl rfl ?_
        refine AW.aload_n (pc := 303) dL_law_303 rfl rfl ?_
        refine AW.iload (pc := 304) dL_law_304 rfl ?_
        refine AW.callRd (pc := 306) (S' := [.ref 1, .ref 1]) dL_law_306 (l_way (d := 2027) hM (by decide)) hM.1 (by omega) (by simp [aw_ok]) ok_X4_way tw_109 tw_110 tw_108 rfl rfl (by omega) rfl (Nat.le_of_ble_eq_true rfl) (by omega) (by omega) ?_
        show AW _ _ _ _ _ _ _ 309 [.ref 0, .int (nI t), .ref 1, .ref 2, .int (nI p), .null, .null, .null, .null, .null, .null, .null, .null, .null, .null, .null, .null, .null, .null, .null, .null, .null] [.int (S_way g n (AR g n (g 53)) (nI p)), .ref 1, .ref 1] h k ((cs + 0) + 0) ((ss + 0) + 0)
        rw [hw]
        show AW _ _ _ _ _ _ _ 309 [.ref 0, .int (nI t), .ref 1, .ref 2, .int (nI p), .null, .null, .null, .null, .null, .null, .null, .null, .null, .null, .null, .null, .null, .null, .null, .null, .null] [.int (nI w), .ref 1, .ref 1] h k ((cs + 0) + 0) ((ss + 0) + 0)
        refine AW.callV (pc := 309) (S' := [.ref 1]) dL_law_309 (c_B_driver (d := 2027) hB (fun l hl => (hT.2 l hl).1) (by omega)) ok_X5_driver tw_781 tw_782 tw_780 (by decide) (hB.1) (show aw_cl[5]? = some _ from rfl) rfl rfl (by omega) rfl (Nat.le_of_ble_eq_true rfl) (by omega) (by omega) ?_ (fun E h' k' hq => by obtain ⟨hx9, -⟩ := hq; try cases hx9)
        intro v h' k' hq
        obtain ⟨hx9, rfl, rfl⟩ := hq
        cases hx9
        show AW _ _ _ _ _ _ _ 312 [.ref 0, .int (nI t), .ref 1, .ref 2, .int (nI p), .null, .null, .null, .null, .null, .null, .null, .null, .null, .null, .null, .null, .null, .null, .null, .null, .null] [.int (if w < n then nI w else -1), .ref 1] h k ((cs + 0) + 0) ((ss + 0) + 0)
        rw [if_pos hwn]
        refine AW.callV (pc := 312) (S' := []) dL_law_312 (c_B_isGate (d := 2027) hB hwn) ok_X5_isGate tw_773 tw_774 tw_772 (by decide) (hB.1) (show aw_cl[5]? = some _ from rfl) rfl rfl (by omega) rfl (Nat.le_of_ble_eq_true rfl) (by omega) (by omega) ?_ (fun E h' k' hq => by obtain ⟨hx9, -⟩ := hq; try cases hx9)
        intro v h' k' hq
        obtain ⟨hx9, rfl, rfl⟩ := hq
        cases hx9
        show AW _ _ _ _ _ _ _ 315 [.ref 0, .int (nI t), .ref 1, .ref 2, .int (nI p), .null, .null, .null, .null, .null, .null, .null, .null, .null, .null, .null, .null, .null, .null, .null, .null, .null] [.int (if T w 0 < 0 then 0 else 1)] h k ((cs + 0) + 0) ((ss + 0) + 0)
        rw [if_pos (show T w 0 < 0 by rw [← (hTG.1 w hwn).1]; exact hk0)]
        refine AW.if_ne (pc := 315) (tgt := 334) dL_law_315 (by decide) (fun c => absurd (rfl) c) (fun _ => ?_)
        refine AW.aload_n (pc := 318) dL_law_318 rfl rfl ?_
        refine AW.aload_n (pc := 319) dL_law_319 rfl rfl ?_
        refine AW.iconst (v := 0) (pc := 320) dL_law_320 (by decide) ?_
        refine AW.callRd (pc := 321) (S' := [.ref 2]) dL_law_321 (l_way (d := 2027) hM (by decide)) hM.1 (by omega) (by simp [aw_ok]) ok_X4_way tw_109 tw_110 tw_108 rfl rfl (by omega) rfl (Nat.le_of_ble_eq_true rfl) (by omega) (by omega) ?_
        show AW _ _ _ _ _ _ _ 324 [.ref 0, .int (nI t), .ref 1, .ref 2, .int (nI p), .null, .null, .null, .null, .null, .null, .null, .null, .null, .null, .null, .null, .null, .null, .null, .null, .null] [.int (S_way g n (AR g n (g 53)) (0 : Int32)), .ref 2] h k (((cs + 0) + 0) + 0) (((ss + 0) + 0) + 0)
        rw [h0]
        show AW _ _ _ _ _ _ _ 324 [.ref 0, .int (nI t), .ref 1, .ref 2, .int (nI p), .null, .null, .null, .null, .null, .null, .null, .null, .null, .null, .null, .null, .null, .null, .null, .null, .null] [.int (nI q0), .ref 2] h k (((cs + 0) + 0) + 0) (((ss + 0) + 0) + 0)
        refine AW.callRd (pc := 324) (S' := []) dL_law_324 (l_arrival (d := 2027) hM (by decide) (by omega)) hM.1 (by omega) (by simp [aw_ok]) ok_X4_arrival tw_18 tw_19 tw_17 rfl rfl (by omega) rfl (Nat.le_of_ble_eq_true rfl) (by omega) (by omega) ?_
        show AW _ _ _ _ _ _ _ 327 [.ref 0, .int (nI t), .ref 1, .ref 2, .int (nI p), .null, .null, .null, .null, .null, .null, .null, .null, .null, .null, .null, .null, .null, .null, .null, .null, .null] [.int (AR g n (g 53) q0)] h k ((((cs + 0) + 0) + 0) + 1) ((((ss + 0) + 0) + 0) + 6)
        rw [(hG.ar (w := q0) (by omega)).1]
        show AW _ _ _ _ _ _ _ 327 [.ref 0, .int (nI t), .ref 1, .ref 2, .int (nI p), .null, .null, .null, .null, .null, .null, .null, .null, .null, .null, .null, .null, .null, .null, .null, .null, .null] [.int (nI (av g n q0))] h k ((((cs + 0) + 0) + 0) + 1) ((((ss + 0) + 0) + 0) + 6)
        refine AW.aload_n (pc := 327) dL_law_327 rfl rfl ?_
        refine AW.callRd (pc := 328) (S' := [.int (nI (av g n q0))]) dL_law_328 (l_longest (d := 2027) hM (by decide)) hM.1 (by omega) (by simp [aw_ok]) ok_X4_longest tw_98 tw_99 tw_97 rfl rfl (by omega) rfl (Nat.le_of_ble_eq_true rfl) (by omega) (by omega) ?_
        show AW _ _ _ _ _ _ _ 331 [.ref 0, .int (nI t), .ref 1, .ref 2, .int (nI p), .null, .null, .null, .null, .null, .null, .null, .null, .null, .null, .null, .null, .null, .null, .null, .null, .null] [.int (S_lng (AR g n (g 53)) 24 0 0), .int (nI (av g n q0))] h k (((((cs + 0) + 0) + 0) + 1) + 0) (((((ss + 0) + 0) + 0) + 6) + 0)
        rw [eLo]
        refine AW.icmp_eq (pc := 331) (tgt := 336) dL_law_331 (by decide) (fun _ => ?_) (fun c => absurd (congrArg nI hq0L) c)
        refine AW.locals (L' := [.ref 0, .int (nI t), .ref 1, .ref 2, .null, .null, .null, .null, .null, .null, .null, .null, .null, .null, .null, .null, .null, .null, .null, .null, .null, .null]) (aw_fewer_same (aw_fewer_same (aw_fewer_same (aw_fewer_same (aw_fewer_null (aw_fewer_null (aw_fewer_null (aw_fewer_null (aw_fewer_null (aw_fewer_null (aw_fewer_null (aw_fewer_null (aw_fewer_null (aw_fewer_null (aw_fewer_null (aw_fewer_null (aw_fewer_null (aw_fewer_null (aw_fewer_null (aw_fewer_null (aw_fewer_null (aw_fewer_null aw_fewer_nil)))))))))))))))))))))) ?_
        exact Kend _ _ (by omega) (by omega)
      · unfold S_uses at hu
        rw [(hTG.1 w hwn).2.2.1, (hTG.1 w hwn).2.2.2.1, (hTG.1 w hwn).2.2.2.2.1] at hu
        obtain ⟨x, pe, hz, e2, hB⟩ := hM.2.2.2.2
        refine AW.aload_n (pc := 208) dL_law_208 rfl rfl ?_
        refine AW.iload (pc := 209) dL_law_209 rfl ?_
        refine AW.iconst (v := 1) (pc := 211) dL_law_211 (by decide) ?_
        refine AW.iadd (pc := 212) dL_law_212 ?_
        rw [nI_1 p]
        refine AW.callRd (pc := 213) (S' := []) dL_law_213 (l_way (d := 2027) hM (by decide)) hM.1 (by omega) (by simp [aw_ok]) ok_X4_way tw_109 tw_110 tw_108 rfl rfl (by omega) rfl (Nat.le_of_ble_eq_true rfl) (by omega) (by omega) ?_
        show AW _ _ _ _ _ _ _ 216 [.ref 0, .int (nI t), .ref 1, .ref 2, .int (nI p), .null, .null, .null, .null, .null, .null, .null, .null, .null, .null, .null, .null, .null, .null, .null, .null, .null] [.int (S_way g n (AR g n (g 53)) (nI (p + 1)))] h k (cs + 0) (ss + 0)
        rw [hv1]
        show AW _ _ _ _ _ _ _ 216 [.ref 0, .int (nI t), .ref 1, .ref 2, .int (nI p), .null, .null, .null, .null, .null, .null, .null, .null, .null, .null, .null, .null, .null, .null, .null, .null, .null] [.int (nI v)] h k (cs + 0) (ss + 0)
        refine AW.if_lt (pc := 216) (tgt := 301) dL_law_216 (by decide) (fun c => absurd c (nI_pos (by omega))) (fun _ => ?_)
        refine AW.iload (pc := 219) dL_law_219 rfl ?_
        refine AW.bipush (v := 24) (pc := 221) dL_law_221 (by decide) ?_
        refine AW.icmp_gt (pc := 223) (tgt := 293) dL_law_223 (by decide) (fun c => absurd c (fun e => absurd ((nI_ltI (a := 24) (by decide) (by omega)).mp e) (by omega))) (fun _ => ?_)
        refine AW.aload_n (pc := 226) dL_law_226 rfl rfl ?_
        refine AW.aload_n (pc := 227) dL_law_227 rfl rfl ?_
        refine AW.aload_n (pc := 228) dL_law_228 rfl rfl ?_
        refine AW.iload (pc := 229) dL_law_229 rfl ?_
        refine AW.callRd (pc := 231) (S' := [.ref 1, .ref 1]) dL_law_231 (l_way (d := 2027) hM (by decide)) hM.1 (by omega) (by simp [aw_ok]) ok_X4_way tw_109 tw_110 tw_108 rfl rfl (by omega) rfl (Nat.le_of_ble_eq_true rfl) (by omega) (by omega) ?_
        show AW _ _ _ _ _ _ _ 234 [.ref 0, .int (nI t), .ref 1, .ref 2, .int (nI p), .null, .null, .null, .null, .null, .null, .null, .null, .null, .null, .null, .null, .null, .null, .null, .null, .null] [.int (S_way g n (AR g n (g 53)) (nI p)), .ref 1, .ref 1] h k ((cs + 0) + 0) ((ss + 0) + 0)
        rw [hw]
        show AW _ _ _ _ _ _ _ 234 [.ref 0, .int (nI t), .ref 1, .ref 2, .int (nI p), .null, .null, .null, .null, .null, .null, .null, .null, .null, .null, .null, .null, .null, .null, .null, .null, .null] [.int (nI w), .ref 1, .ref 1] h k ((cs + 0) + 0) ((ss + 0) + 0)
        refine AW.callV (pc := 234) (S' := [.ref 1]) dL_law_234 (c_B_driver (d := 2027) hB (fun l hl => (hT.2 l hl).1) (by omega)) ok_X5_driver tw_781 tw_782 tw_780 (by decide) (hB.1) (show aw_cl[5]? = some _ from rfl) rfl rfl (by omega) rfl (Nat.le_of_ble_eq_true rfl) (by omega) (by omega) ?_ (fun E h' k' hq => by obtain ⟨hx9, -⟩ := hq; try cases hx9)
        intro v h' k' hq
        obtain ⟨hx9, rfl, rfl⟩ := hq
        cases hx9
        show AW _ _ _ _ _ _ _ 237 [.ref 0, .int (nI t), .ref 1, .ref 2, .int (nI p), .null, .null, .null, .null, .null, .null, .null, .null, .null, .null, .null, .null, .null, .null, .null, .null, .null] [.int (if w < n then nI w else -1), .ref 1] h k ((cs + 0) + 0) ((ss + 0) + 0)
        rw [if_pos hwn]
        refine AW.callV (pc := 237) (S' := []) dL_law_237 (c_B_isGate (d := 2027) hB hwn) ok_X5_isGate tw_773 tw_774 tw_772 (by decide) (hB.1) (show aw_cl[5]? = some _ from rfl) rfl rfl (by omega) rfl (Nat.le_of_ble_eq_true rfl) (by omega) (by omega) ?_ (fun E h' k' hq => by obtain ⟨hx9, -⟩ := hq; try cases hx9)
        intro v h' k' hq
        obtain ⟨hx9, rfl, rfl⟩ := hq
        cases hx9
        show AW _ _ _ _ _ _ _ 240 [.ref 0, .int (nI t), .ref 1, .ref 2, .int (nI p), .null, .null, .null, .null, .null, .null, .null, .null, .null, .null, .null, .null, .null, .null, .null, .null, .null] [.int (if T w 0 < 0 then 0 else 1)] h k ((cs + 0) + 0) ((ss + 0) + 0)
        rw [if_neg (show ¬ T w 0 < 0 by rw [← (hTG.1 w hwn).1]; exact hk0)]
        refine AW.if_eq (pc := 240) (tgt := 293) dL_law_240 (by decide) (fun c => absurd c (by decide)) (fun _ => ?_)
        refine AW.aload_n (pc := 243) dL_law_243 rfl rfl ?_
        refine AW.aload_n (pc := 244) dL_law_244 rfl rfl ?_
        refine AW.aload_n (pc := 245) dL_law_245 rfl rfl ?_
        refine AW.iload (pc := 246) dL_law_246 rfl ?_
        refine AW.callRd (pc := 248) (S' := [.ref 1, .ref 1]) dL_law_248 (l_way (d := 2027) hM (by decide)) hM.1 (by omega) (by simp [aw_ok]) ok_X4_way tw_109 tw_110 tw_108 rfl rfl (by omega) rfl (Nat.le_of_ble_eq_true rfl) (by omega) (by omega) ?_
        show AW _ _ _ _ _ _ _ 251 [.ref 0, .int (nI t), .ref 1, .ref 2, .int (nI p), .null, .null, .null, .null, .null, .null, .null, .null, .null, .null, .null, .null, .null, .null, .null, .null, .null] [.int (S_way g n (AR g n (g 53)) (nI p)), .ref 1, .ref 1] h k (((cs + 0) + 0) + 0) (((ss + 0) + 0) + 0)
        rw [hw]
        show AW _ _ _ _ _ _ _ 251 [.ref 0, .int (nI t), .ref 1, .ref 2, .int (nI p), .null, .null, .null, .null, .null, .null, .null, .null, .null, .null, .null, .null, .null, .null, .null, .null, .null] [.int (nI w), .ref 1, .ref 1] h k (((cs + 0) + 0) + 0) (((ss + 0) + 0) + 0)
        refine AW.callV (pc := 251) (S' := [.ref 1]) dL_law_251 (c_B_driver (d := 2027) hB (fun l hl => (hT.2 l hl).1) (by omega)) ok_X5_driver tw_781 tw_782 tw_780 (by decide) (hB.1) (show aw_cl[5]? = some _ from rfl) rfl rfl (by omega) rfl (Nat.le_of_ble_eq_true rfl) (by omega) (by omega) ?_ (fun E h' k' hq => by obtain ⟨hx9, -⟩ := hq; try cases hx9)
        intro v h' k' hq
        obtain ⟨hx9, rfl, rfl⟩ := hq
        cases hx9
        show AW _ _ _ _ _ _ _ 254 [.ref 0, .int (nI t), .ref 1, .ref 2, .int (nI p), .null, .null, .null, .null, .null, .null, .null, .null, .null, .null, .null, .null, .null, .null, .null, .null, .null] [.int (if w < n then nI w else -1), .ref 1] h k (((cs + 0) + 0) + 0) (((ss + 0) + 0) + 0)
        rw [if_pos hwn]
        refine AW.aload_n (pc := 254) dL_law_254 rfl rfl ?_
        refine AW.iload (pc := 255) dL_law_255 rfl ?_
        refine AW.iconst (v := 1) (pc := 257) dL_law_257 (by decide) ?_
        refine AW.iadd (pc := 258) dL_law_258 ?_
        rw [nI_1 p]
        refine AW.callRd (pc := 259) (S' := [.int (nI w), .ref 1]) dL_law_259 (l_way (d := 2027) hM (by decide)) hM.1 (by omega) (by simp [aw_ok]) ok_X4_way tw_109 tw_110 tw_108 rfl rfl (by omega) rfl (Nat.le_of_ble_eq_true rfl) (by omega) (by omega) ?_
        show AW _ _ _ _ _ _ _ 262 [.ref 0, .int (nI t), .ref 1, .ref 2, .int (nI p), .null, .null, .null, .null, .null, .null, .null, .null, .null, .null, .null, .null, .null, .null, .null, .null, .null] [.int (S_way g n (AR g n (g 53)) (nI (p + 1))), .int (nI w), .ref 1] h k ((((cs + 0) + 0) + 0) + 0) ((((ss + 0) + 0) + 0) + 0)
        rw [hv1]
        show AW _ _ _ _ _ _ _ 262 [.ref 0, .int (nI t), .ref 1, .ref 2, .int (nI p), .null, .null, .null, .null, .null, .null, .null, .null, .null, .null, .null, .null, .null, .null, .null, .null, .null] [.int (nI v), .int (nI w), .ref 1] h k ((((cs + 0) + 0) + 0) + 0) ((((ss + 0) + 0) + 0) + 0)
        refine AW.callV (pc := 262) (S' := []) dL_law_262 (c_B_uses (d := 2027) hB hwn) ok_X5_uses tw_777 tw_778 tw_776 (by decide) (hB.1) (show aw_cl[5]? = some _ from rfl) rfl rfl (by omega) rfl (Nat.le_of_ble_eq_true rfl) (by omega) (by omega) ?_ (fun E h' k' hq => by obtain ⟨hx9, -⟩ := hq; try cases hx9)
        intro v h' k' hq
        obtain ⟨hx9, rfl, rfl⟩ := hq
        cases hx9
        show AW _ _ _ _ _ _ _ 265 [.ref 0, .int (nI t), .ref 1, .ref 2, .int (nI p), .null, .null, .null, .null, .null, .null, .null, .null, .null, .null, .null, .null, .null, .null, .null, .null, .null] [.int (if T w 2 = nI v ∨ T w 3 = nI v ∨ T w 4 = nI v then 1 else 0)] h k ((((cs + 0) + 0) + 0) + 0) ((((ss + 0) + 0) + 0) + 0)
        rw [if_pos hu]
        refine AW.if_eq (pc := 265) (tgt := 293) dL_law_265 (by decide) (fun c => absurd c (by decide)) (fun _ => ?_)
        refine AW.aload_n (pc := 268) dL_law_268 rfl rfl ?_
        refine AW.aload_n (pc := 269) dL_law_269 rfl rfl ?_
        refine AW.iload (pc := 270) dL_law_270 rfl ?_
        refine AW.iconst (v := 1) (pc := 272) dL_law_272 (by decide) ?_
        refine AW.iadd (pc := 273) dL_law_273 ?_
        rw [nI_1 p]
        refine AW.callRd (pc := 274) (S' := [.ref 2]) dL_law_274 (l_way (d := 2027) hM (by decide)) hM.1 (by omega) (by simp [aw_ok]) ok_X4_way tw_109 tw_110 tw_108 rfl rfl (by omega) rfl (Nat.le_of_ble_eq_true rfl) (by omega) (by omega) ?_
        show AW _ _ _ _ _ _ _ 277 [.ref 0, .int (nI t), .ref 1, .ref 2, .int (nI p), .null, .null, .null, .null, .null, .null, .null, .null, .null, .null, .null, .null, .null, .null, .null, .null, .null] [.int (S_way g n (AR g n (g 53)) (nI (p + 1))), .ref 2] h k (((((cs + 0) + 0) + 0) + 0) + 0) (((((ss + 0) + 0) + 0) + 0) + 0)
        rw [hv1]
        show AW _ _ _ _ _ _ _ 277 [.ref 0, .int (nI t), .ref 1, .ref 2, .int (nI p), .null, .null, .null, .null, .null, .null, .null, .null, .null, .null, .null, .null, .null, .null, .null, .null, .null] [.int (nI v), .ref 2] h k (((((cs + 0) + 0) + 0) + 0) + 0) (((((ss + 0) + 0) + 0) + 0) + 0)
        refine AW.callRd (pc := 277) (S' := []) dL_law_277 (l_arrival (d := 2027) hM (by decide) (by omega)) hM.1 (by omega) (by simp [aw_ok]) ok_X4_arrival tw_18 tw_19 tw_17 rfl rfl (by omega) rfl (Nat.le_of_ble_eq_true rfl) (by omega) (by omega) ?_
        show AW _ _ _ _ _ _ _ 280 [.ref 0, .int (nI t), .ref 1, .ref 2, .int (nI p), .null, .null, .null, .null, .null, .null, .null, .null, .null, .null, .null, .null, .null, .null, .null, .null, .null] [.int (AR g n (g 53) v)] h k ((((((cs + 0) + 0) + 0) + 0) + 0) + 1) ((((((ss + 0) + 0) + 0) + 0) + 0) + 6)
        rw [(hG.ar (w := v) (by omega)).1]
        show AW _ _ _ _ _ _ _ 280 [.ref 0, .int (nI t), .ref 1, .ref 2, .int (nI p), .null, .null, .null, .null, .null, .null, .null, .null, .null, .null, .null, .null, .null, .null, .null, .null, .null] [.int (nI (av g n v))] h k ((((((cs + 0) + 0) + 0) + 0) + 0) + 1) ((((((ss + 0) + 0) + 0) + 0) + 0) + 6)
        refine AW.aload_n (pc := 280) dL_law_280 rfl rfl ?_
        refine AW.aload_n (pc := 281) dL_law_281 rfl rfl ?_
        refine AW.iload (pc := 282) dL_law_282 rfl ?_
        refine AW.callRd (pc := 284) (S' := [.ref 2, .int (nI (av g n v))]) dL_law_284 (l_way (d := 2027) hM (by decide)) hM.1 (by omega) (by simp [aw_ok]) ok_X4_way tw_109 tw_110 tw_108 rfl rfl (by omega) rfl (Nat.le_of_ble_eq_true rfl) (by omega) (by omega) ?_
        show AW _ _ _ _ _ _ _ 287 [.ref 0, .int (nI t), .ref 1, .ref 2, .int (nI p), .null, .null, .null, .null, .null, .null, .null, .null, .null, .null, .null, .null, .null, .null, .null, .null, .null] [.int (S_way g n (AR g n (g 53)) (nI p)), .ref 2, .int (nI (av g n v))] h k (((((((cs + 0) + 0) + 0) + 0) + 0) + 1) + 0) (((((((ss + 0) + 0) + 0) + 0) + 0) + 6) + 0)
        rw [hw]
        show AW _ _ _ _ _ _ _ 287 [.ref 0, .int (nI t), .ref 1, .ref 2, .int (nI p), .null, .null, .null, .null, .null, .null, .null, .null, .null, .null, .null, .null, .null, .null, .null, .null, .null] [.int (nI w), .ref 2, .int (nI (av g n v))] h k (((((((cs + 0) + 0) + 0) + 0) + 0) + 1) + 0) (((((((ss + 0) + 0) + 0) + 0) + 0) + 6) + 0)
        refine AW.callRd (pc := 287) (S' := [.int (nI (av g n v))]) dL_law_287 (l_arrival (d := 2027) hM (by decide) (by omega)) hM.1 (by omega) (by simp [aw_ok]) ok_X4_arrival tw_18 tw_19 tw_17 rfl rfl (by omega) rfl (Nat.le_of_ble_eq_true rfl) (by omega) (by omega) ?_
        show AW _ _ _ _ _ _ _ 290 [.ref 0, .int (nI t), .ref 1, .ref 2, .int (nI p), .null, .null, .null, .null, .null, .null, .null, .null, .null, .null, .null, .null, .null, .null, .null, .null, .null] [.int (AR g n (g 53) w), .int (nI (av g n v))] h k ((((((((cs + 0) + 0) + 0) + 0) + 0) + 1) + 0) + 1) ((((((((ss + 0) + 0) + 0) + 0) + 0) + 6) + 0) + 6)
        rw [(hG.ar (w := w) (by omega)).1]
        show AW _ _ _ _ _ _ _ 290 [.ref 0, .int (nI t), .ref 1, .ref 2, .int (nI p), .null, .null, .null, .null, .null, .null, .null, .null, .null, .null, .null, .null, .null, .null, .null, .null, .null] [.int (nI (av g n w)), .int (nI (av g n v))] h k ((((((((cs + 0) + 0) + 0) + 0) + 0) + 1) + 0) + 1) ((((((((ss + 0) + 0) + 0) + 0) + 0) + 6) + 0) + 6)
        refine AW.icmp_le (pc := 290) (tgt := 295) dL_law_290 (by decide) (fun _ => ?_) (fun c => absurd (nI_le hle (by have := (hG.ar (w := w) (by omega)).2; omega)) c)
        refine AW.iinc (v := ((nI p) + 1)) (L' := [.ref 0, .int (nI t), .ref 1, .ref 2, .int ((nI p) + 1), .null, .null, .null, .null, .null, .null, .null, .null, .null, .null, .null, .null, .null, .null, .null, .null, .null]) (pc := 295) dL_law_295 rfl rfl (by decide) rfl rfl ?_
        rw [nI_1 p]
        refine AW.goto (pc := 298) (tgt := 208) dL_law_298 (by decide) ?_
        exact ih (p + 1) v _ _ (by omega) (by omega) hv hv1 (by omega) (by omega)
  refine AW.iconst (v := 0) (pc := 205) dL_law_205 (by decide) ?_
  refine AW.istore (L' := [.ref 0, .int (nI t), .ref 1, .ref 2, .int (0 : Int32), .null, .null, .null, .null, .null, .null, .null, .null, .null, .null, .null, .null, .null, .null, .null, .null, .null]) (pc := 206) dL_law_206 (by decide) rfl rfl ?_
  exact loop 23 0 q0 _ _ (by omega) (by decide) hq0 h0 (by omega) (by omega)
end LAW
