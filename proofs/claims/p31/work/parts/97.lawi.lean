/-! the law's walk: the hazards -/
section HZC
variable {T : Nat → Nat → Int32} {g m : Mem} {n q d H i : Nat} {h : Hp} {ρ : Rw}
theorem l_haz0 (hM : LM T g n h q ρ m) (hd : 2 ≤ d) (hH : H ≤ 40) (e5 : ρ 5 = nI H) (hk : i < H) : AM mX4_ofHazard d [.ref 1, .int (nI i), .int 0] (layC m) 47 1 6 (CE (RD (ρ (222 + 3 * i)) m)) := l_ofHazard (p := 0) hM hd hH e5 hk (by decide)
theorem l_haz1 (hM : LM T g n h q ρ m) (hd : 2 ≤ d) (hH : H ≤ 40) (e5 : ρ 5 = nI H) (hk : i < H) : AM mX4_ofHazard d [.ref 1, .int (nI i), .int 1] (layC m) 47 1 6 (CE (RD (ρ (222 + 3 * i + 1)) m)) := l_ofHazard (p := 1) hM hd hH e5 hk (by decide)
theorem l_haz2 (hM : LM T g n h q ρ m) (hd : 2 ≤ d) (hH : H ≤ 40) (e5 : ρ 5 = nI H) (hk : i < H) : AM mX4_ofHazard d [.ref 1, .int (nI i), .int 2] (layC m) 47 1 6 (CE (RD (ρ (222 + 3 * i + 2)) m)) := l_ofHazard (p := 2) hM hd hH e5 hk (by decide)
end HZC
section LAW
variable {Ls : Nat} {xs : Nat → Int32} {T : Nat → Nat → Int32} {g m : Mem} {n k t q cs ss : Nat} {h : Hp} {ρ : Rw}
set_option maxRecDepth 100000 in
set_option maxHeartbeats 4000000 in
theorem law_haz {sp now B cs0 ss0 : Nat} (hG : GD g n) (hT : gT T n) (hTG : TG T g n) (hM : LM T g n h q ρ m) (hS : SI g n now B ρ) (hb : now < 2 ^ 30) (hk : 79 + n ≤ k) (hcs : cs0 + 250 ≤ 600074) (hss : ss0 + 1500 ≤ 7301550) (Kend : ∀ (cs2 ss2 : Nat), cs2 ≤ cs0 + 250 → ss2 ≤ ss0 + 1500 → AW (aw_ZL Ls xs) mlaw 2028 1 600074 7301550 aw_QL 1153 [.ref 0, .int (nI t), .ref 1, .ref 2, .null, .int (nI sp), .null, .null, .null, .null, .null, .null, .null, .null, .null, .null, .null, .null, .null, .null, .null, .null] [] h k cs2 ss2) : AW (aw_ZL Ls xs) mlaw 2028 1 600074 7301550 aw_QL 1040 [.ref 0, .int (nI t), .ref 1, .ref 2, .null, .int (nI sp), .null, .null, .null, .null, .null, .null, .null, .null, .null, .null, .null, .int (nI n), .null, .null, .null, .null] [] h k cs0 ss0 := by
  have h17 := hG.1
  obtain ⟨H, tm, h40, e5, hall⟩ := hS.2.2.2.2.2.2.1
  have loop : ∀ (r i : Nat) (cs ss : Nat), i + r = H → cs ≤ cs0 + 6 * i → ss ≤ ss0 + 36 * i → AW (aw_ZL Ls xs) mlaw 2028 1 600074 7301550 aw_QL 1043 [.ref 0, .int (nI t), .ref 1, .ref 2, .null, .int (nI sp), .null, .null, .null, .null, .null, .null, .null, .null, .null, .null, .null, .int (nI i), .null, .null, .null, .null] [] h k cs ss := by
    intro r
    induction r with
    | zero =>
      intro i cs ss hr hc hs
      obtain ⟨x, pe, hz, e2, hB⟩ := hM.2.2.2.2
      refine AW.iload (pc := 1043) dL_law_1043 rfl ?_
      refine AW.aload_n (pc := 1045) dL_law_1045 rfl rfl ?_
      refine AW.callRd (pc := 1046) (S' := [.int (nI i)]) dL_law_1046 (l_hazards (d := 2027) hM (by decide)) hM.1 (by omega) (by simp [aw_ok]) ok_X4_hazards tw_321 tw_322 tw_320 rfl rfl (by omega) rfl (Nat.le_of_ble_eq_true rfl) (by omega) (by omega) ?_
      show AW _ _ _ _ _ _ _ 1049 [.ref 0, .int (nI t), .ref 1, .ref 2, .null, .int (nI sp), .null, .null, .null, .null, .null, .null, .null, .null, .null, .null, .null, .int (nI i), .null, .null, .null, .null] [.int (ρ 5), .int (nI i)] h k (cs + 0) (ss + 0)
      rw [e5]
      show AW _ _ _ _ _ _ _ 1049 [.ref 0, .int (nI t), .ref 1, .ref 2, .null, .int (nI sp), .null, .null, .null, .null, .null, .null, .null, .null, .null, .null, .null, .int (nI i), .null, .null, .null, .null] [.int (nI H), .int (nI i)] h k (cs + 0) (ss + 0)
      refine AW.icmp_ge (pc := 1049) (tgt := 1153) dL_law_1049 (by decide) (fun _ => ?_) (fun c => absurd (nI_le (by omega) (by omega)) c)
      refine AW.locals (L' := [.ref 0, .int (nI t), .ref 1, .ref 2, .null, .int (nI sp), .null, .null, .null, .null, .null, .null, .null, .null, .null, .null, .null, .null, .null, .null, .null, .null]) (aw_fewer_same (aw_fewer_same (aw_fewer_same (aw_fewer_same (aw_fewer_null (aw_fewer_same (aw_fewer_null (aw_fewer_null (aw_fewer_null (aw_fewer_null (aw_fewer_null (aw_fewer_null (aw_fewer_null (aw_fewer_null (aw_fewer_null (aw_fewer_null (aw_fewer_null (aw_fewer_null (aw_fewer_null (aw_fewer_null (aw_fewer_null (aw_fewer_null aw_fewer_nil)))))))))))))))))))))) ?_
      exact Kend _ _ (by omega) (by omega)
    | succ r ih =>
      intro i cs ss hr hc hs
      obtain ⟨x, pe, hz, e2, hB⟩ := hM.2.2.2.2
      refine AW.iload (pc := 1043) dL_law_1043 rfl ?_
      refine AW.aload_n (pc := 1045) dL_law_1045 rfl rfl ?_
      refine AW.callRd (pc := 1046) (S' := [.int (nI i)]) dL_law_1046 (l_hazards (d := 2027) hM (by decide)) hM.1 (by omega) (by simp [aw_ok]) ok_X4_hazards tw_321 tw_322 tw_320 rfl rfl (by omega) rfl (Nat.le_of_ble_eq_true rfl) (by omega) (by omega) ?_
      show AW _ _ _ _ _ _ _ 1049 [.ref 0, .int (nI t), .ref 1, .ref 2, .null, .int (nI sp), .null, .null, .null, .null, .null, .null, .null, .null, .null, .null, .null, .int (nI i), .null, .null, .null, .null] [.int (ρ 5), .int (nI i)] h k (cs + 0) (ss + 0)
      rw [e5]
      show AW _ _ _ _ _ _ _ 1049 [.ref 0, .int (nI t), .ref 1, .ref 2, .null, .int (nI sp), .null, .null, .null, .null, .null, .null, .null, .null, .null, .null, .null, .int (nI i), .null, .null, .null, .null] [.int (nI H), .int (nI i)] h k (cs + 0) (ss + 0)
      refine AW.icmp_ge (pc := 1049) (tgt := 1153) dL_law_1049 (by decide) (fun c => absurd c (nI_ge (by omega) (by omega))) (fun _ => ?_)
      have hi : i < H := by omega
      obtain ⟨a1, ⟨w, hw, hkw, a2⟩, a3, a4, a5⟩ := hall i hi
      refine AW.aload_n (pc := 1052) dL_law_1052 rfl rfl ?_
      refine AW.iload (pc := 1053) dL_law_1053 rfl ?_
      refine AW.iconst (v := 0) (pc := 1055) dL_law_1055 (by decide) ?_
      rcases a1 with a1 | a1
      · refine AW.callRd (pc := 1056) (S' := []) dL_law_1056 (l_haz0 (d := 2027) hM (by decide) h40 e5 hi) hM.1 (by omega) (by simp [aw_ok]) ok_X4_ofHazard tw_325 tw_326 tw_324 rfl rfl (by omega) rfl (Nat.le_of_ble_eq_true rfl) (by omega) (by omega) ?_
        show AW _ _ _ _ _ _ _ 1059 [.ref 0, .int (nI t), .ref 1, .ref 2, .null, .int (nI sp), .null, .null, .null, .null, .null, .null, .null, .null, .null, .null, .null, .int (nI i), .null, .null, .null, .null] [.int (ρ (222 + 3 * i))] h k ((cs + 0) + 1) ((ss + 0) + 6)
        rw [a1]
        show AW _ _ _ _ _ _ _ 1059 [.ref 0, .int (nI t), .ref 1, .ref 2, .null, .int (nI sp), .null, .null, .null, .null, .null, .null, .null, .null, .null, .null, .null, .int (nI i), .null, .null, .null, .null] [.int 1] h k ((cs + 0) + 1) ((ss + 0) + 6)
        refine AW.istore (L' := [.ref 0, .int (nI t), .ref 1, .ref 2, .null, .int (nI sp), .null, .null, .null, .null, .null, .null, .null, .null, .null, .null, .null, .int (nI i), .int 1, .null, .null, .null]) (pc := 1059) dL_law_1059 (by decide) rfl rfl ?_
        refine AW.aload_n (pc := 1061) dL_law_1061 rfl rfl ?_
        refine AW.aload_n (pc := 1062) dL_law_1062 rfl rfl ?_
        refine AW.iload (pc := 1063) dL_law_1063 rfl ?_
        refine AW.iconst (v := 1) (pc := 1065) dL_law_1065 (by decide) ?_
        refine AW.callRd (pc := 1066) (S' := [.ref 1]) dL_law_1066 (l_haz1 (d := 2027) hM (by decide) h40 e5 hi) hM.1 (by omega) (by simp [aw_ok]) ok_X4_ofHazard tw_325 tw_326 tw_324 rfl rfl (by omega) rfl (Nat.le_of_ble_eq_true rfl) (by omega) (by omega) ?_
        show AW _ _ _ _ _ _ _ 1069 [.ref 0, .int (nI t), .ref 1, .ref 2, .null, .int (nI sp), .null, .null, .null, .null, .null, .null, .null, .null, .null, .null, .null, .int (nI i), .int 1, .null, .null, .null] [.int (ρ (222 + 3 * i + 1)), .ref 1] h k (((cs + 0) + 1) + 1) (((ss + 0) + 6) + 6)
        rw [a2]
        show AW _ _ _ _ _ _ _ 1069 [.ref 0, .int (nI t), .ref 1, .ref 2, .null, .int (nI sp), .null, .null, .null, .null, .null, .null, .null, .null, .null, .null, .null, .int (nI i), .int 1, .null, .null, .null] [.int (nI w), .ref 1] h k (((cs + 0) + 1) + 1) (((ss + 0) + 6) + 6)
        refine AW.callV (pc := 1069) (S' := []) dL_law_1069 (c_B_driver (d := 2027) hB (fun l hl => (hT.2 l hl).1) (by omega)) ok_X5_driver tw_781 tw_782 tw_780 (by decide) (hB.1) (show aw_cl[5]? = some _ from rfl) rfl rfl (by omega) rfl (Nat.le_of_ble_eq_true rfl) (by omega) (by omega) ?_ (fun E h' k' hq => by obtain ⟨hx9, -⟩ := hq; try cases hx9)
        intro v h' k' hq
        obtain ⟨hx9, rfl, rfl⟩ := hq
        cases hx9
        show AW _ _ _ _ _ _ _ 1072 [.ref 0, .int (nI t), .ref 1, .ref 2, .null, .int (nI sp), .null, .null, .null, .null, .null, .null, .null, .null, .null, .null, .null, .int (nI i), .int 1, .null, .null, .null] [.int (if w < n then nI w else -1)] h k (((cs + 0) + 1) + 1) (((ss + 0) + 6) + 6)
        rw [if_pos hw]
        refine AW.istore (L' := [.ref 0, .int (nI t), .ref 1, .ref 2, .null, .int (nI sp), .null, .null, .null, .null, .null, .null, .null, .null, .null, .null, .null, .int (nI i), .int 1, .int (nI w), .null, .null]) (pc := 1072) dL_law_1072 (by decide) rfl rfl ?_
        refine AW.iload (pc := 1074) dL_law_1074 rfl ?_
        refine AW.iconst (v := 1) (pc := 1076) dL_law_1076 (by decide) ?_
        refine AW.icmp_lt (pc := 1077) (tgt := 1145) dL_law_1077 (by decide) (fun c => absurd c (by decide)) (fun _ => ?_)
        refine AW.iload (pc := 1080) dL_law_1080 rfl ?_
        refine AW.iconst (v := 4) (pc := 1082) dL_law_1082 (by decide) ?_
        refine AW.icmp_gt (pc := 1083) (tgt := 1145) dL_law_1083 (by decide) (fun c => absurd c (by decide)) (fun _ => ?_)
        refine AW.aload_n (pc := 1086) dL_law_1086 rfl rfl ?_
        refine AW.iload (pc := 1087) dL_law_1087 rfl ?_
        refine AW.callV (pc := 1089) (S' := []) dL_law_1089 (c_B_isGate (d := 2027) hB hw) ok_X5_isGate tw_773 tw_774 tw_772 (by decide) (hB.1) (show aw_cl[5]? = some _ from rfl) rfl rfl (by omega) rfl (Nat.le_of_ble_eq_true rfl) (by omega) (by omega) ?_ (fun E h' k' hq => by obtain ⟨hx9, -⟩ := hq; try cases hx9)
        intro v h' k' hq
        obtain ⟨hx9, rfl, rfl⟩ := hq
        cases hx9
        show AW _ _ _ _ _ _ _ 1092 [.ref 0, .int (nI t), .ref 1, .ref 2, .null, .int (nI sp), .null, .null, .null, .null, .null, .null, .null, .null, .null, .null, .null, .int (nI i), .int 1, .int (nI w), .null, .null] [.int (if T w 0 < 0 then 0 else 1)] h k (((cs + 0) + 1) + 1) (((ss + 0) + 6) + 6)
        rw [if_neg (show ¬ T w 0 < 0 by rw [← (hTG.1 w hw).1]; exact hkw)]
        refine AW.iload (pc := 1092) dL_law_1092 rfl ?_
        refine AW.iconst (v := 3) (pc := 1094) dL_law_1094 (by decide) ?_
        refine AW.icmp_ge (pc := 1095) (tgt := 1102) dL_law_1095 (by decide) (fun c => absurd c (by decide)) (fun _ => ?_)
        refine AW.iconst (v := 1) (pc := 1098) dL_law_1098 (by decide) ?_
        refine AW.goto (pc := 1099) (tgt := 1103) dL_law_1099 (by decide) ?_
        refine AW.icmp_ne (pc := 1103) (tgt := 1145) dL_law_1103 (by decide) (fun c => absurd (rfl) c) (fun _ => ?_)
        refine AW.aload_n (pc := 1106) dL_law_1106 rfl rfl ?_
        refine AW.iload (pc := 1107) dL_law_1107 rfl ?_
        refine AW.iconst (v := 2) (pc := 1109) dL_law_1109 (by decide) ?_
        refine AW.callRd (pc := 1110) (S' := []) dL_law_1110 (l_haz2 (d := 2027) hM (by decide) h40 e5 hi) hM.1 (by omega) (by simp [aw_ok]) ok_X4_ofHazard tw_325 tw_326 tw_324 rfl rfl (by omega) rfl (Nat.le_of_ble_eq_true rfl) (by omega) (by omega) ?_
        show AW _ _ _ _ _ _ _ 1113 [.ref 0, .int (nI t), .ref 1, .ref 2, .null, .int (nI sp), .null, .null, .null, .null, .null, .null, .null, .null, .null, .null, .null, .int (nI i), .int 1, .int (nI w), .null, .null] [.int (ρ (222 + 3 * i + 2))] h k ((((cs + 0) + 1) + 1) + 1) ((((ss + 0) + 6) + 6) + 6)
        rw [a3]
        show AW _ _ _ _ _ _ _ 1113 [.ref 0, .int (nI t), .ref 1, .ref 2, .null, .int (nI sp), .null, .null, .null, .null, .null, .null, .null, .null, .null, .null, .null, .int (nI i), .int 1, .int (nI w), .null, .null] [.int (nI (tm i))] h k ((((cs + 0) + 1) + 1) + 1) ((((ss + 0) + 6) + 6) + 6)
        refine AW.aload_n (pc := 1113) dL_law_1113 rfl rfl ?_
        refine AW.iconst (v := 0) (pc := 1114) dL_law_1114 (by decide) ?_
        refine AW.callRd (pc := 1115) (S' := [.int (nI (tm i))]) dL_law_1115 (l_told (d := 2027) hM (by decide) (by decide)) hM.1 (by omega) (by simp [aw_ok]) ok_X4_told tw_294 tw_295 tw_293 rfl rfl (by omega) rfl (Nat.le_of_ble_eq_true rfl) (by omega) (by omega) ?_
        show AW _ _ _ _ _ _ _ 1118 [.ref 0, .int (nI t), .ref 1, .ref 2, .null, .int (nI sp), .null, .null, .null, .null, .null, .null, .null, .null, .null, .null, .null, .int (nI i), .int 1, .int (nI w), .null, .null] [.int (S_told n ρ 0), .int (nI (tm i))] h k (((((cs + 0) + 1) + 1) + 1) + 1) (((((ss + 0) + 6) + 6) + 6) + 6)
        rw [told0, hS.1.1]
        show AW _ _ _ _ _ _ _ 1118 [.ref 0, .int (nI t), .ref 1, .ref 2, .null, .int (nI sp), .null, .null, .null, .null, .null, .null, .null, .null, .null, .null, .null, .int (nI i), .int 1, .int (nI w), .null, .null] [.int (nI now), .int (nI (tm i))] h k (((((cs + 0) + 1) + 1) + 1) + 1) (((((ss + 0) + 6) + 6) + 6) + 6)
        refine AW.icmp_gt (pc := 1118) (tgt := 1145) dL_law_1118 (by decide) (fun c => absurd c (fun e => absurd ((nI_ltI (by omega) (by omega)).mp e) (by omega))) (fun _ => ?_)
        refine AW.iload (pc := 1121) dL_law_1121 rfl ?_
        by_cases i0 : i = 0
        · subst i0
          refine AW.if_le (pc := 1123) (tgt := 1147) dL_law_1123 (by decide) (fun _ => ?_) (fun c => absurd (by decide) c)
          refine AW.iinc (v := ((nI 0) + 1)) (L' := [.ref 0, .int (nI t), .ref 1, .ref 2, .null, .int (nI sp), .null, .null, .null, .null, .null, .null, .null, .null, .null, .null, .null, .int ((nI 0) + 1), .int 1, .int (nI w), .null, .null]) (pc := 1147) dL_law_1147 rfl rfl (by decide) rfl rfl ?_
          rw [nI_1 0]
          refine AW.goto (pc := 1150) (tgt := 1043) dL_law_1150 (by decide) ?_
          refine AW.locals (L' := [.ref 0, .int (nI t), .ref 1, .ref 2, .null, .int (nI sp), .null, .null, .null, .null, .null, .null, .null, .null, .null, .null, .null, .int (nI (0 + 1)), .null, .null, .null, .null]) (aw_fewer_same (aw_fewer_same (aw_fewer_same (aw_fewer_same (aw_fewer_null (aw_fewer_same (aw_fewer_null (aw_fewer_null (aw_fewer_null (aw_fewer_null (aw_fewer_null (aw_fewer_null (aw_fewer_null (aw_fewer_null (aw_fewer_null (aw_fewer_null (aw_fewer_null (aw_fewer_same (aw_fewer_null (aw_fewer_null (aw_fewer_null (aw_fewer_null aw_fewer_nil)))))))))))))))))))))) ?_
          exact ih (0 + 1) _ _ (by omega) (by omega) (by omega)
        · refine AW.if_le (pc := 1123) (tgt := 1147) dL_law_1123 (by decide) (fun c => absurd c (nI_nle (by omega) (by omega))) (fun _ => ?_)
          refine AW.aload_n (pc := 1126) dL_law_1126 rfl rfl ?_
          refine AW.iload (pc := 1127) dL_law_1127 rfl ?_
          refine AW.iconst (v := 2) (pc := 1129) dL_law_1129 (by decide) ?_
          refine AW.callRd (pc := 1130) (S' := []) dL_law_1130 (l_haz2 (d := 2027) hM (by decide) h40 e5 hi) hM.1 (by omega) (by simp [aw_ok]) ok_X4_ofHazard tw_325 tw_326 tw_324 rfl rfl (by omega) rfl (Nat.le_of_ble_eq_true rfl) (by omega) (by omega) ?_
          show AW _ _ _ _ _ _ _ 1133 [.ref 0, .int (nI t), .ref 1, .ref 2, .null, .int (nI sp), .null, .null, .null, .null, .null, .null, .null, .null, .null, .null, .null, .int (nI i), .int 1, .int (nI w), .null, .null] [.int (ρ (222 + 3 * i + 2))] h k ((((((cs + 0) + 1) + 1) + 1) + 1) + 1) ((((((ss + 0) + 6) + 6) + 6) + 6) + 6)
          rw [a3]
          show AW _ _ _ _ _ _ _ 1133 [.ref 0, .int (nI t), .ref 1, .ref 2, .null, .int (nI sp), .null, .null, .null, .null, .null, .null, .null, .null, .null, .null, .null, .int (nI i), .int 1, .int (nI w), .null, .null] [.int (nI (tm i))] h k ((((((cs + 0) + 1) + 1) + 1) + 1) + 1) ((((((ss + 0) + 6) + 6) + 6) + 6) + 6)
          refine AW.aload_n (pc := 1133) dL_law_1133 rfl rfl ?_
          refine AW.iload (pc := 1134) dL_law_1134 rfl ?_
          refine AW.iconst (v := 1) (pc := 1136) dL_law_1136 (by decide) ?_
          refine AW.isub (pc := 1137) dL_law_1137 ?_
          rw [show nI i - (1 : Int32) = nI (i - 1) from nI_sub (a := 1) (by omega) (by omega)]
          refine AW.iconst (v := 2) (pc := 1138) dL_law_1138 (by decide) ?_
          have a6 := (hall (i - 1) (by omega)).2.2
          refine AW.callRd (pc := 1139) (S' := [.int (nI (tm i))]) dL_law_1139 (l_haz2 (d := 2027) hM (by decide) h40 e5 (show i - 1 < H by omega)) hM.1 (by omega) (by simp [aw_ok]) ok_X4_ofHazard tw_325 tw_326 tw_324 rfl rfl (by omega) rfl (Nat.le_of_ble_eq_true rfl) (by omega) (by omega) ?_
          show AW _ _ _ _ _ _ _ 1142 [.ref 0, .int (nI t), .ref 1, .ref 2, .null, .int (nI sp), .null, .null, .null, .null, .null, .null, .null, .null, .null, .null, .null, .int (nI i), .int 1, .int (nI w), .null, .null] [.int (ρ (222 + 3 * (i - 1) + 2)), .int (nI (tm i))] h k (((((((cs + 0) + 1) + 1) + 1) + 1) + 1) + 1) (((((((ss + 0) + 6) + 6) + 6) + 6) + 6) + 6)
          rw [a6.1]
          show AW _ _ _ _ _ _ _ 1142 [.ref 0, .int (nI t), .ref 1, .ref 2, .null, .int (nI sp), .null, .null, .null, .null, .null, .null, .null, .null, .null, .null, .null, .int (nI i), .int 1, .int (nI w), .null, .null] [.int (nI (tm (i - 1))), .int (nI (tm i))] h k (((((((cs + 0) + 1) + 1) + 1) + 1) + 1) + 1) (((((((ss + 0) + 6) + 6) + 6) + 6) + 6) + 6)
          refine AW.icmp_ge (pc := 1142) (tgt := 1147) dL_law_1142 (by decide) (fun _ => ?_) (fun c => absurd (nI_le (a5 (i - 1) (by omega)) (by omega)) c)
          refine AW.iinc (v := ((nI i) + 1)) (L' := [.ref 0, .int (nI t), .ref 1, .ref 2, .null, .int (nI sp), .null, .null, .null, .null, .null, .null, .null, .null, .null, .null, .null, .int ((nI i) + 1), .int 1, .int (nI w), .null, .null]) (pc := 1147) dL_law_1147 rfl rfl (by decide) rfl rfl ?_
          rw [nI_1 i]
          refine AW.goto (pc := 1150) (tgt := 1043) dL_law_1150 (by decide) ?_
          refine AW.locals (L' := [.ref 0, .int (nI t), .ref 1, .ref 2, .null, .int (nI sp), .null, .null, .null, .null, .null, .null, .null, .null, .null, .null, .null, .int (nI (i + 1)), .null, .null, .null, .null]) (aw_fewer_same (aw_fewer_same (aw_fewer_same (aw_fewer_same (aw_fewer_null (aw_fewer_same (aw_fewer_null (aw_fewer_null (aw_fewer_null (aw_fewer_null (aw_fewer_null (aw_fewer_null (aw_fewer_null (aw_fewer_null (aw_fewer_null (aw_fewer_null (aw_fewer_null (aw_fewer_same (aw_fewer_null (aw_fewer_null (aw_fewer_null (aw_fewer_null aw_fewer_nil)))))))))))))))))))))) ?_
          exact ih (i + 1) _ _ (by omega) (by omega) (by omega)
      · refine AW.callRd (pc := 1056) (S' := []) dL_law_1056 (l_haz0 (d := 2027) hM (by decide) h40 e5 hi) hM.1 (by omega) (by simp [aw_ok]) ok_X4_ofHazard tw_325 tw_326 tw_324 rfl rfl (by omega) rfl (Nat.le_of_ble_eq_true rfl) (by omega) (by omega) ?_
        show AW _ _ _ _ _ _ _ 1059 [.ref 0, .int (nI t), .ref 1, .ref 2, .null, .int (nI sp), .null, .null, .null, .null, .null, .null, .null, .null, .null, .null, .null, .int (nI i), .null, .null, .null, .null] [.int (ρ (222 + 3 * i))] h k ((cs + 0) + 1) ((ss + 0) + 6)
        rw [a1]
        show AW _ _ _ _ _ _ _ 1059 [.ref 0, .int (nI t), .ref 1, .ref 2, .null, .int (nI sp), .null, .null, .null, .null, .null, .null, .null, .null, .null, .null, .null, .int (nI i), .null, .null, .null, .null] [.int 2] h k ((cs + 0) + 1) ((ss + 0) + 6)
        refine AW.istore (L' := [.ref 0, .int (nI t), .ref 1, .ref 2, .null, .int (nI sp), .null, .null, .null, .null, .null, .null, .null, .null, .null, .null, .null, .int (nI i), .int 2, .null, .null, .null]) (pc := 1059) dL_law_1059 (by decide) rfl rfl ?_
        refine AW.aload_n (pc := 1061) dL_law_1061 rfl rfl ?_
        refine AW.aload_n (pc := 1062) dL_law_1062 rfl rfl ?_
        refine AW.iload (pc := 1063) dL_law_1063 rfl ?_
        refine AW.iconst (v := 1) (pc := 1065) dL_law_1065 (by decide) ?_
        refine AW.callRd (pc := 1066) (S' := [.ref 1]) dL_law_1066 (l_haz1 (d := 2027) hM (by decide) h40 e5 hi) hM.1 (by omega) (by simp [aw_ok]) ok_X4_ofHazard tw_325 tw_326 tw_324 rfl rfl (by omega) rfl (Nat.le_of_ble_eq_true rfl) (by omega) (by omega) ?_
        show AW _ _ _ _ _ _ _ 1069 [.ref 0, .int (nI t), .ref 1, .ref 2, .null, .int (nI sp), .null, .null, .null, .null, .null, .null, .null, .null, .null, .null, .null, .int (nI i), .int 2, .null, .null, .null] [.int (ρ (222 + 3 * i + 1)), .ref 1] h k (((cs + 0) + 1) + 1) (((ss + 0) + 6) + 6)
        rw [a2]
        show AW _ _ _ _ _ _ _ 1069 [.ref 0, .int (nI t), .ref 1, .ref 2, .null, .int (nI sp), .null, .null, .null, .null, .null, .null, .null, .null, .null, .null, .null, .int (nI i), .int 2, .null, .null, .null] [.int (nI w), .ref 1] h k (((cs + 0) + 1) + 1) (((ss + 0) + 6) + 6)
        refine AW.callV (pc := 1069) (S' := []) dL_law_1069 (c_B_driver (d := 2027) hB (fun l hl => (hT.2 l hl).1) (by omega)) ok_X5_driver tw_781 tw_782 tw_780 (by decide) (hB.1) (show aw_cl[5]? = some _ from rfl) rfl rfl (by omega) rfl (Nat.le_of_ble_eq_true rfl) (by omega) (by omega) ?_ (fun E h' k' hq => by obtain ⟨hx9, -⟩ := hq; try cases hx9)
        intro v h' k' hq
        obtain ⟨hx9, rfl, rfl⟩ := hq
        cases hx9
        show AW _ _ _ _ _ _ _ 1072 [.ref 0, .int (nI t), .ref 1, .ref 2, .null, .int (nI sp), .null, .null, .null, .null, .null, .null, .null, .null, .null, .null, .null, .int (nI i), .int 2, .null, .null, .null] [.int (if w < n then nI w else -1)] h k (((cs + 0) + 1) + 1) (((ss + 0) + 6) + 6)
        rw [if_pos hw]
        refine AW.istore (L' := [.ref 0, .int (nI t), .ref 1, .ref 2, .null, .int (nI sp), .null, .null, .null, .null, .null, .null, .null, .null, .null, .null, .null, .int (nI i), .int 2, .int (nI w), .null, .null]) (pc := 1072) dL_law_1072 (by decide) rfl rfl ?_
        refine AW.iload (pc := 1074) dL_law_1074 rfl ?_
        refine AW.iconst (v := 1) (pc := 1076) dL_law_1076 (by decide) ?_
        refine AW.icmp_lt (pc := 1077) (tgt := 1145) dL_law_1077 (by decide) (fun c => absurd c (by decide)) (fun _ => ?_)
        refine AW.iload (pc := 1080) dL_law_1080 rfl ?_
        refine AW.iconst (v := 4) (pc := 1082) dL_law_1082 (by decide) ?_
        refine AW.icmp_gt (pc := 1083) (tgt := 1145) dL_law_1083 (by decide) (fun c => absurd c (by decide)) (fun _ => ?_)
        refine AW.aload_n (pc := 1086) dL_law_1086 rfl rfl ?_
        refine AW.iload (pc := 1087) dL_law_1087 rfl ?_
        refine AW.callV (pc := 1089) (S' := []) dL_law_1089 (c_B_isGate (d := 2027) hB hw) ok_X5_isGate tw_773 tw_774 tw_772 (by decide) (hB.1) (show aw_cl[5]? = some _ from rfl) rfl rfl (by omega) rfl (Nat.le_of_ble_eq_true rfl) (by omega) (by omega) ?_ (fun E h' k' hq => by obtain ⟨hx9, -⟩ := hq; try cases hx9)
        intro v h' k' hq
        obtain ⟨hx9, rfl, rfl⟩ := hq
        cases hx9
        show AW _ _ _ _ _ _ _ 1092 [.ref 0, .int (nI t), .ref 1, .ref 2, .null, .int (nI sp), .null, .null, .null, .null, .null, .null, .null, .null, .null, .null, .null, .int (nI i), .int 2, .int (nI w), .null, .null] [.int (if T w 0 < 0 then 0 else 1)] h k (((cs + 0) + 1) + 1) (((ss + 0) + 6) + 6)
        rw [if_neg (show ¬ T w 0 < 0 by rw [← (hTG.1 w hw).1]; exact hkw)]
        refine AW.iload (pc := 1092) dL_law_1092 rfl ?_
        refine AW.iconst (v := 3) (pc := 1094) dL_law_1094 (by decide) ?_
        refine AW.icmp_ge (pc := 1095) (tgt := 1102) dL_law_1095 (by decide) (fun c => absurd c (by decide)) (fun _ => ?_)
        refine AW.iconst (v := 1) (pc := 1098) dL_law_1098 (by decide) ?_
        refine AW.goto (pc := 1099) (tgt := 1103) dL_law_1099 (by decide) ?_
        refine AW.icmp_ne (pc := 1103) (tgt := 1145) dL_law_1103 (by decide) (fun c => absurd (rfl) c) (fun _ => ?_)
        refine AW.aload_n (pc := 1106) dL_law_1106 rfl rfl ?_
        refine AW.iload (pc := 1107) dL_law_1107 rfl ?_
        refine AW.iconst (v := 2) (pc := 1109) dL_law_1109 (by decide) ?_
        refine AW.callRd (pc := 1110) (S' := []) dL_law_1110 (l_haz2 (d := 2027) hM (by decide) h40 e5 hi) hM.1 (by omega) (by simp [aw_ok]) ok_X4_ofHazard tw_325 tw_326 tw_324 rfl rfl (by omega) rfl (Nat.le_of_ble_eq_true rfl) (by omega) (by omega) ?_
        show AW _ _ _ _ _ _ _ 1113 [.ref 0, .int (nI t), .ref 1, .ref 2, .null, .int (nI sp), .null, .null, .null, .null, .null, .null, .null, .null, .null, .null, .null, .int (nI i), .int 2, .int (nI w), .null, .null] [.int (ρ (222 + 3 * i + 2))] h k ((((cs + 0) + 1) + 1) + 1) ((((ss + 0) + 6) + 6) + 6)
        rw [a3]
        show AW _ _ _ _ _ _ _ 1113 [.ref 0, .int (nI t), .ref 1, .ref 2, .null, .int (nI sp), .null, .null, .null, .null, .null, .null, .null, .null, .null, .null, .null, .int (nI i), .int 2, .int (nI w), .null, .null] [.int (nI (tm i))] h k ((((cs + 0) + 1) + 1) + 1) ((((ss + 0) + 6) + 6) + 6)
        refine AW.aload_n (pc := 1113) dL_law_1113 rfl rfl ?_
        refine AW.iconst (v := 0) (pc := 1114) dL_law_1114 (by decide) ?_
        refine AW.callRd (pc := 1115) (S' := [.int (nI (tm i))]) dL_law_1115 (l_told (d := 2027) hM (by decide) (by decide)) hM.1 (by omega) (by simp [aw_ok]) ok_X4_told tw_294 tw_295 tw_293 rfl rfl (by omega) rfl (Nat.le_of_ble_eq_true rfl) (by omega) (by omega) ?_
        show AW _ _ _ _ _ _ _ 1118 [.ref 0, .int (nI t), .ref 1, .ref 2, .null, .int (nI sp), .null, .null, .null, .null, .null, .null, .null, .null, .null, .null, .null, .int (nI i), .int 2, .int (nI w), .null, .null] [.int (S_told n ρ 0), .int (nI (tm i))] h k (((((cs + 0) + 1) + 1) + 1) + 1) (((((ss + 0) + 6) + 6) + 6) + 6)
        rw [told0, hS.1.1]
        show AW _ _ _ _ _ _ _ 1118 [.ref 0, .int (nI t), .ref 1, .ref 2, .null, .int (nI sp), .null, .null, .null, .null, .null, .null, .null, .null, .null, .null, .null, .int (nI i), .int 2, .int (nI w), .null, .null] [.int (nI now), .int (nI (tm i))] h k (((((cs + 0) + 1) + 1) + 1) + 1) (((((ss + 0) + 6) + 6) + 6) + 6)
        refine AW.icmp_gt (pc := 1118) (tgt := 1145) dL_law_1118 (by decide) (fun c => absurd c (fun e => absurd ((nI_ltI (by omega) (by omega)).mp e) (by omega))) (fun _ => ?_)
        refine AW.iload (pc := 1121) dL_law_1121 rfl ?_
        by_cases i0 : i = 0
        · subst i0
          refine AW.if_le (pc := 1123) (tgt := 1147) dL_law_1123 (by decide) (fun _ => ?_) (fun c => absurd (by decide) c)
          refine AW.iinc (v := ((nI 0) + 1)) (L' := [.ref 0, .int (nI t), .ref 1, .ref 2, .null, .int (nI sp), .null, .null, .null, .null, .null, .null, .null, .null, .null, .null, .null, .int ((nI 0) + 1), .int 2, .int (nI w), .null, .null]) (pc := 1147) dL_law_1147 rfl rfl (by decide) rfl rfl ?_
          rw [nI_1 0]
          refine AW.goto (pc := 1150) (tgt := 1043) dL_law_1150 (by decide) ?_
          refine AW.locals (L' := [.ref 0, .int (nI t), .ref 1, .ref 2, .null, .int (nI sp), .null, .null, .null, .null, .null, .null, .null, .null, .null, .null, .null, .int (nI (0 + 1)), .null, .null, .null, .null]) (aw_fewer_same (aw_fewer_same (aw_fewer_same (aw_fewer_same (aw_fewer_null (aw_fewer_same (aw_fewer_null (aw_fewer_null (aw_fewer_null (aw_fewer_null (aw_fewer_null (aw_fewer_null (aw_fewer_null (aw_fewer_null (aw_fewer_null (aw_fewer_null (aw_fewer_null (aw_fewer_same (aw_fewer_null (aw_fewer_null (aw_fewer_null (aw_fewer_null aw_fewer_nil)))))))))))))))))))))) ?_
          exact ih (0 + 1) _ _ (by omega) (by omega) (by omega)
        · refine AW.if_le (pc := 1123) (tgt := 1147) dL_law_1123 (by decide) (fun c => absurd c (nI_nle (by omega) (by omega))) (fun _ => ?_)
          refine AW.aload_n (pc := 1126) dL_law_1126 rfl rfl ?_
          refine AW.iload (pc := 1127) dL_law_1127 rfl ?_
          refine AW.iconst (v := 2) (pc := 1129) dL_law_1129 (by decide) ?_
          refine AW.callRd (pc := 1130) (S' := []) dL_law_1130 (l_haz2 (d := 2027) hM (by decide) h40 e5 hi) hM.1 (by omega) (by simp [aw_ok]) ok_X4_ofHazard tw_325 tw_326 tw_324 rfl rfl (by omega) rfl (Nat.le_of_ble_eq_true rfl) (by omega) (by omega) ?_
          show AW _ _ _ _ _ _ _ 1133 [.ref 0, .int (nI t), .ref 1, .ref 2, .null, .int (nI sp), .null, .null, .null, .null, .null, .null, .null, .null, .null, .null, .null, .int (nI i), .int 2, .int (nI w), .null, .null] [.int (ρ (222 + 3 * i + 2))] h k ((((((cs + 0) + 1) + 1) + 1) + 1) + 1) ((((((ss + 0) + 6) + 6) + 6) + 6) + 6)
          rw [a3]
          show AW _ _ _ _ _ _ _ 1133 [.ref 0, .int (nI t), .ref 1, .ref 2, .null, .int (nI sp), .null, .null, .null, .null, .null, .null, .null, .null, .null, .null, .null, .int (nI i), .int 2, .int (nI w), .null, .null] [.int (nI (tm i))] h k ((((((cs + 0) + 1) + 1) + 1) + 1) + 1) ((((((ss + 0) + 6) + 6) + 6) + 6) + 6)
          refine AW.aload_n (pc := 1133) dL_law_1133 rfl rfl ?_
          refine AW.iload (pc := 1134) dL_law_1134 rfl ?_
          refine AW.iconst (v := 1) (pc := 1136) dL_law_1136 (by decide) ?_
          refine AW.isub (pc := 1137) dL_law_1137 ?_
          rw [show nI i - (1 : Int32) = nI (i - 1) from nI_sub (a := 1) (by omega) (by omega)]
          refine AW.iconst (v := 2) (pc := 1138) dL_law_1138 (by decide) ?_
          have a6 := (hall (i - 1) (by omega)).2.2
          refine AW.callRd (pc := 1139) (S' := [.int (nI (tm i))]) dL_law_1139 (l_haz2 (d := 2027) hM (by decide) h40 e5 (show i - 1 < H by omega)) hM.1 (by omega) (by simp [aw_ok]) ok_X4_ofHazard tw_325 tw_326 tw_324 rfl rfl (by omega) rfl (Nat.le_of_ble_eq_true rfl) (by omega) (by omega) ?_
          show AW _ _ _ _ _ _ _ 1142 [.ref 0, .int (nI t), .ref 1, .ref 2, .null, .int (nI sp), .null, .null, .null, .null, .null, .null, .null, .null, .null, .null, .null, .int (nI i), .int 2, .int (nI w), .null, .null] [.int (ρ (222 + 3 * (i - 1) + 2)), .int (nI (tm i))] h k (((((((cs + 0) + 1) + 1) + 1) + 1) + 1) + 1) (((((((ss + 0) + 6) + 6) + 6) + 6) + 6) + 6)
          rw [a6.1]
          show AW _ _ _ _ _ _ _ 1142 [.ref 0, .int (nI t), .ref 1, .ref 2, .null, .int (nI sp), .null, .null, .null, .null, .null, .null, .null, .null, .null, .null, .null, .int (nI i), .int 2, .int (nI w), .null, .null] [.int (nI (tm (i - 1))), .int (nI (tm i))] h k (((((((cs + 0) + 1) + 1) + 1) + 1) + 1) + 1) (((((((ss + 0) + 6) + 6) + 6) + 6) + 6) + 6)
          refine AW.icmp_ge (pc := 1142) (tgt := 1147) dL_law_1142 (by decide) (fun _ => ?_) (fun c => absurd (nI_le (a5 (i - 1) (by omega)) (by omega)) c)
          refine AW.iinc (v := ((nI i) + 1)) (L' := [.ref 0, .int (nI t), .ref 1, .ref 2, .null, .int (nI sp), .null, .null, .null, .null, .null, .null, .null, .null, .null, .null, .null, .int ((nI i) + 1), .int 2, .int (nI w), .null, .null]) (pc := 1147) dL_law_1147 rfl rfl (by decide) rfl rfl ?_
          rw [nI_1 i]
          refine AW.goto (pc := 1150) (tgt := 1043) dL_law_1150 (by decide) ?_
          refine AW.locals (L' := [.ref 0, .int (nI t), .ref 1, .ref 2, .null, .int (nI sp), .null, .null, .null, .null, .null, .null, .null, .null, .null, .null, .null, .int (nI (i + 1)), .null, .null, .null, .null]) (aw_fewer_same (aw_fewer_same (aw_fewer_same (aw_fewer_same (aw_fewer_null (aw_fewer_same (aw_fewer_null (aw_fewer_null (aw_fewer_null (aw_fewer_null (aw_fewer_null (aw_fewer_null (aw_fewer_null (aw_fewer_null (aw_fewer_null (aw_fewer_null (aw_fewer_null (aw_fewer_same (aw_fewer_null (aw_fewer_null (aw_fewer_null (aw_fewer_null aw_fewer_nil)))))))))))))))))))))) ?_
          exact ih (i + 1) _ _ (by omega) (by omega) (by omega)
  refine AW.iconst (v := 0) (pc := 1040) dL_law_1040 (by decide) ?_
  refine AW.istore (L' := [.ref 0, .int (nI t), .ref 1, .ref 2, .null, .int (nI sp), .null, .null, .null, .null, .null, .null, .null, .null, .null, .null, .null, .int (0 : Int32), .null, .null, .null, .null]) (pc := 1041) dL_law_1041 (by decide) rfl rfl ?_
  exact loop H 0 _ _ (by omega) (by omega) (by omega)
end LAW
