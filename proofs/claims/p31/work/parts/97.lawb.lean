/-! the law's walk: the arrivals -/
section LAW
variable {Ls : Nat} {xs : Nat → Int32} {T : Nat → Nat → Int32} {g m : Mem} {n k t q cs ss : Nat} {h : Hp} {ρ : Rw}
set_option maxRecDepth 100000 in
set_option maxHeartbeats 4000000 in
theorem law_arr {cs0 ss0 : Nat} (hG : GD g n) (hT : gT T n) (hTG : TG T g n) (hk : 79 + n ≤ k) (hcs : cs0 + 240 ≤ 600074) (hss : ss0 + 1500 ≤ 7301550) (Kend : ∀ (h2 : Hp) (m2 : Mem) (cs2 ss2 : Nat), LM T g n h2 q ρ m2 → cs2 ≤ cs0 + 240 → ss2 ≤ ss0 + 1500 → AW (aw_ZL Ls xs) mlaw 2028 1 600074 7301550 aw_QL 205 [.ref 0, .int (nI t), .ref 1, .ref 2, .int (nI 24), .null, .null, .null, .null, .null, .null, .null, .null, .null, .null, .null, .null, .null, .null, .null, .null, .null] [] h2 k cs2 ss2) : ∀ (r w : Nat) (h : Hp) (m : Mem) (cs ss : Nat), w + r = 24 → LM T g n h q ρ m → cs ≤ cs0 + 10 * w → ss ≤ ss0 + 60 * w → AW (aw_ZL Ls xs) mlaw 2028 1 600074 7301550 aw_QL 48 [.ref 0, .int (nI t), .ref 1, .ref 2, .int (nI w), .null, .null, .null, .null, .null, .null, .null, .null, .null, .null, .null, .null, .null, .null, .null, .null, .null] [] h k cs ss := by
  have h17 := hG.1
  intro r
  induction r with
  | zero =>
    intro w h m cs ss hr hM hc hs
    refine AW.iload (pc := 48) dL_law_48 rfl ?_
    refine AW.bipush (v := 24) (pc := 50) dL_law_50 (by decide) ?_
    refine AW.icmp_ge (pc := 52) (tgt := 205) dL_law_52 (by decide) (fun _ => ?_) (fun c => absurd (nI_le (a := 24) (by omega) (by omega)) c)
    have e24 : w = 24 := by omega
    subst e24
    exact Kend _ _ _ _ hM (by omega) (by omega)
  | succ r ih =>
    intro w h m cs ss hr hM hc hs
    refine AW.iload (pc := 48) dL_law_48 rfl ?_
    refine AW.bipush (v := 24) (pc := 50) dL_law_50 (by decide) ?_
    refine AW.icmp_ge (pc := 52) (tgt := 205) dL_law_52 (by decide) (fun c => absurd c (nI_ge (b := 24) (by omega) (by decide))) (fun _ => ?_)
    obtain ⟨x, pe, hz, e2, hB⟩ := hM.2.2.2.2
    refine AW.aload_n (pc := 55) dL_law_55 rfl rfl ?_
    refine AW.iload (pc := 56) dL_law_56 rfl ?_
    refine AW.callV (pc := 58) (S' := []) dL_law_58 (c_B_driver (d := 2027) hB (fun l hl => (hT.2 l hl).1) (by omega)) ok_X5_driver tw_781 tw_782 tw_780 (by decide) (hB.1) (show aw_cl[5]? = some _ from rfl) rfl rfl (by omega) rfl (Nat.le_of_ble_eq_true rfl) (by omega) (by omega) ?_ (fun E h' k' hq => by obtain ⟨hx9, -⟩ := hq; try cases hx9)
    intro v h' k' hq
    obtain ⟨hx9, rfl, rfl⟩ := hq
    cases hx9
    show AW _ _ _ _ _ _ _ 61 [.ref 0, .int (nI t), .ref 1, .ref 2, .int (nI w), .null, .null, .null, .null, .null, .null, .null, .null, .null, .null, .null, .null, .null, .null, .null, .null, .null] [.int (if w < n then nI w else -1)] h k cs ss
    by_cases hwn : w < n
    · rw [if_pos hwn]
      refine AW.istore (L' := [.ref 0, .int (nI t), .ref 1, .ref 2, .int (nI w), .int (nI w), .null, .null, .null, .null, .null, .null, .null, .null, .null, .null, .null, .null, .null, .null, .null, .null]) (pc := 61) dL_law_61 (by decide) rfl rfl ?_
      refine AW.aload_n (pc := 63) dL_law_63 rfl rfl ?_
      refine AW.iload (pc := 64) dL_law_64 rfl ?_
      refine AW.callV (pc := 66) (S' := []) dL_law_66 (c_B_isGate (d := 2027) hB hwn) ok_X5_isGate tw_773 tw_774 tw_772 (by decide) (hB.1) (show aw_cl[5]? = some _ from rfl) rfl rfl (by omega) rfl (Nat.le_of_ble_eq_true rfl) (by omega) (by omega) ?_ (fun E h' k' hq => by obtain ⟨hx9, -⟩ := hq; try cases hx9)
      intro v h' k' hq
      obtain ⟨hx9, rfl, rfl⟩ := hq
      cases hx9
      show AW _ _ _ _ _ _ _ 69 [.ref 0, .int (nI t), .ref 1, .ref 2, .int (nI w), .int (nI w), .null, .null, .null, .null, .null, .null, .null, .null, .null, .null, .null, .null, .null, .null, .null, .null] [.int (if T w 0 < 0 then 0 else 1)] h k cs ss
      by_cases hk0 : T w 0 < 0
      · rw [if_pos hk0]
        refine AW.if_eq (pc := 69) (tgt := 199) dL_law_69 (by decide) (fun _ => ?_) (fun c => absurd (rfl) c)
        refine AW.iinc (v := ((nI w) + 1)) (L' := [.ref 0, .int (nI t), .ref 1, .ref 2, .int ((nI w) + 1), .int (nI w), .null, .null, .null, .null, .null, .null, .null, .null, .null, .null, .null, .null, .null, .null, .null, .null]) (pc := 199) dL_law_199 rfl rfl (by decide) rfl rfl ?_
        rw [nI_1 w]
        refine AW.goto (pc := 202) (tgt := 48) dL_law_202 (by decide) ?_
        refine AW.locals (L' := [.ref 0, .int (nI t), .ref 1, .ref 2, .int (nI (w + 1)), .null, .null, .null, .null, .null, .null, .null, .null, .null, .null, .null, .null, .null, .null, .null, .null, .null]) (aw_fewer_same (aw_fewer_same (aw_fewer_same (aw_fewer_same (aw_fewer_same (aw_fewer_null (aw_fewer_null (aw_fewer_null (aw_fewer_null (aw_fewer_null (aw_fewer_null (aw_fewer_null (aw_fewer_null (aw_fewer_null (aw_fewer_null (aw_fewer_null (aw_fewer_null (aw_fewer_null (aw_fewer_null (aw_fewer_null (aw_fewer_null (aw_fewer_null aw_fewer_nil)))))))))))))))))))))) ?_
        exact ih (w + 1) _ _ _ _ (by omega) hM (by omega) (by omega)
      · rw [if_neg hk0]
        refine AW.if_eq (pc := 69) (tgt := 199) dL_law_69 (by decide) (fun c => absurd c (by decide)) (fun _ => ?_)
        refine AW.aload_n (pc := 72) dL_law_72 rfl rfl ?_
        refine AW.iload (pc := 73) dL_law_73 rfl ?_
        obtain ⟨dl, hd20, ed, hav, -⟩ := hG.avg hwn (by rw [(hTG.1 w hwn).1]; exact hk0)
        obtain ⟨ea, hle⟩ := hG.ar (w := w) (by omega)
        refine AW.callRd (pc := 75) (S' := []) dL_law_75 (l_arrival (d := 2027) hM (by decide) (by omega)) hM.1 (by omega) (by simp [aw_ok]) ok_X4_arrival tw_18 tw_19 tw_17 rfl rfl (by omega) rfl (Nat.le_of_ble_eq_true rfl) (by omega) (by omega) ?_
        show AW _ _ _ _ _ _ _ 78 [.ref 0, .int (nI t), .ref 1, .ref 2, .int (nI w), .int (nI w), .null, .null, .null, .null, .null, .null, .null, .null, .null, .null, .null, .null, .null, .null, .null, .null] [.int (AR g n (g 53) w)] h k (cs + 1) (ss + 6)
        rw [ea]
        show AW _ _ _ _ _ _ _ 78 [.ref 0, .int (nI t), .ref 1, .ref 2, .int (nI w), .int (nI w), .null, .null, .null, .null, .null, .null, .null, .null, .null, .null, .null, .null, .null, .null, .null, .null] [.int (nI (av g n w))] h k (cs + 1) (ss + 6)
        refine AW.if_ge (pc := 78) (tgt := 84) dL_law_78 (by decide) (fun _ => ?_) (fun c => absurd (nI_le (a := 0) (by omega) (by omega)) c)
        refine AW.iconst (v := 0) (pc := 84) dL_law_84 (by decide) ?_
        refine AW.istore (L' := [.ref 0, .int (nI t), .ref 1, .ref 2, .int (nI w), .int (nI w), .int (0 : Int32), .null, .null, .null, .null, .null, .null, .null, .null, .null, .null, .null, .null, .null, .null, .null]) (pc := 85) dL_law_85 (by decide) rfl rfl ?_
        refine AW.iconst (v := 2) (pc := 87) dL_law_87 (by decide) ?_
        refine AW.istore (L' := [.ref 0, .int (nI t), .ref 1, .ref 2, .int (nI w), .int (nI w), .int (0 : Int32), .int (2 : Int32), .null, .null, .null, .null, .null, .null, .null, .null, .null, .null, .null, .null, .null, .null]) (pc := 88) dL_law_88 (by decide) rfl rfl ?_
        refine law_pin2 (l := w) (mo := 0) hG hT hTG hM hk hwn (by decide) (by omega) (by omega) fun cs2 ss2 hc2 hs2 => ?_
        refine law_pin3 (l := w) hG hT hTG hM hk hwn (by omega) (by omega) (by omega) fun cs3 ss3 hc3 hs3 => ?_
        refine law_pin4 (l := w) hG hT hTG hM hk hwn (by omega) (by omega) (by omega) fun cs4 ss4 hc4 hs4 => ?_
        generalize hMo : max (max (max 0 (pv g n (g 50 w))) (pv g n (g 51 w))) (pv g n (g 52 w)) = Mo at *
        refine AW.iload (pc := 90) dL_law_90 rfl ?_
        refine AW.iconst (v := 5) (pc := 92) dL_law_92 (by decide) ?_
        refine AW.icmp_ge (pc := 93) (tgt := 141) dL_law_93 (by decide) (fun _ => ?_) (fun c => absurd (by decide) c)
        refine AW.aload_n (pc := 141) dL_law_141 rfl rfl ?_
        refine AW.iload (pc := 142) dL_law_142 rfl ?_
        refine AW.callRd (pc := 144) (S' := []) dL_law_144 (l_arrival (d := 2027) hM (by decide) (by omega)) hM.1 (by omega) (by simp [aw_ok]) ok_X4_arrival tw_18 tw_19 tw_17 rfl rfl (by omega) rfl (Nat.le_of_ble_eq_true rfl) (by omega) (by omega) ?_
        show AW _ _ _ _ _ _ _ 147 [.ref 0, .int (nI t), .ref 1, .ref 2, .int (nI w), .int (nI w), .int (nI Mo), .int (5 : Int32), .null, .null, .null, .null, .null, .null, .null, .null, .null, .null, .null, .null, .null, .null] [.int (AR g n (g 53) w)] h k (cs4 + 1) (ss4 + 6)
        rw [ea]
        show AW _ _ _ _ _ _ _ 147 [.ref 0, .int (nI t), .ref 1, .ref 2, .int (nI w), .int (nI w), .int (nI Mo), .int (5 : Int32), .null, .null, .null, .null, .null, .null, .null, .null, .null, .null, .null, .null, .null, .null] [.int (nI (av g n w))] h k (cs4 + 1) (ss4 + 6)
        refine AW.iload (pc := 147) dL_law_147 rfl ?_
        refine AW.aload_n (pc := 149) dL_law_149 rfl rfl ?_
        refine AW.get (pc := 150) (i := 1) (ci := 5) (f := 4) (N := 14) (C := RX5) (T := TX5) dL_law_150 tw_655 rfl (by decide) rfl (by decide) (hB.1) rfl ?_
        refine AW.iload (pc := 153) dL_law_153 rfl ?_
        refine AW.aald (pc := 155) (n := 30) (f := lnf n) (j := 79 + w) dL_law_155 (by decide) (hB.2.2.1) (vp_in_nI (by omega) (by decide)) (lnf_at hwn (by omega) rfl) ?_
        refine AW.iconst (v := 5) (pc := 156) dL_law_156 (by decide) ?_
        refine AW.iald2 (pc := 157) (n := 8) (g := T w) (j := 5) dL_law_157 (by omega) (hB.2.2.2 w hwn) (vp_lit (by decide)) (by decide) ?_
        refine AW.iadd (pc := 158) dL_law_158 ?_
        rw [show T w 5 = nI dl from ((hTG.1 w hwn).2.2.2.2.2).symm.trans ed, nI_add]
        refine AW.icmp_ne (pc := 159) (tgt := 197) dL_law_159 (by decide) (fun c => absurd (congrArg nI hav) c) (fun _ => ?_)
        refine AW.aload_n (pc := 162) dL_law_162 rfl rfl ?_
        refine AW.iload (pc := 163) dL_law_163 rfl ?_
        refine AW.callRd (pc := 165) (S' := []) dL_law_165 (l_arrival (d := 2027) hM (by decide) (by omega)) hM.1 (by omega) (by simp [aw_ok]) ok_X4_arrival tw_18 tw_19 tw_17 rfl rfl (by omega) rfl (Nat.le_of_ble_eq_true rfl) (by omega) (by omega) ?_
        show AW _ _ _ _ _ _ _ 168 [.ref 0, .int (nI t), .ref 1, .ref 2, .int (nI w), .int (nI w), .int (nI Mo), .int (5 : Int32), .null, .null, .null, .null, .null, .null, .null, .null, .null, .null, .null, .null, .null, .null] [.int (AR g n (g 53) w)] h k ((cs4 + 1) + 1) ((ss4 + 6) + 6)
        rw [ea]
        show AW _ _ _ _ _ _ _ 168 [.ref 0, .int (nI t), .ref 1, .ref 2, .int (nI w), .int (nI w), .int (nI Mo), .int (5 : Int32), .null, .null, .null, .null, .null, .null, .null, .null, .null, .null, .null, .null, .null, .null] [.int (nI (av g n w))] h k ((cs4 + 1) + 1) ((ss4 + 6) + 6)
        refine AW.aload_n (pc := 168) dL_law_168 rfl rfl ?_
        obtain ⟨Lo, q0, eLo, hLo, hmx, -⟩ := hG.top
        refine AW.callRd (pc := 169) (S' := [.int (nI (av g n w))]) dL_law_169 (l_longest (d := 2027) hM (by decide)) hM.1 (by omega) (by simp [aw_ok]) ok_X4_longest tw_98 tw_99 tw_97 rfl rfl (by omega) rfl (Nat.le_of_ble_eq_true rfl) (by omega) (by omega) ?_
        show AW _ _ _ _ _ _ _ 172 [.ref 0, .int (nI t), .ref 1, .ref 2, .int (nI w), .int (nI w), .int (nI Mo), .int (5 : Int32), .null, .null, .null, .null, .null, .null, .null, .null, .null, .null, .null, .null, .null, .null] [.int (S_lng (AR g n (g 53)) 24 0 0), .int (nI (av g n w))] h k (((cs4 + 1) + 1) + 0) (((ss4 + 6) + 6) + 0)
        rw [eLo]
        refine AW.icmp_gt (pc := 172) (tgt := 197) dL_law_172 (by decide) (fun c => absurd c (fun e => by have := (nI_ltI (by omega) (by omega)).mp e; have := hmx w (by omega); omega)) (fun _ => ?_)
        refine AW.aload_n (pc := 175) dL_law_175 rfl rfl ?_
        refine AW.iload (pc := 176) dL_law_176 rfl ?_
        refine AW.aload_n (pc := 178) dL_law_178 rfl rfl ?_
        refine AW.get (pc := 179) (i := 1) (ci := 5) (f := 4) (N := 14) (C := RX5) (T := TX5) dL_law_179 tw_655 rfl (by decide) rfl (by decide) (hB.1) rfl ?_
        refine AW.iload (pc := 182) dL_law_182 rfl ?_
        refine AW.aald (pc := 184) (n := 30) (f := lnf n) (j := 79 + w) dL_law_184 (by decide) (hB.2.2.1) (vp_in_nI (by omega) (by decide)) (lnf_at hwn (by omega) rfl) ?_
        refine AW.iconst (v := 5) (pc := 185) dL_law_185 (by decide) ?_
        refine AW.iald2 (pc := 186) (n := 8) (g := T w) (j := 5) dL_law_186 (by omega) (hB.2.2.2 w hwn) (vp_lit (by decide)) (by decide) ?_
        rw [← (hTG.1 w hwn).2.2.2.2.2]
        show AW _ _ _ _ _ _ _ 187 [.ref 0, .int (nI t), .ref 1, .ref 2, .int (nI w), .int (nI w), .int (nI Mo), .int (5 : Int32), .null, .null, .null, .null, .null, .null, .null, .null, .null, .null, .null, .null, .null, .null] [.int (g 53 w), .int (nI w), .ref 2] h k (((cs4 + 1) + 1) + 0) (((ss4 + 6) + 6) + 0)
        refine AW.callTr (pc := 187) (S' := []) dL_law_187 (l_longestWith (d := 2027) hM (by decide) hwn (fun e => hk0 (by rw [← (hTG.1 w hwn).1, e]; decide))) hM.1 (by omega) (by simp [aw_ok]) ok_X4_longestWith tw_344 tw_345 tw_343 rfl rfl (by omega) rfl (Nat.le_of_ble_eq_true rfl) (by omega) (by omega) ?_
        intro m' h' hS hC' hF'
        show AW _ _ _ _ _ _ _ 190 [.ref 0, .int (nI t), .ref 1, .ref 2, .int (nI w), .int (nI w), .int (nI Mo), .int (5 : Int32), .null, .null, .null, .null, .null, .null, .null, .null, .null, .null, .null, .null, .null, .null] [.int (S_lng (AR g n (g 53)) 24 0 0)] h' k ((((cs4 + 1) + 1) + 0) + 3) ((((ss4 + 6) + 6) + 0) + 18)
        have hM2 := hM.tr hk hS hC' hF'
        obtain ⟨x2, pe2, hz2, e22, hB2⟩ := hM2.2.2.2.2
        refine AW.aload_n (pc := 190) dL_law_190 rfl rfl ?_
        refine AW.callRd (pc := 191) (S' := [.int (S_lng (AR g n (g 53)) 24 0 0)]) dL_law_191 (l_longest (d := 2027) hM2 (by decide)) hM2.1 (by omega) (by simp [aw_ok]) ok_X4_longest tw_98 tw_99 tw_97 rfl rfl (by omega) rfl (Nat.le_of_ble_eq_true rfl) (by omega) (by omega) ?_
        show AW _ _ _ _ _ _ _ 194 [.ref 0, .int (nI t), .ref 1, .ref 2, .int (nI w), .int (nI w), .int (nI Mo), .int (5 : Int32), .null, .null, .null, .null, .null, .null, .null, .null, .null, .null, .null, .null, .null, .null] [.int (S_lng (AR g n (g 53)) 24 0 0), .int (S_lng (AR g n (g 53)) 24 0 0)] h' k (((((cs4 + 1) + 1) + 0) + 3) + 0) (((((ss4 + 6) + 6) + 0) + 18) + 0)
        refine AW.icmp_eq (pc := 194) (tgt := 199) dL_law_194 (by decide) (fun _ => ?_) (fun c => absurd (rfl) c)
        refine AW.iinc (v := ((nI w) + 1)) (L' := [.ref 0, .int (nI t), .ref 1, .ref 2, .int ((nI w) + 1), .int (nI w), .int (nI Mo), .int (5 : Int32), .null, .null, .null, .null, .null, .null, .null, .null, .null, .null, .null, .null, .null, .null]) (pc := 199) dL_law_199 rfl rfl (by decide) rfl rfl ?_
        rw [nI_1 w]
        refine AW.goto (pc := 202) (tgt := 48) dL_law_202 (by decide) ?_
        refine AW.locals (L' := [.ref 0, .int (nI t), .ref 1, .ref 2, .int (nI (w + 1)), .null, .null, .null, .null, .null, .null, .null, .null, .null, .null, .null, .null, .null, .null, .null, .null, .null]) (aw_fewer_same (aw_fewer_same (aw_fewer_same (aw_fewer_same (aw_fewer_same (aw_fewer_null (aw_fewer_null (aw_fewer_null (aw_fewer_null (aw_fewer_null (aw_fewer_null (aw_fewer_null (aw_fewer_null (aw_fewer_null (aw_fewer_null (aw_fewer_null (aw_fewer_null (aw_fewer_null (aw_fewer_null (aw_fewer_null (aw_fewer_null (aw_fewer_null aw_fewer_nil)))))))))))))))))))))) ?_
        exact ih (w + 1) _ _ _ _ (by omega) hM2 (by omega) (by omega)
    · rw [if_neg hwn]
      refine AW.istore (L' := [.ref 0, .int (nI t), .ref 1, .ref 2, .int (nI w), .int (-1), .null, .null, .null, .null, .null, .null, .null, .null, .null, .null, .null, .null, .null, .null, .null, .null]) (pc := 61) dL_law_61 (by decide) rfl rfl ?_
      refine AW.aload_n (pc := 63) dL_law_63 rfl rfl ?_
      refine AW.iload (pc := 64) dL_law_64 rfl ?_
      refine AW.callV (pc := 66) (S' := []) dL_law_66 (c_B_isGate1 (d := 2027) hB) ok_X5_isGate tw_773 tw_774 tw_772 (by decide) (hB.1) (show aw_cl[5]? = some _ from rfl) rfl rfl (by omega) rfl (Nat.le_of_ble_eq_true rfl) (by omega) (by omega) ?_ (fun E h' k' hq => by obtain ⟨hx9, -⟩ := hq; try cases hx9)
      intro v h' k' hq
      obtain ⟨hx9, rfl, rfl⟩ := hq
      cases hx9
      show AW _ _ _ _ _ _ _ 69 [.ref 0, .int (nI t), .ref 1, .ref 2, .int (nI w), .int (-1), .null, .null, .null, .null, .null, .null, .null, .null, .null, .null, .null, .null, .null, .null, .null, .null] [.int 0] h k cs ss
      refine AW.if_eq (pc := 69) (tgt := 199) dL_law_69 (by decide) (fun _ => ?_) (fun c => absurd (rfl) c)
      refine AW.iinc (v := ((nI w) + 1)) (L' := [.ref 0, .int (nI t), .ref 1, .ref 2, .int ((nI w) + 1), .int (-1), .null, .null, .null, .null, .null, .null, .null, .null, .null, .null, .null, .null, .null, .null, .null, .null]) (pc := 199) dL_law_199 rfl rfl (by decide) rfl rfl ?_
      rw [nI_1 w]
      refine AW.goto (pc := 202) (tgt := 48) dL_law_202 (by decide) ?_
      refine AW.locals (L' := [.ref 0, .int (nI t), .ref 1, .ref 2, .int (nI (w + 1)), .null, .null, .null, .null, .null, .null, .null, .null, .null, .null, .null, .null, .null, .null, .null, .null, .null]) (aw_fewer_same (aw_fewer_same (aw_fewer_same (aw_fewer_same (aw_fewer_same (aw_fewer_null (aw_fewer_null (aw_fewer_null (aw_fewer_null (aw_fewer_null (aw_fewer_null (aw_fewer_null (aw_fewer_null (aw_fewer_null (aw_fewer_null (aw_fewer_null (aw_fewer_null (aw_fewer_null (aw_fewer_null (aw_fewer_null (aw_fewer_null (aw_fewer_null aw_fewer_nil)))))))))))))))))))))) ?_
      exact ih (w + 1) _ _ _ _ (by omega) hM (by omega) (by omega)
end LAW
