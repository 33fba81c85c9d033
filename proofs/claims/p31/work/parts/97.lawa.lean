/-! the law's walk: what the class answers while it runs -/
section LCALL
variable {T : Nat → Nat → Int32} {g m : Mem} {n q d : Nat} {h : Hp} {ρ : Rw}
theorem l_arrival {w : Nat} (hM : LM T g n h q ρ m) (hd : 4 ≤ d) (hw : w < 24) : AM mX4_arrival d [.ref 1, .int (nI w)] (layC m) 47 1 6 (CE (RD (AR g n (g 53) w) m)) := k_arrival hM.2.1 hd hw
theorem l_longest (hM : LM T g n h q ρ m) (hd : 4 ≤ d) : AM mX4_longest d [.ref 1] (layC m) 47 0 0 (CE (RD (S_lng (AR g n (g 53)) 24 0 0) m)) := k_longest hM.2.1 hd
theorem l_longestWith {l : Nat} (hM : LM T g n h q ρ m) (hd : 6 ≤ d) (hl : l < n) (hk : ¬ g 48 l = -1) : AM mX4_longestWith d [.ref 1, .int (nI l), .int (g 53 l)] (layC m) 47 3 18 (CE (TR_ (S_lng (AR g n (g 53)) 24 0 0) m)) := k_longestWith hM.2.1 hd hl hk
theorem l_way {p : Int32} (hM : LM T g n h q ρ m) (hd : 5 ≤ d) : AM mX4_way d [.ref 1, .int p] (layC m) 47 0 0 (CE (RD (S_way g n (AR g n (g 53)) p) m)) := k_way hM.2.1 hd
theorem l_told {p : Int32} (hM : LM T g n h q ρ m) (hd : 5 ≤ d) (hp : p = 0 ∨ p = 1 ∨ p = 2 ∨ p = 3 ∨ p = 4 ∨ p = 5) : AM mX4_told d [.ref 1, .int p] (layC m) 47 1 6 (CE (RD (S_told n ρ p) m)) := by
  obtain ⟨-, hI, -, rfl, -⟩ := hM; exact k_told hI hd hp
theorem l_ofWire {w p : Nat} (hM : LM T g n h q ρ m) (hd : 4 ≤ d) (hw : w < 24) (hp : p < 4) : AM mX4_ofWire d [.ref 1, .int (nI w), .int (nI p)] (layC m) 47 2 12 (CE (RD (ρ (6 + p * 24 + w)) m)) := by
  obtain ⟨-, hI, -, rfl, -⟩ := hM; exact k_ofWire hI hd hw hp
theorem l_pending {l : Nat} (hM : LM T g n h q ρ m) (hd : 3 ≤ d) (hl : l < n) : AM mX4_pending d [.ref 1, .int (nI l)] (layC m) 47 1 6 (CE (RD (ρ (102 + l)) m)) := by
  obtain ⟨-, hI, -, rfl, -⟩ := hM; exact k_pending hI hd hl
theorem l_hazards (hM : LM T g n h q ρ m) (hd : 2 ≤ d) : AM mX4_hazards d [.ref 1] (layC m) 47 0 0 (CE (RD (ρ 5) m)) := by
  obtain ⟨-, hI, -, rfl, -⟩ := hM; exact k_hazards hI hd
theorem l_ofHazard {H k p : Nat} (hM : LM T g n h q ρ m) (hd : 2 ≤ d) (hH : H ≤ 40) (e5 : ρ 5 = nI H) (hk : k < H) (hp : p < 3) : AM mX4_ofHazard d [.ref 1, .int (nI k), .int (nI p)] (layC m) 47 1 6 (CE (RD (ρ (222 + (3 * k + p))) m)) := by
  obtain ⟨-, hI, -, rfl, -⟩ := hM; exact k_ofHazard hI hd hH e5 hk hp
theorem l_set {w : Nat} {v : Int32} (hM : LM T g n h q ρ m) (hd : 7 ≤ d) (hw : w < 24) (inp : S_inp g n w) (hv : v = 0 ∨ v = 1) : AM mX4_set d [.ref 1, .int (nI w), .int v] (layC m) 47 3 18 (CE (RN (ρ (6 + w)) m (S_set g n w v ρ))) := by
  obtain ⟨-, hI, run, rfl, -⟩ := hM; exact k_set hI hd (by rw [run]; decide) hw inp hv
theorem l_pass {p : Nat} (hM : LM T g n h q ρ m) (hd : 7 ≤ d) (hp : p ≤ 100) : AM mX4_pass d [.ref 1, .int (nI p)] (layC m) 47 2 12 (CE (RN (S_pass g n (ρ 0 + nI p) ρ 3 - ρ 3) m (upd (S_pass g n (ρ 0 + nI p) ρ) 0 (ρ 0 + nI p)))) := by
  obtain ⟨-, hI, run, rfl, -⟩ := hM; exact k_pass hI hd (by rw [run]; decide) hp
theorem l_settle (hM : LM T g n h q ρ m) (hd : 8 ≤ d) : AM mX4_settle d [.ref 1] (layC m) 47 1 6 (CE (RN (S_pass g n 2147483647 ρ 3 - ρ 3) m (S_settle g n ρ))) := by
  obtain ⟨-, hI, run, rfl, -⟩ := hM; exact k_settle hI hd (by rw [run]; decide)
theorem l_settlesIn (hM : LM T g n h q ρ m) (hd : 7 ≤ d) : AM mX4_settlesIn d [.ref 1] (layC m) 47 1 6 (CE (TR_ (S_inn g n ρ) m)) := by
  obtain ⟨-, hI, run, rfl, -⟩ := hM; exact k_settlesIn hI hd (by rw [run]; decide)
theorem l_wouldBe {w y : Nat} {v : Int32} (hM : LM T g n h q ρ m) (hd : 8 ≤ d) (hw : w < 24) (hy : y < 24) (inp : S_inp g n w) (hv : v = 0 ∨ v = 1) : AM mX4_wouldBe d [.ref 1, .int (nI w), .int v, .int (nI y)] (layC m) 47 4 24 (CE (TR_ (S_settle g n (S_set g n w v ρ) (6 + y)) m)) := by
  obtain ⟨-, hI, run, rfl, -⟩ := hM; exact k_wouldBe hI hd (by rw [run]; decide) hw hy inp hv
theorem l_digest (hM : LM T g n h q ρ m) (hd : 8 ≤ d) : AM mX4_digest d [.ref 1] (layC m) 47 613 3678 (CE (TL (S_dig g n (AR g n (g 53)) ρ 1) m)) := by
  obtain ⟨-, hI, run, rfl, -⟩ := hM
  have e : m 47 11 = 1 := by rw [← hI.2.2.2.2.2.2.2.1.1]; exact run
  rw [← e]
  exact k_digest (by decide) hI hd
end LCALL
section LAW
variable {Ls : Nat} {xs : Nat → Int32} {T : Nat → Nat → Int32} {g m : Mem} {n k t q cs ss : Nat} {h : Hp} {ρ : Rw}
set_option maxRecDepth 100000 in
set_option maxHeartbeats 4000000 in
theorem law_pin2 {l mo : Nat} (hG : GD g n) (hT : gT T n) (hTG : TG T g n) (hM : LM T g n h q ρ m) (hk : 79 + n ≤ k) (hl : l < n) (hmo : mo ≤ 480) (hcs : cs + 1 ≤ 600074) (hss : ss + 6 ≤ 7301550) (Kn : ∀ cs2 ss2, cs2 ≤ cs + 1 → ss2 ≤ ss + 6 → AW (aw_ZL Ls xs) mlaw 2028 1 600074 7301550 aw_QL 90 [.ref 0, .int (nI t), .ref 1, .ref 2, .int (nI l), .int (nI l), .int (nI (max mo (pv g n (g 50 l)))), .int (3 : Int32), .null, .null, .null, .null, .null, .null, .null, .null, .null, .null, .null, .null, .null, .null] [] h k cs2 ss2) : AW (aw_ZL Ls xs) mlaw 2028 1 600074 7301550 aw_QL 90 [.ref 0, .int (nI t), .ref 1, .ref 2, .int (nI l), .int (nI l), .int (nI mo), .int (2 : Int32), .null, .null, .null, .null, .null, .null, .null, .null, .null, .null, .null, .null, .null, .null] [] h k cs ss := by
  have h17 := hG.1
  have hTl : g 50 l = T l 2 := (hTG.1 l hl).2.2.1
  refine AW.iload (pc := 90) dL_law_90 rfl ?_
  refine AW.iconst (v := 5) (pc := 92) dL_law_92 (by decide) ?_
  refine AW.icmp_ge (pc := 93) (tgt := 141) dL_law_93 (by decide) (fun c => absurd c (by decide)) (fun _ => ?_)
  obtain ⟨x, pe, hz, e2, hB⟩ := hM.2.2.2.2
  refine AW.aload_n (pc := 96) dL_law_96 rfl rfl ?_
  refine AW.get (pc := 97) (i := 1) (ci := 5) (f := 4) (N := 14) (C := RX5) (T := TX5) dL_law_97 tw_655 rfl (by decide) rfl (by decide) (hB.1) rfl ?_
  refine AW.iload (pc := 100) dL_law_100 rfl ?_
  refine AW.aald (pc := 102) (n := 30) (f := lnf n) (j := 79 + l) dL_law_102 (by decide) (hB.2.2.1) (vp_in_nI (by omega) (by decide)) (lnf_at hl (by omega) rfl) ?_
  refine AW.iload (pc := 103) dL_law_103 rfl ?_
  refine AW.iald2 (pc := 105) (n := 8) (g := T l) (j := 2) dL_law_105 (by omega) (hB.2.2.2 l hl) (vp_lit (by decide)) (by decide) ?_
  refine AW.if_ge (pc := 106) (tgt := 114) dL_law_106 (by decide) (fun c => ?_) (fun c => ?_)
  · refine AW.iload (pc := 114) dL_law_114 rfl ?_
    refine AW.aload_n (pc := 116) dL_law_116 rfl rfl ?_
    refine AW.aload_n (pc := 117) dL_law_117 rfl rfl ?_
    refine AW.get (pc := 118) (i := 1) (ci := 5) (f := 4) (N := 14) (C := RX5) (T := TX5) dL_law_118 tw_655 rfl (by decide) rfl (by decide) (hB.1) rfl ?_
    refine AW.iload (pc := 121) dL_law_121 rfl ?_
    refine AW.aald (pc := 123) (n := 30) (f := lnf n) (j := 79 + l) dL_law_123 (by decide) (hB.2.2.1) (vp_in_nI (by omega) (by decide)) (lnf_at hl (by omega) rfl) ?_
    refine AW.iload (pc := 124) dL_law_124 rfl ?_
    refine AW.iald2 (pc := 126) (n := 8) (g := T l) (j := 2) dL_law_126 (by omega) (hB.2.2.2 l hl) (vp_lit (by decide)) (by decide) ?_
    rw [← hTl] at c
    obtain ⟨a, ha, ea⟩ := (hT.pin hl (k := 2) (by omega)).resolve_left (fun e => by rw [hTl, e] at c; exact absurd c (by decide))
    rw [ea]
    refine AW.callRd (pc := 127) (S' := [.int (nI mo)]) dL_law_127 (l_arrival (d := 2027) hM (by decide) (by omega)) hM.1 (by omega) (by simp [aw_ok]) ok_X4_arrival tw_18 tw_19 tw_17 rfl rfl (by omega) rfl (Nat.le_of_ble_eq_true rfl) (by omega) (by omega) ?_
    show AW _ _ _ _ _ _ _ 130 [.ref 0, .int (nI t), .ref 1, .ref 2, .int (nI l), .int (nI l), .int (nI mo), .int (2 : Int32), .null, .null, .null, .null, .null, .null, .null, .null, .null, .null, .null, .null, .null, .null] [.int (AR g n (g 53) a), .int (nI mo)] h k (cs + 1) (ss + 6)
    rw [(hG.ar (w := a) (by omega)).1]
    show AW _ _ _ _ _ _ _ 130 [.ref 0, .int (nI t), .ref 1, .ref 2, .int (nI l), .int (nI l), .int (nI mo), .int (2 : Int32), .null, .null, .null, .null, .null, .null, .null, .null, .null, .null, .null, .null, .null, .null] [.int (nI (av g n a)), .int (nI mo)] h k (cs + 1) (ss + 6)
    refine AW.mmax (pc := 130) dL_law_130 tw_863 tw_106 tw_14 (Nat.le_of_ble_eq_true rfl) (by omega) (by omega) ?_
    rw [jmax_nI (by omega) (by have := (hG.ar (w := a) (by omega)).2; omega)]
    refine AW.istore (L' := [.ref 0, .int (nI t), .ref 1, .ref 2, .int (nI l), .int (nI l), .int (nI (max mo (av g n a))), .int (2 : Int32), .null, .null, .null, .null, .null, .null, .null, .null, .null, .null, .null, .null, .null, .null]) (pc := 133) dL_law_133 (by decide) rfl rfl ?_
    refine AW.iinc (v := ((2 : Int32) + 1)) (L' := [.ref 0, .int (nI t), .ref 1, .ref 2, .int (nI l), .int (nI l), .int (nI (max mo (av g n a))), .int ((2 : Int32) + 1), .null, .null, .null, .null, .null, .null, .null, .null, .null, .null, .null, .null, .null, .null]) (pc := 135) dL_law_135 rfl rfl (by decide) rfl rfl ?_
    refine AW.goto (pc := 138) (tgt := 90) dL_law_138 (by decide) ?_
    have ep : pv g n (g 50 l) = av g n a := by unfold pv; rw [hTl, ea, if_neg (nI_pos (by omega)), cl_nI (by omega)]
    rw [← ep]
    exact Kn _ _ (by omega) (by omega)
  · refine AW.iload (pc := 109) dL_law_109 rfl ?_
    refine AW.goto (pc := 111) (tgt := 133) dL_law_111 (by decide) ?_
    refine AW.istore (L' := [.ref 0, .int (nI t), .ref 1, .ref 2, .int (nI l), .int (nI l), .int (nI mo), .int (2 : Int32), .null, .null, .null, .null, .null, .null, .null, .null, .null, .null, .null, .null, .null, .null]) (pc := 133) dL_law_133 (by decide) rfl rfl ?_
    refine AW.iinc (v := ((2 : Int32) + 1)) (L' := [.ref 0, .int (nI t), .ref 1, .ref 2, .int (nI l), .int (nI l), .int (nI mo), .int ((2 : Int32) + 1), .null, .null, .null, .null, .null, .null, .null, .null, .null, .null, .null, .null, .null, .null]) (pc := 135) dL_law_135 rfl rfl (by decide) rfl rfl ?_
    refine AW.goto (pc := 138) (tgt := 90) dL_law_138 (by decide) ?_
    rw [← hTl] at c
    have ep : pv g n (g 50 l) = 0 := if_pos (Int32.not_le.mp c)
    rw [ep, Nat.max_eq_left (Nat.zero_le mo)] at Kn
    exact Kn _ _ (by omega) (by omega)
set_option maxRecDepth 100000 in
set_option maxHeartbeats 4000000 in
theorem law_pin3 {l mo : Nat} (hG : GD g n) (hT : gT T n) (hTG : TG T g n) (hM : LM T g n h q ρ m) (hk : 79 + n ≤ k) (hl : l < n) (hmo : mo ≤ 480) (hcs : cs + 1 ≤ 600074) (hss : ss + 6 ≤ 7301550) (Kn : ∀ cs2 ss2, cs2 ≤ cs + 1 → ss2 ≤ ss + 6 → AW (aw_ZL Ls xs) mlaw 2028 1 600074 7301550 aw_QL 90 [.ref 0, .int (nI t), .ref 1, .ref 2, .int (nI l), .int (nI l), .int (nI (max mo (pv g n (g 51 l)))), .int (4 : Int32), .null, .null, .null, .null, .null, .null, .null, .null, .null, .null, .null, .null, .null, .null] [] h k cs2 ss2) : AW (aw_ZL Ls xs) mlaw 2028 1 600074 7301550 aw_QL 90 [.ref 0, .int (nI t), .ref 1, .ref 2, .int (nI l), .int (nI l), .int (nI mo), .int (3 : Int32), .null, .null, .null, .null, .null, .null, .null, .null, .null, .null, .null, .null, .null, .null] [] h k cs ss := by
  have h17 := hG.1
  have hTl : g 51 l = T l 3 := (hTG.1 l hl).2.2.2.1
  refine AW.iload (pc := 90) dL_law_90 rfl ?_
  refine AW.iconst (v := 5) (pc := 92) dL_law_92 (by decide) ?_
  refine AW.icmp_ge (pc := 93) (tgt := 141) dL_law_93 (by decide) (fun c => absurd c (by decide)) (fun _ => ?_)
  obtain ⟨x, pe, hz, e2, hB⟩ := hM.2.2.2.2
  refine AW.aload_n (pc := 96) dL_law_96 rfl rfl ?_
  refine AW.get (pc := 97) (i := 1) (ci := 5) (f := 4) (N := 14) (C := RX5) (T := TX5) dL_law_97 tw_655 rfl (by decide) rfl (by decide) (hB.1) rfl ?_
  refine AW.iload (pc := 100) dL_law_100 rfl ?_
  refine AW.aald (pc := 102) (n := 30) (f := lnf n) (j := 79 + l) dL_law_102 (by decide) (hB.2.2.1) (vp_in_nI (by omega) (by decide)) (lnf_at hl (by omega) rfl) ?_
  refine AW.iload (pc := 103) dL_law_103 rfl ?_
  refine AW.iald2 (pc := 105) (n := 8) (g := T l) (j := 3) dL_law_105 (by omega) (hB.2.2.2 l hl) (vp_lit (by decide)) (by decide) ?_
  refine AW.if_ge (pc := 106) (tgt := 114) dL_law_106 (by decide) (fun c => ?_) (fun c => ?_)
  · refine AW.iload (pc := 114) dL_law_114 rfl ?_
    refine AW.aload_n (pc := 116) dL_law_116 rfl rfl ?_
    refine AW.aload_n (pc := 117) dL_law_117 rfl rfl ?_
    refine AW.get (pc := 118) (i := 1) (ci := 5) (f := 4) (N := 14) (C := RX5) (T := TX5) dL_law_118 tw_655 rfl (by decide) rfl (by decide) (hB.1) rfl ?_
    refine AW.iload (pc := 121) dL_law_121 rfl ?_
    refine AW.aald (pc := 123) (n := 30) (f := lnf n) (j := 79 + l) dL_law_123 (by decide) (hB.2.2.1) (vp_in_nI (by omega) (by decide)) (lnf_at hl (by omega) rfl) ?_
    refine AW.iload (pc := 124) dL_law_124 rfl ?_
    refine AW.iald2 (pc := 126) (n := 8) (g := T l) (j := 3) dL_law_126 (by omega) (hB.2.2.2 l hl) (vp_lit (by decide)) (by decide) ?_
    rw [← hTl] at c
    obtain ⟨a, ha, ea⟩ := (hT.pin hl (k := 3) (by omega)).resolve_left (fun e => by rw [hTl, e] at c; exact absurd c (by decide))
    rw [ea]
    refine AW.callRd (pc := 127) (S' := [.int (nI mo)]) dL_law_127 (l_arrival (d := 2027) hM (by decide) (by omega)) hM.1 (by omega) (by simp [aw_ok]) ok_X4_arrival tw_18 tw_19 tw_17 rfl rfl (by omega) rfl (Nat.le_of_ble_eq_true rfl) (by omega) (by omega) ?_
    show AW _ _ _ _ _ _ _ 130 [.ref 0, .int (nI t), .ref 1, .ref 2, .int (nI l), .int (nI l), .int (nI mo), .int (3 : Int32), .null, .null, .null, .null, .null, .null, .null, .null, .null, .null, .null, .null, .null, .null] [.int (AR g n (g 53) a), .int (nI mo)] h k (cs + 1) (ss + 6)
    rw [(hG.ar (w := a) (by omega)).1]
    show AW _ _ _ _ _ _ _ 130 [.ref 0, .int (nI t), .ref 1, .ref 2, .int (nI l), .int (nI l), .int (nI mo), .int (3 : Int32), .null, .null, .null, .null, .null, .null, .null, .null, .null, .null, .null, .null, .null, .null] [.int (nI (av g n a)), .int (nI mo)] h k (cs + 1) (ss + 6)
    refine AW.mmax (pc := 130) dL_law_130 tw_863 tw_106 tw_14 (Nat.le_of_ble_eq_true rfl) (by omega) (by omega) ?_
    rw [jmax_nI (by omega) (by have := (hG.ar (w := a) (by omega)).2; omega)]
    refine AW.istore (L' := [.ref 0, .int (nI t), .ref 1, .ref 2, .int (nI l), .int (nI l), .int (nI (max mo (av g n a))), .int (3 : Int32), .null, .null, .null, .null, .null, .null, .null, .null, .null, .null, .null, .null, .null, .null]) (pc := 133) dL_law_133 (by decide) rfl rfl ?_
    refine AW.iinc (v := ((3 : Int32) + 1)) (L' := [.ref 0, .int (nI t), .ref 1, .ref 2, .int (nI l), .int (nI l), .int (nI (max mo (av g n a))), .int ((3 : Int32) + 1), .null, .null, .null, .null, .null, .null, .null, .null, .null, .null, .null, .null, .null, .null]) (pc := 135) dL_law_135 rfl rfl (by decide) rfl rfl ?_
    refine AW.goto (pc := 138) (tgt := 90) dL_law_138 (by decide) ?_
    have ep : pv g n (g 51 l) = av g n a := by unfold pv; rw [hTl, ea, if_neg (nI_pos (by omega)), cl_nI (by omega)]
    rw [← ep]
    exact Kn _ _ (by omega) (by omega)
  · refine AW.iload (pc := 109) dL_law_109 rfl ?_
    refine AW.goto (pc := 111) (tgt := 133) dL_law_111 (by decide) ?_
    refine AW.istore (L' := [.ref 0, .int (nI t), .ref 1, .ref 2, .int (nI l), .int (nI l), .int (nI mo), .int (3 : Int32), .null, .null, .null, .null, .null, .null, .null, .null, .null, .null, .null, .null, .null, .null]) (pc := 133) dL_law_133 (by decide) rfl rfl ?_
    refine AW.iinc (v := ((3 : Int32) + 1)) (L' := [.ref 0, .int (nI t), .ref 1, .ref 2, .int (nI l), .int (nI l), .int (nI mo), .int ((3 : Int32) + 1), .null, .null, .null, .null, .null, .null, .null, .null, .null, .null, .null, .null, .null, .null]) (pc := 135) dL_law_135 rfl rfl (by decide) rfl rfl ?_
    refine AW.goto (pc := 138) (tgt := 90) dL_law_138 (by decide) ?_
    rw [← hTl] at c
    have ep : pv g n (g 51 l) = 0 := if_pos (Int32.not_le.mp c)
    rw [ep, Nat.max_eq_left (Nat.zero_le mo)] at Kn
    exact Kn _ _ (by omega) (by omega)
set_option maxRecDepth 100000 in
set_option maxHeartbeats 4000000 in
theorem law_pin4 {l mo : Nat} (hG : GD g n) (hT : gT T n) (hTG : TG T g n) (hM : LM T g n h q ρ m) (hk : 79 + n ≤ k) (hl : l < n) (hmo : mo ≤ 480) (hcs : cs + 1 ≤ 600074) (hss : ss + 6 ≤ 7301550) (Kn : ∀ cs2 ss2, cs2 ≤ cs + 1 → ss2 ≤ ss + 6 → AW (aw_ZL Ls xs) mlaw 2028 1 600074 7301550 aw_QL 90 [.ref 0, .int (nI t), .ref 1, .ref 2, .int (nI l), .int (nI l), .int (nI (max mo (pv g n (g 52 l)))), .int (5 : Int32), .null, .null, .null, .null, .null, .null, .null, .null, .null, .null, .null, .null, .null, .null] [] h k cs2 ss2) : AW (aw_ZL Ls xs) mlaw 2028 1 600074 7301550 aw_QL 90 [.ref 0, .int (nI t), .ref 1, .ref 2, .int (nI l), .int (nI l), .int (nI mo), .int (4 : Int32), .null, .null, .null, .null, .null, .null, .null, .null, .null, .null, .null, .null, .null, .null] [] h k cs ss := by
  have h17 := hG.1
  have hTl : g 52 l = T l 4 := (hTG.1 l hl).2.2.2.2.1
  refine AW.iload (pc := 90) dL_law_90 rfl ?_
  refine AW.iconst (v := 5) (pc := 92) dL_law_92 (by decide) ?_
  refine AW.icmp_ge (pc := 93) (tgt := 141) dL_law_93 (by decide) (fun c => absurd c (by decide)) (fun _ => ?_)
  obtain ⟨x, pe, hz, e2, hB⟩ := hM.2.2.2.2
  refine AW.aload_n (pc := 96) dL_law_96 rfl rfl ?_
  refine AW.get (pc := 97) (i := 1) (ci := 5) (f := 4) (N := 14) (C := RX5) (T := TX5) dL_law_97 tw_655 rfl (by decide) rfl (by decide) (hB.1) rfl ?_
  refine AW.iload (pc := 100) dL_law_100 rfl ?_
  refine AW.aald (pc := 102) (n := 30) (f := lnf n) (j := 79 + l) dL_law_102 (by decide) (hB.2.2.1) (vp_in_nI (by omega) (by decide)) (lnf_at hl (by omega) rfl) ?_
  refine AW.iload (pc := 103) dL_law_103 rfl ?_
  refine AW.iald2 (pc := 105) (n := 8) (g := T l) (j := 4) dL_law_105 (by omega) (hB.2.2.2 l hl) (vp_lit (by decide)) (by decide) ?_
  refine AW.if_ge (pc := 106) (tgt := 114) dL_law_106 (by decide) (fun c => ?_) (fun c => ?_)
  · refine AW.iload (pc := 114) dL_law_114 rfl ?_
    refine AW.aload_n (pc := 116) dL_law_116 rfl rfl ?_
    refine AW.aload_n (pc := 117) dL_law_117 rfl rfl ?_
    refine AW.get (pc := 118) (i := 1) (ci := 5) (f := 4) (N := 14) (C := RX5) (T := TX5) dL_law_118 tw_655 rfl (by decide) rfl (by decide) (hB.1) rfl ?_
    refine AW.iload (pc := 121) dL_law_121 rfl ?_
    refine AW.aald (pc := 123) (n := 30) (f := lnf n) (j := 79 + l) dL_law_123 (by decide) (hB.2.2.1) (vp_in_nI (by omega) (by decide)) (lnf_at hl (by omega) rfl) ?_
    refine AW.iload (pc := 124) dL_law_124 rfl ?_
    refine AW.iald2 (pc := 126) (n := 8) (g := T l) (j := 4) dL_law_126 (by omega) (hB.2.2.2 l hl) (vp_lit (by decide)) (by decide) ?_
    rw [← hTl] at c
    obtain ⟨a, ha, ea⟩ := (hT.pin hl (k := 4) (by omega)).resolve_left (fun e => by rw [hTl, e] at c; exact absurd c (by decide))
    rw [ea]
    refine AW.callRd (pc := 127) (S' := [.int (nI mo)]) dL_law_127 (l_arrival (d := 2027) hM (by decide) (by omega)) hM.1 (by omega) (by simp [aw_ok]) ok_X4_arrival tw_18 tw_19 tw_17 rfl rfl (by omega) rfl (Nat.le_of_ble_eq_true rfl) (by omega) (by omega) ?_
    show AW _ _ _ _ _ _ _ 130 [.ref 0, .int (nI t), .ref 1, .ref 2, .int (nI l), .int (nI l), .int (nI mo), .int (4 : Int32), .null, .null, .null, .null, .null, .null, .null, .null, .null, .null, .null, .null, .null, .null] [.int (AR g n (g 53) a), .int (nI mo)] h k (cs + 1) (ss + 6)
    rw [(hG.ar (w := a) (by omega)).1]
    show AW _ _ _ _ _ _ _ 130 [.ref 0, .int (nI t), .ref 1, .ref 2, .int (nI l), .int (nI l), .int (nI mo), .int (4 : Int32), .null, .null, .null, .null, .null, .null, .null, .null, .null, .null, .null, .null, .null, .null] [.int (nI (av g n a)), .int (nI mo)] h k (cs + 1) (ss + 6)
    refine AW.mmax (pc := 130) dL_law_130 tw_863 tw_106 tw_14 (Nat.le_of_ble_eq_true rfl) (by omega) (by omega) ?_
    rw [jmax_nI (by omega) (by have := (hG.ar (w := a) (by omega)).2; omega)]
    refine AW.istore (L' := [.ref 0, .int (nI t), .ref 1, .ref 2, .int (nI l), .int (nI l), .int (nI (max mo (av g n a))), .int (4 : Int32), .null, .null, .null, .null, .null, .null, .null, .null, .null, .null, .null, .null, .null, .null]) (pc := 133) dL_law_133 (by decide) rfl rfl ?_
    refine AW.iinc (v := ((4 : Int32) + 1)) (L' := [.ref 0, .int (nI t), .ref 1, .ref 2, .int (nI l), .int (nI l), .int (nI (max mo (av g n a))), .int ((4 : Int32) + 1), .null, .null, .null, .null, .null, .null, .null, .null, .null, .null, .null, .null, .null, .null]) (pc := 135) dL_law_135 rfl rfl (by decide) rfl rfl ?_
    refine AW.goto (pc := 138) (tgt := 90) dL_law_138 (by decide) ?_
    have ep : pv g n (g 52 l) = av g n a := by unfold pv; rw [hTl, ea, if_neg (nI_pos (by omega)), cl_nI (by omega)]
    rw [← ep]
    exact Kn _ _ (by omega) (by omega)
  · refine AW.iload (pc := 109) dL_law_109 rfl ?_
    refine AW.goto (pc := 111) (tgt := 133) dL_law_111 (by decide) ?_
    refine AW.istore (L' := [.ref 0, .int (nI t), .ref 1, .ref 2, .int (nI l), .int (nI l), .int (nI mo), .int (4 : Int32), .null, .null, .null, .null, .null, .null, .null, .null, .null, .null, .null, .null, .null, .null]) (pc := 133) dL_law_133 (by decide) rfl rfl ?_
    refine AW.iinc (v := ((4 : Int32) + 1)) (L' := [.ref 0, .int (nI t), .ref 1, .ref 2, .int (nI l), .int (nI l), .int (nI mo), .int ((4 : Int32) + 1), .null, .null, .null, .null, .null, .null, .null, .null, .null, .null, .null, .null, .null, .null]) (pc := 135) dL_law_135 rfl rfl (by decide) rfl rfl ?_
    refine AW.goto (pc := 138) (tgt := 90) dL_law_138 (by decide) ?_
    rw [← hTl] at c
    have ep : pv g n (g 52 l) = 0 := if_pos (Int32.not_le.mp c)
    rw [ep, Nat.max_eq_left (Nat.zero_le mo)] at Kn
    exact Kn _ _ (by omega) (by omega)
end LAW
