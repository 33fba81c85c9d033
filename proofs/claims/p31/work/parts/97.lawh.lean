/-! the law's walk: what the gates are -/
theorem gate_out {g : Mem} {n now B l q a : Nat} {T : Nat → Nat → Int32} {ρ : Rw} {Bv : Int32} (hG : GD g n) (hTG : TG T g n) (hS : SI g n now B ρ) (hgs : GCo g n ρ) (hl : l < n) (hp : ρ (102 + l) = -1) (hq : q < 7) (e0 : T l 0 = nI q) (e2 : T l 2 = nI a) (ha : a < 24) (hb : q < 2 ∨ ∃ b : Nat, b < 24 ∧ T l 3 = nI b ∧ Bv = ρ (6 + b)) : ρ (6 + l) = S_work (nI q) (ρ (6 + a)) Bv 2 := by
  obtain ⟨t0, t1, t2, t3, t4, t5⟩ := hTG.1 l hl
  have ek : g 48 l = nI q := t0.trans e0
  have hk : ¬ g 48 l < 0 := by rw [ek]; exact nI_pos (by omega)
  have h := (hgs l hl hk).rest hp (fun e => by
    have hv := hS.2.2.2.2.2.2.2.reckon (hG.wf l hl)
    rcases hv with x | x | x <;> (rw [x] at e; revert e; decide))
  rw [h]
  unfold S_reckon
  rw [ek, show S_val ρ (g 50 l) = ρ (6 + a) by rw [S_val, t2, e2, cl_nI (by omega)]]
  refine S_work_irr (by omega) ?_ (Or.inl (by omega))
  rcases hb with hb | ⟨b, hb, e3, eb⟩
  · exact Or.inl hb
  · right
    rw [t3, e3, if_neg (nI_m1 (by omega)), S_val, cl_nI (by omega), eb]
section LAW
variable {Ls : Nat} {xs : Nat → Int32} {T : Nat → Nat → Int32} {g m : Mem} {n k t q cs ss : Nat} {h : Hp} {ρ : Rw}
set_option maxRecDepth 100000 in
set_option maxHeartbeats 4000000 in
theorem law_gates {sp : Int32} {now B cs0 ss0 : Nat} (hG : GD g n) (hT : gT T n) (hTG : TG T g n) (hM : LM T g n h q ρ m) (hS : SI g n now B ρ) (hgs : GCo g n ρ) (hp : ∀ l, l < n → ρ (102 + l) = -1) (hk : 79 + n ≤ k) (hcs : cs0 + 110 ≤ 600074) (hss : ss0 + 660 ≤ 7301550) (Kend : ∀ (cs2 ss2 : Nat), cs2 ≤ cs0 + 110 → ss2 ≤ ss0 + 660 → AW (aw_ZL Ls xs) mlaw 2028 1 600074 7301550 aw_QL 1040 [.ref 0, .int (nI t), .ref 1, .ref 2, .null, .int sp, .null, .null, .null, .null, .null, .null, .null, .null, .null, .null, .null, .int (nI n), .null, .null, .null, .null] [] h k cs2 ss2) : AW (aw_ZL Ls xs) mlaw 2028 1 600074 7301550 aw_QL 804 [.ref 0, .int (nI t), .ref 1, .ref 2, .null, .int sp, .null, .null, .null, .null, .null, .null, .null, .null, .null, .null, .null, .null, .null, .null, .null, .null] [] h k cs0 ss0 := by
  have h17 := hG.1
  have loop : ∀ (r l : Nat) (cs ss : Nat), l + r = n → cs ≤ cs0 + 6 * l → ss ≤ ss0 + 36 * l → AW (aw_ZL Ls xs) mlaw 2028 1 600074 7301550 aw_QL 807 [.ref 0, .int (nI t), .ref 1, .ref 2, .null, .int sp, .null, .null, .null, .null, .null, .null, .null, .null, .null, .null, .null, .int (nI l), .null, .null, .null, .null] [] h k cs ss := by
    intro r
    induction r with
    | zero =>
      intro l cs ss hr hc hs
      obtain ⟨x, pe, hz, e2, hB⟩ := hM.2.2.2.2
      refine AW.iload (pc := 807) dL_law_807 rfl ?_
      refine AW.aload_n (pc := 809) dL_law_809 rfl rfl ?_
      refine AW.get (pc := 810) (i := 1) (ci := 5) (f := 3) (N := 14) (C := RX5) (T := TX5) dL_law_810 tw_652 rfl (by decide) rfl (by decide) (hB.1) rfl ?_
      rw [hB.2.1.1]
      refine AW.icmp_ge (pc := 813) (tgt := 1040) dL_law_813 (by decide) (fun _ => ?_) (fun c => absurd (nI_le (by omega) (by omega)) c)
      have eln : l = n := by omega
      subst eln
      exact Kend _ _ (by omega) (by omega)
    | succ r ih =>
      intro l cs ss hr hc hs
      have hl : l < n := by omega
      obtain ⟨x, pe, hz, e2, hB⟩ := hM.2.2.2.2
      refine AW.iload (pc := 807) dL_law_807 rfl ?_
      refine AW.aload_n (pc := 809) dL_law_809 rfl rfl ?_
      refine AW.get (pc := 810) (i := 1) (ci := 5) (f := 3) (N := 14) (C := RX5) (T := TX5) dL_law_810 tw_652 rfl (by decide) rfl (by decide) (hB.1) rfl ?_
      rw [hB.2.1.1]
      refine AW.icmp_ge (pc := 813) (tgt := 1040) dL_law_813 (by decide) (fun c => absurd c (nI_ge hl (by omega))) (fun _ => ?_)
      refine AW.aload_n (pc := 816) dL_law_816 rfl rfl ?_
      refine AW.get (pc := 817) (i := 1) (ci := 5) (f := 4) (N := 14) (C := RX5) (T := TX5) dL_law_817 tw_655 rfl (by decide) rfl (by decide) (hB.1) rfl ?_
      refine AW.iload (pc := 820) dL_law_820 rfl ?_
      refine AW.aald (pc := 822) (n := 30) (f := lnf n) (j := 79 + l) dL_law_822 (by decide) (hB.2.2.1) (vp_in_nI (by omega) (by decide)) (lnf_at hl (by omega) rfl) ?_
      refine AW.astore (L' := [.ref 0, .int (nI t), .ref 1, .ref 2, .null, .int sp, .null, .null, .null, .null, .null, .null, .null, .null, .null, .null, .null, .int (nI l), .ref (79 + l), .null, .null, .null]) (pc := 823) dL_law_823 (by decide) rfl rfl ?_
      refine AW.aload (pc := 825) dL_law_825 rfl ?_
      refine AW.iconst (v := 2) (pc := 827) dL_law_827 (by decide) ?_
      refine AW.iald2 (pc := 828) (n := 8) (g := T l) (j := 2) dL_law_828 (by omega) (hB.2.2.2 l hl) (vp_lit (by decide)) (by decide) ?_
      obtain ⟨e1, -, -, hkind⟩ := hT.2 l hl
      rcases hkind with hkind | ⟨h4, -, ⟨a, ha, e2⟩, hkind | hkind⟩
      · obtain ⟨-, e0, e2, e3, -, -⟩ := hkind
        rw [e2]
        refine AW.if_ge (pc := 829) (tgt := 836) dL_law_829 (by decide) (fun c => absurd c (by decide)) (fun _ => ?_)
        refine AW.iconst (v := 2) (pc := 832) dL_law_832 (by decide) ?_
        refine AW.goto (pc := 833) (tgt := 845) dL_law_833 (by decide) ?_
        refine AW.istore (L' := [.ref 0, .int (nI t), .ref 1, .ref 2, .null, .int sp, .null, .null, .null, .null, .null, .null, .null, .null, .null, .null, .null, .int (nI l), .ref (79 + l), .int (2 : Int32), .null, .null]) (pc := 845) dL_law_845 (by decide) rfl rfl ?_
        refine AW.aload (pc := 847) dL_law_847 rfl ?_
        refine AW.iconst (v := 3) (pc := 849) dL_law_849 (by decide) ?_
        refine AW.iald2 (pc := 850) (n := 8) (g := T l) (j := 3) dL_law_850 (by omega) (hB.2.2.2 l hl) (vp_lit (by decide)) (by decide) ?_
        rw [e3]
        refine AW.if_ge (pc := 851) (tgt := 858) dL_law_851 (by decide) (fun c => absurd c (by decide)) (fun _ => ?_)
        refine AW.iconst (v := 2) (pc := 854) dL_law_854 (by decide) ?_
        refine AW.goto (pc := 855) (tgt := 867) dL_law_855 (by decide) ?_
        refine AW.istore (L' := [.ref 0, .int (nI t), .ref 1, .ref 2, .null, .int sp, .null, .null, .null, .null, .null, .null, .null, .null, .null, .null, .null, .int (nI l), .ref (79 + l), .int (2 : Int32), .int (2 : Int32), .null]) (pc := 867) dL_law_867 (by decide) rfl rfl ?_
        refine AW.aload_n (pc := 869) dL_law_869 rfl rfl ?_
        refine AW.aload (pc := 870) dL_law_870 rfl ?_
        refine AW.iconst (v := 1) (pc := 872) dL_law_872 (by decide) ?_
        refine AW.iald2 (pc := 873) (n := 8) (g := T l) (j := 1) dL_law_873 (by omega) (hB.2.2.2 l hl) (vp_lit (by decide)) (by decide) ?_
        refine AW.iconst (v := 0) (pc := 874) dL_law_874 (by decide) ?_
        rw [e1]
        show AW _ _ _ _ _ _ _ 875 [.ref 0, .int (nI t), .ref 1, .ref 2, .null, .int sp, .null, .null, .null, .null, .null, .null, .null, .null, .null, .null, .null, .int (nI l), .ref (79 + l), .int (2 : Int32), .int (2 : Int32), .null] [.int (0 : Int32), .int (nI l), .ref 2] h k cs ss
        refine AW.callRd (pc := 875) (S' := []) dL_law_875 (l_wire0 (d := 2027) hM (by decide) (by omega)) hM.1 (by omega) (by simp [aw_ok]) ok_X4_ofWire tw_307 tw_308 tw_306 rfl rfl (by omega) rfl (Nat.le_of_ble_eq_true rfl) (by omega) (by omega) ?_
        show AW _ _ _ _ _ _ _ 878 [.ref 0, .int (nI t), .ref 1, .ref 2, .null, .int sp, .null, .null, .null, .null, .null, .null, .null, .null, .null, .null, .null, .int (nI l), .ref (79 + l), .int (2 : Int32), .int (2 : Int32), .null] [.int (ρ (6 + l))] h k (cs + 2) (ss + 12)
        refine AW.istore (L' := [.ref 0, .int (nI t), .ref 1, .ref 2, .null, .int sp, .null, .null, .null, .null, .null, .null, .null, .null, .null, .null, .null, .int (nI l), .ref (79 + l), .int (2 : Int32), .int (2 : Int32), .int (ρ (6 + l))]) (pc := 878) dL_law_878 (by decide) rfl rfl ?_
        refine AW.aload (pc := 880) dL_law_880 rfl ?_
        refine AW.iconst (v := 0) (pc := 882) dL_law_882 (by decide) ?_
        refine AW.iald2 (pc := 883) (n := 8) (g := T l) (j := 0) dL_law_883 (by omega) (hB.2.2.2 l hl) (vp_lit (by decide)) (by decide) ?_
        refine AW.if_ne (pc := 884) (tgt := 906) dL_law_884 (by decide) (fun _ => ?_) (fun c => absurd c (by rw [e0]; decide))
        refine AW.aload (pc := 906) dL_law_906 rfl ?_
        refine AW.iconst (v := 0) (pc := 908) dL_law_908 (by decide) ?_
        refine AW.iald2 (pc := 909) (n := 8) (g := T l) (j := 0) dL_law_909 (by omega) (hB.2.2.2 l hl) (vp_lit (by decide)) (by decide) ?_
        refine AW.iconst (v := 1) (pc := 910) dL_law_910 (by decide) ?_
        refine AW.icmp_ne (pc := 911) (tgt := 921) dL_law_911 (by decide) (fun _ => ?_) (fun c => absurd c (by rw [e0]; decide))
        refine AW.aload (pc := 921) dL_law_921 rfl ?_
        refine AW.iconst (v := 0) (pc := 923) dL_law_923 (by decide) ?_
        refine AW.iald2 (pc := 924) (n := 8) (g := T l) (j := 0) dL_law_924 (by omega) (hB.2.2.2 l hl) (vp_lit (by decide)) (by decide) ?_
        refine AW.iconst (v := 2) (pc := 925) dL_law_925 (by decide) ?_
        refine AW.icmp_ne (pc := 926) (tgt := 960) dL_law_926 (by decide) (fun _ => ?_) (fun c => absurd c (by rw [e0]; decide))
        refine AW.aload (pc := 960) dL_law_960 rfl ?_
        refine AW.iconst (v := 0) (pc := 962) dL_law_962 (by decide) ?_
        refine AW.iald2 (pc := 963) (n := 8) (g := T l) (j := 0) dL_law_963 (by omega) (hB.2.2.2 l hl) (vp_lit (by decide)) (by decide) ?_
        refine AW.iconst (v := 4) (pc := 964) dL_law_964 (by decide) ?_
        refine AW.icmp_ne (pc := 965) (tgt := 996) dL_law_965 (by decide) (fun _ => ?_) (fun c => absurd c (by rw [e0]; decide))
        refine AW.aload (pc := 996) dL_law_996 rfl ?_
        refine AW.iconst (v := 0) (pc := 998) dL_law_998 (by decide) ?_
        refine AW.iald2 (pc := 999) (n := 8) (g := T l) (j := 0) dL_law_999 (by omega) (hB.2.2.2 l hl) (vp_lit (by decide)) (by decide) ?_
        refine AW.iconst (v := 3) (pc := 1000) dL_law_1000 (by decide) ?_
        refine AW.icmp_ne (pc := 1001) (tgt := 1034) dL_law_1001 (by decide) (fun _ => ?_) (fun c => absurd c (by rw [e0]; decide))
        refine AW.iinc (v := ((nI l) + 1)) (L' := [.ref 0, .int (nI t), .ref 1, .ref 2, .null, .int sp, .null, .null, .null, .null, .null, .null, .null, .null, .null, .null, .null, .int ((nI l) + 1), .ref (79 + l), .int (2 : Int32), .int (2 : Int32), .int (ρ (6 + l))]) (pc := 1034) dL_law_1034 rfl rfl (by decide) rfl rfl ?_
        rw [nI_1 l]
        refine AW.goto (pc := 1037) (tgt := 807) dL_law_1037 (by decide) ?_
        refine AW.locals (L' := [.ref 0, .int (nI t), .ref 1, .ref 2, .null, .int sp, .null, .null, .null, .null, .null, .null, .null, .null, .null, .null, .null, .int (nI (l + 1)), .null, .null, .null, .null]) (aw_fewer_same (aw_fewer_same (aw_fewer_same (aw_fewer_same (aw_fewer_null (aw_fewer_same (aw_fewer_null (aw_fewer_null (aw_fewer_null (aw_fewer_null (aw_fewer_null (aw_fewer_null (aw_fewer_null (aw_fewer_null (aw_fewer_null (aw_fewer_null (aw_fewer_null (aw_fewer_same (aw_fewer_null (aw_fewer_null (aw_fewer_null (aw_fewer_null aw_fewer_nil)))))))))))))))))))))) ?_
        exact ih (l + 1) _ _ (by omega) (by omega) (by omega)
      · obtain ⟨e0, ⟨b, hb, e3⟩, -⟩ := hkind
        rw [e2]
        refine AW.if_ge (pc := 829) (tgt := 836) dL_law_829 (by decide) (fun _ => ?_) (fun c => absurd (nI_le (a := 0) (by omega) (by omega)) c)
        refine AW.aload_n (pc := 836) dL_law_836 rfl rfl ?_
        refine AW.aload (pc := 837) dL_law_837 rfl ?_
        refine AW.iconst (v := 2) (pc := 839) dL_law_839 (by decide) ?_
        refine AW.iald2 (pc := 840) (n := 8) (g := T l) (j := 2) dL_law_840 (by omega) (hB.2.2.2 l hl) (vp_lit (by decide)) (by decide) ?_
        refine AW.iconst (v := 0) (pc := 841) dL_law_841 (by decide) ?_
        rw [e2]
        show AW _ _ _ _ _ _ _ 842 [.ref 0, .int (nI t), .ref 1, .ref 2, .null, .int sp, .null, .null, .null, .null, .null, .null, .null, .null, .null, .null, .null, .int (nI l), .ref (79 + l), .null, .null, .null] [.int (0 : Int32), .int (nI a), .ref 2] h k cs ss
        refine AW.callRd (pc := 842) (S' := []) dL_law_842 (l_wire0 (d := 2027) hM (by decide) (by omega)) hM.1 (by omega) (by simp [aw_ok]) ok_X4_ofWire tw_307 tw_308 tw_306 rfl rfl (by omega) rfl (Nat.le_of_ble_eq_true rfl) (by omega) (by omega) ?_
        show AW _ _ _ _ _ _ _ 845 [.ref 0, .int (nI t), .ref 1, .ref 2, .null, .int sp, .null, .null, .null, .null, .null, .null, .null, .null, .null, .null, .null, .int (nI l), .ref (79 + l), .null, .null, .null] [.int (ρ (6 + a))] h k (cs + 2) (ss + 12)
        refine AW.istore (L' := [.ref 0, .int (nI t), .ref 1, .ref 2, .null, .int sp, .null, .null, .null, .null, .null, .null, .null, .null, .null, .null, .null, .int (nI l), .ref (79 + l), .int (ρ (6 + a)), .null, .null]) (pc := 845) dL_law_845 (by decide) rfl rfl ?_
        refine AW.aload (pc := 847) dL_law_847 rfl ?_
        refine AW.iconst (v := 3) (pc := 849) dL_law_849 (by decide) ?_
        refine AW.iald2 (pc := 850) (n := 8) (g := T l) (j := 3) dL_law_850 (by omega) (hB.2.2.2 l hl) (vp_lit (by decide)) (by decide) ?_
        rw [e3]
        refine AW.if_ge (pc := 851) (tgt := 858) dL_law_851 (by decide) (fun _ => ?_) (fun c => absurd (nI_le (a := 0) (by omega) (by omega)) c)
        refine AW.aload_n (pc := 858) dL_law_858 rfl rfl ?_
        refine AW.aload (pc := 859) dL_law_859 rfl ?_
        refine AW.iconst (v := 3) (pc := 861) dL_law_861 (by decide) ?_
        refine AW.iald2 (pc := 862) (n := 8) (g := T l) (j := 3) dL_law_862 (by omega) (hB.2.2.2 l hl) (vp_lit (by decide)) (by decide) ?_
        refine AW.iconst (v := 0) (pc := 863) dL_law_863 (by decide) ?_
        rw [e3]
        show AW _ _ _ _ _ _ _ 864 [.ref 0, .int (nI t), .ref 1, .ref 2, .null, .int sp, .null, .null, .null, .null, .null, .null, .null, .null, .null, .null, .null, .int (nI l), .ref (79 + l), .int (ρ (6 + a)), .null, .null] [.int (0 : Int32), .int (nI b), .ref 2] h k (cs + 2) (ss + 12)
        refine AW.callRd (pc := 864) (S' := []) dL_law_864 (l_wire0 (d := 2027) hM (by decide) (by omega)) hM.1 (by omega) (by simp [aw_ok]) ok_X4_ofWire tw_307 tw_308 tw_306 rfl rfl (by omega) rfl (Nat.le_of_ble_eq_true rfl) (by omega) (by omega) ?_
        show AW _ _ _ _ _ _ _ 867 [.ref 0, .int (nI t), .ref 1, .ref 2, .null, .int sp, .null, .null, .null, .null, .null, .null, .null, .null, .null, .null, .null, .int (nI l), .ref (79 + l), .int (ρ (6 + a)), .null, .null] [.int (ρ (6 + b))] h k ((cs + 2) + 2) ((ss + 12) + 12)
        refine AW.istore (L' := [.ref 0, .int (nI t), .ref 1, .ref 2, .null, .int sp, .null, .null, .null, .null, .null, .null, .null, .null, .null, .null, .null, .int (nI l), .ref (79 + l), .int (ρ (6 + a)), .int (ρ (6 + b)), .null]) (pc := 867) dL_law_867 (by decide) rfl rfl ?_
        refine AW.aload_n (pc := 869) dL_law_869 rfl rfl ?_
        refine AW.aload (pc := 870) dL_law_870 rfl ?_
        refine AW.iconst (v := 1) (pc := 872) dL_law_872 (by decide) ?_
        refine AW.iald2 (pc := 873) (n := 8) (g := T l) (j := 1) dL_law_873 (by omega) (hB.2.2.2 l hl) (vp_lit (by decide)) (by decide) ?_
        refine AW.iconst (v := 0) (pc := 874) dL_law_874 (by decide) ?_
        rw [e1]
        show AW _ _ _ _ _ _ _ 875 [.ref 0, .int (nI t), .ref 1, .ref 2, .null, .int sp, .null, .null, .null, .null, .null, .null, .null, .null, .null, .null, .null, .int (nI l), .ref (79 + l), .int (ρ (6 + a)), .int (ρ (6 + b)), .null] [.int (0 : Int32), .int (nI l), .ref 2] h k ((cs + 2) + 2) ((ss + 12) + 12)
        refine AW.callRd (pc := 875) (S' := []) dL_law_875 (l_wire0 (d := 2027) hM (by decide) (by omega)) hM.1 (by omega) (by simp [aw_ok]) ok_X4_ofWire tw_307 tw_308 tw_306 rfl rfl (by omega) rfl (Nat.le_of_ble_eq_true rfl) (by omega) (by omega) ?_
        show AW _ _ _ _ _ _ _ 878 [.ref 0, .int (nI t), .ref 1, .ref 2, .null, .int sp, .null, .null, .null, .null, .null, .null, .null, .null, .null, .null, .null, .int (nI l), .ref (79 + l), .int (ρ (6 + a)), .int (ρ (6 + b)), .null] [.int (ρ (6 + l))] h k (((cs + 2) + 2) + 2) (((ss + 12) + 12) + 12)
        refine AW.istore (L' := [.ref 0, .int (nI t), .ref 1, .ref 2, .null, .int sp, .null, .null, .null, .null, .null, .null, .null, .null, .null, .null, .null, .int (nI l), .ref (79 + l), .int (ρ (6 + a)), .int (ρ (6 + b)), .int (ρ (6 + l))]) (pc := 878) dL_law_878 (by decide) rfl rfl ?_
        refine AW.aload (pc := 880) dL_law_880 rfl ?_
        refine AW.iconst (v := 0) (pc := 882) dL_law_882 (by decide) ?_
        refine AW.iald2 (pc := 883) (n := 8) (g := T l) (j := 0) dL_law_883 (by omega) (hB.2.2.2 l hl) (vp_lit (by decide)) (by decide) ?_
        refine AW.if_ne (pc := 884) (tgt := 906) dL_law_884 (by decide) (fun _ => ?_) (fun c => absurd c (by rw [e0]; decide))
        refine AW.aload (pc := 906) dL_law_906 rfl ?_
        refine AW.iconst (v := 0) (pc := 908) dL_law_908 (by decide) ?_
        refine AW.iald2 (pc := 909) (n := 8) (g := T l) (j := 0) dL_law_909 (by omega) (hB.2.2.2 l hl) (vp_lit (by decide)) (by decide) ?_
        refine AW.iconst (v := 1) (pc := 910) dL_law_910 (by decide) ?_
        refine AW.icmp_ne (pc := 911) (tgt := 921) dL_law_911 (by decide) (fun _ => ?_) (fun c => absurd c (by rw [e0]; decide))
        refine AW.aload (pc := 921) dL_law_921 rfl ?_
        refine AW.iconst (v := 0) (pc := 923) dL_law_923 (by decide) ?_
        refine AW.iald2 (pc := 924) (n := 8) (g := T l) (j := 0) dL_law_924 (by omega) (hB.2.2.2 l hl) (vp_lit (by decide)) (by decide) ?_
        refine AW.iconst (v := 2) (pc := 925) dL_law_925 (by decide) ?_
        refine AW.icmp_ne (pc := 926) (tgt := 960) dL_law_926 (by decide) (fun _ => ?_) (fun c => absurd c (by rw [e0]; decide))
        refine AW.aload (pc := 960) dL_law_960 rfl ?_
        refine AW.iconst (v := 0) (pc := 962) dL_law_962 (by decide) ?_
        refine AW.iald2 (pc := 963) (n := 8) (g := T l) (j := 0) dL_law_963 (by omega) (hB.2.2.2 l hl) (vp_lit (by decide)) (by decide) ?_
        refine AW.iconst (v := 4) (pc := 964) dL_law_964 (by decide) ?_
        refine AW.icmp_ne (pc := 965) (tgt := 996) dL_law_965 (by decide) (fun _ => ?_) (fun c => absurd c (by rw [e0]; decide))
        refine AW.aload (pc := 996) dL_law_996 rfl ?_
        refine AW.iconst (v := 0) (pc := 998) dL_law_998 (by decide) ?_
        refine AW.iald2 (pc := 999) (n := 8) (g := T l) (j := 0) dL_law_999 (by omega) (hB.2.2.2 l hl) (vp_lit (by decide)) (by decide) ?_
        refine AW.iconst (v := 3) (pc := 1000) dL_law_1000 (by decide) ?_
        refine AW.icmp_ne (pc := 1001) (tgt := 1034) dL_law_1001 (by decide) (fun _ => ?_) (fun c => absurd c (by rw [e0]; decide))
        refine AW.iinc (v := ((nI l) + 1)) (L' := [.ref 0, .int (nI t), .ref 1, .ref 2, .null, .int sp, .null, .null, .null, .null, .null, .null, .null, .null, .null, .null, .null, .int ((nI l) + 1), .ref (79 + l), .int (ρ (6 + a)), .int (ρ (6 + b)), .int (ρ (6 + l))]) (pc := 1034) dL_law_1034 rfl rfl (by decide) rfl rfl ?_
        rw [nI_1 l]
        refine AW.goto (pc := 1037) (tgt := 807) dL_law_1037 (by decide) ?_
        refine AW.locals (L' := [.ref 0, .int (nI t), .ref 1, .ref 2, .null, .int sp, .null, .null, .null, .null, .null, .null, .null, .null, .null, .null, .null, .int (nI (l + 1)), .null, .null, .null, .null]) (aw_fewer_same (aw_fewer_same (aw_fewer_same (aw_fewer_same (aw_fewer_null (aw_fewer_same (aw_fewer_null (aw_fewer_null (aw_fewer_null (aw_fewer_null (aw_fewer_null (aw_fewer_null (aw_fewer_null (aw_fewer_null (aw_fewer_null (aw_fewer_null (aw_fewer_null (aw_fewer_same (aw_fewer_null (aw_fewer_null (aw_fewer_null (aw_fewer_null aw_fewer_nil)))))))))))))))))))))) ?_
        exact ih (l + 1) _ _ (by omega) (by omega) (by omega)
      · obtain ⟨qk, hq8, e0, h3, -⟩ := hkind
        have h8 : qk = 0 ∨ qk = 1 ∨ qk = 2 ∨ qk = 3 ∨ qk = 4 ∨ qk = 5 ∨ qk = 6 ∨ qk = 7 := by omega
        rcases h8 with rfl | rfl | rfl | rfl | rfl | rfl | rfl | rfl
        · have e3 : T l 3 = -1 := h3
          rw [e2]
          refine AW.if_ge (pc := 829) (tgt := 836) dL_law_829 (by decide) (fun _ => ?_) (fun c => absurd (nI_le (a := 0) (by omega) (by omega)) c)
          refine AW.aload_n (pc := 836) dL_law_836 rfl rfl ?_
          refine AW.aload (pc := 837) dL_law_837 rfl ?_
          refine AW.iconst (v := 2) (pc := 839) dL_law_839 (by decide) ?_
          refine AW.iald2 (pc := 840) (n := 8) (g := T l) (j := 2) dL_law_840 (by omega) (hB.2.2.2 l hl) (vp_lit (by decide)) (by decide) ?_
          refine AW.iconst (v := 0) (pc := 841) dL_law_841 (by decide) ?_
          rw [e2]
          show AW _ _ _ _ _ _ _ 842 [.ref 0, .int (nI t), .ref 1, .ref 2, .null, .int sp, .null, .null, .null, .null, .null, .null, .null, .null, .null, .null, .null, .int (nI l), .ref (79 + l), .null, .null, .null] [.int (0 : Int32), .int (nI a), .ref 2] h k cs ss
          refine AW.callRd (pc := 842) (S' := []) dL_law_842 (l_wire0 (d := 2027) hM (by decide) (by omega)) hM.1 (by omega) (by simp [aw_ok]) ok_X4_ofWire tw_307 tw_308 tw_306 rfl rfl (by omega) rfl (Nat.le_of_ble_eq_true rfl) (by omega) (by omega) ?_
          show AW _ _ _ _ _ _ _ 845 [.ref 0, .int (nI t), .ref 1, .ref 2, .null, .int sp, .null, .null, .null, .null, .null, .null, .null, .null, .null, .null, .null, .int (nI l), .ref (79 + l), .null, .null, .null] [.int (ρ (6 + a))] h k (cs + 2) (ss + 12)
          refine AW.istore (L' := [.ref 0, .int (nI t), .ref 1, .ref 2, .null, .int sp, .null, .null, .null, .null, .null, .null, .null, .null, .null, .null, .null, .int (nI l), .ref (79 + l), .int (ρ (6 + a)), .null, .null]) (pc := 845) dL_law_845 (by decide) rfl rfl ?_
          refine AW.aload (pc := 847) dL_law_847 rfl ?_
          refine AW.iconst (v := 3) (pc := 849) dL_law_849 (by decide) ?_
          refine AW.iald2 (pc := 850) (n := 8) (g := T l) (j := 3) dL_law_850 (by omega) (hB.2.2.2 l hl) (vp_lit (by decide)) (by decide) ?_
          rw [e3]
          refine AW.if_ge (pc := 851) (tgt := 858) dL_law_851 (by decide) (fun c => absurd c (by decide)) (fun _ => ?_)
          refine AW.iconst (v := 2) (pc := 854) dL_law_854 (by decide) ?_
          refine AW.goto (pc := 855) (tgt := 867) dL_law_855 (by decide) ?_
          refine AW.istore (L' := [.ref 0, .int (nI t), .ref 1, .ref 2, .null, .int sp, .null, .null, .null, .null, .null, .null, .null, .null, .null, .null, .null, .int (nI l), .ref (79 + l), .int (ρ (6 + a)), .int (2 : Int32), .null]) (pc := 867) dL_law_867 (by decide) rfl rfl ?_
          refine AW.aload_n (pc := 869) dL_law_869 rfl rfl ?_
          refine AW.aload (pc := 870) dL_law_870 rfl ?_
          refine AW.iconst (v := 1) (pc := 872) dL_law_872 (by decide) ?_
          refine AW.iald2 (pc := 873) (n := 8) (g := T l) (j := 1) dL_law_873 (by omega) (hB.2.2.2 l hl) (vp_lit (by decide)) (by decide) ?_
          refine AW.iconst (v := 0) (pc := 874) dL_law_874 (by decide) ?_
          rw [e1]
          show AW _ _ _ _ _ _ _ 875 [.ref 0, .int (nI t), .ref 1, .ref 2, .null, .int sp, .null, .null, .null, .null, .null, .null, .null, .null, .null, .null, .null, .int (nI l), .ref (79 + l), .int (ρ (6 + a)), .int (2 : Int32), .null] [.int (0 : Int32), .int (nI l), .ref 2] h k (cs + 2) (ss + 12)
          refine AW.callRd (pc := 875) (S' := []) dL_law_875 (l_wire0 (d := 2027) hM (by decide) (by omega)) hM.1 (by omega) (by simp [aw_ok]) ok_X4_ofWire tw_307 tw_308 tw_306 rfl rfl (by omega) rfl (Nat.le_of_ble_eq_true rfl) (by omega) (by omega) ?_
          show AW _ _ _ _ _ _ _ 878 [.ref 0, .int (nI t), .ref 1, .ref 2, .null, .int sp, .null, .null, .null, .null, .null, .null, .null, .null, .null, .null, .null, .int (nI l), .ref (79 + l), .int (ρ (6 + a)), .int (2 : Int32), .null] [.int (ρ (6 + l))] h k ((cs + 2) + 2) ((ss + 12) + 12)
          refine AW.istore (L' := [.ref 0, .int (nI t), .ref 1, .ref 2, .null, .int sp, .null, .null, .null, .null, .null, .null, .null, .null, .null, .null, .null, .int (nI l), .ref (79 + l), .int (ρ (6 + a)), .int (2 : Int32), .int (ρ (6 + l))]) (pc := 878) dL_law_878 (by decide) rfl rfl ?_
          refine AW.aload (pc := 880) dL_law_880 rfl ?_
          refine AW.iconst (v := 0) (pc := 882) dL_law_882 (by decide) ?_
          refine AW.iald2 (pc := 883) (n := 8) (g := T l) (j := 0) dL_law_883 (by omega) (hB.2.2.2 l hl) (vp_lit (by decide)) (by decide) ?_
          have hA := hS.2.2.2.2.2.2.2.1 a (by omega)
          have ho := gate_out (Bv := 2) hG hTG hS hgs hl (hp l hl) (by decide) e0 e2 (by omega) (Or.inl (by decide))
          generalize ρ (6 + a) = Av at *
          rcases hA with rfl | rfl | rfl
          · have eo : ρ (6 + l) = (1 : Int32) := ho.trans (by decide)
            rw [eo]
            show AW _ _ _ _ _ _ _ 884 [.ref 0, .int (nI t), .ref 1, .ref 2, .null, .int sp, .null, .null, .null, .null, .null, .null, .null, .null, .null, .null, .null, .int (nI l), .ref (79 + l), .int 0, .int (2 : Int32), .int 1] [.int (T l 0)] h k ((cs + 2) + 2) ((ss + 12) + 12)
            refine AW.if_ne (pc := 884) (tgt := 906) dL_law_884 (by decide) (fun c => absurd (by rw [e0]; decide) c) (fun _ => ?_)
            refine AW.iload (pc := 887) dL_law_887 rfl ?_
            refine AW.iload (pc := 889) dL_law_889 rfl ?_
            refine AW.iconst (v := 2) (pc := 891) dL_law_891 (by decide) ?_
            refine AW.icmp_ne (pc := 892) (tgt := 899) dL_law_892 (by decide) (fun _ => ?_) (fun c => absurd c (by decide))
            refine AW.iconst (v := 1) (pc := 899) dL_law_899 (by decide) ?_
            refine AW.iload (pc := 900) dL_law_900 rfl ?_
            refine AW.isub (pc := 902) dL_law_902 ?_
            refine AW.icmp_ne (pc := 903) (tgt := 1032) dL_law_903 (by decide) (fun c => absurd (by decide) c) (fun _ => ?_)
            refine AW.aload (pc := 906) dL_law_906 rfl ?_
            refine AW.iconst (v := 0) (pc := 908) dL_law_908 (by decide) ?_
            refine AW.iald2 (pc := 909) (n := 8) (g := T l) (j := 0) dL_law_909 (by omega) (hB.2.2.2 l hl) (vp_lit (by decide)) (by decide) ?_
            refine AW.iconst (v := 1) (pc := 910) dL_law_910 (by decide) ?_
            refine AW.icmp_ne (pc := 911) (tgt := 921) dL_law_911 (by decide) (fun _ => ?_) (fun c => absurd c (by rw [e0]; decide))
            refine AW.aload (pc := 921) dL_law_921 rfl ?_
            refine AW.iconst (v := 0) (pc := 923) dL_law_923 (by decide) ?_
            refine AW.iald2 (pc := 924) (n := 8) (g := T l) (j := 0) dL_law_924 (by omega) (hB.2.2.2 l hl) (vp_lit (by decide)) (by decide) ?_
            refine AW.iconst (v := 2) (pc := 925) dL_law_925 (by decide) ?_
            refine AW.icmp_ne (pc := 926) (tgt := 960) dL_law_926 (by decide) (fun _ => ?_) (fun c => absurd c (by rw [e0]; decide))
            refine AW.aload (pc := 960) dL_law_960 rfl ?_
            refine AW.iconst (v := 0) (pc := 962) dL_law_962 (by decide) ?_
            refine AW.iald2 (pc := 963) (n := 8) (g := T l) (j := 0) dL_law_963 (by omega) (hB.2.2.2 l hl) (vp_lit (by decide)) (by decide) ?_
            refine AW.iconst (v := 4) (pc := 964) dL_law_964 (by decide) ?_
            refine AW.icmp_ne (pc := 965) (tgt := 996) dL_law_965 (by decide) (fun _ => ?_) (fun c => absurd c (by rw [e0]; decide))
            refine AW.aload (pc := 996) dL_law_996 rfl ?_
            refine AW.iconst (v := 0) (pc := 998) dL_law_998 (by decide) ?_
            refine AW.iald2 (pc := 999) (n := 8) (g := T l) (j := 0) dL_law_999 (by omega) (hB.2.2.2 l hl) (vp_lit (by decide)) (by decide) ?_
            refine AW.iconst (v := 3) (pc := 1000) dL_law_1000 (by decide) ?_
            refine AW.icmp_ne (pc := 1001) (tgt := 1034) dL_law_1001 (by decide) (fun _ => ?_) (fun c => absurd c (by rw [e0]; decide))
            refine AW.iinc (v := ((nI l) + 1)) (L' := [.ref 0, .int (nI t), .ref 1, .ref 2, .null, .int sp, .null, .null, .null, .null, .null, .null, .null, .null, .null, .null, .null, .int ((nI l) + 1), .ref (79 + l), .int 0, .int (2 : Int32), .int 1]) (pc := 1034) dL_law_1034 rfl rfl (by decide) rfl rfl ?_
            rw [nI_1 l]
            refine AW.goto (pc := 1037) (tgt := 807) dL_law_1037 (by decide) ?_
            refine AW.locals (L' := [.ref 0, .int (nI t), .ref 1, .ref 2, .null, .int sp, .null, .null, .null, .null, .null, .null, .null, .null, .null, .null, .null, .int (nI (l + 1)), .null, .null, .null, .null]) (aw_fewer_same (aw_fewer_same (aw_fewer_same (aw_fewer_same (aw_fewer_null (aw_fewer_same (aw_fewer_null (aw_fewer_null (aw_fewer_null (aw_fewer_null (aw_fewer_null (aw_fewer_null (aw_fewer_null (aw_fewer_null (aw_fewer_null (aw_fewer_null (aw_fewer_null (aw_fewer_same (aw_fewer_null (aw_fewer_null (aw_fewer_null (aw_fewer_null aw_fewer_nil)))))))))))))))))))))) ?_
            exact ih (l + 1) _ _ (by omega) (by omega) (by omega)
          · have eo : ρ (6 + l) = (0 : Int32) := ho.trans (by decide)
            rw [eo]
            show AW _ _ _ _ _ _ _ 884 [.ref 0, .int (nI t), .ref 1, .ref 2, .null, .int sp, .null, .null, .null, .null, .null, .null, .null, .null, .null, .null, .null, .int (nI l), .ref (79 + l), .int 1, .int (2 : Int32), .int 0] [.int (T l 0)] h k ((cs + 2) + 2) ((ss + 12) + 12)
            refine AW.if_ne (pc := 884) (tgt := 906) dL_law_884 (by decide) (fun c => absurd (by rw [e0]; decide) c) (fun _ => ?_)
            refine AW.iload (pc := 887) dL_law_887 rfl ?_
            refine AW.iload (pc := 889) dL_law_889 rfl ?_
            refine AW.iconst (v := 2) (pc := 891) dL_law_891 (by decide) ?_
            refine AW.icmp_ne (pc := 892) (tgt := 899) dL_law_892 (by decide) (fun _ => ?_) (fun c => absurd c (by decide))
            refine AW.iconst (v := 1) (pc := 899) dL_law_899 (by decide) ?_
            refine AW.iload (pc := 900) dL_law_900 rfl ?_
            refine AW.isub (pc := 902) dL_law_902 ?_
            refine AW.icmp_ne (pc := 903) (tgt := 1032) dL_law_903 (by decide) (fun c => absurd (by decide) c) (fun _ => ?_)
            refine AW.aload (pc := 906) dL_law_906 rfl ?_
            refine AW.iconst (v := 0) (pc := 908) dL_law_908 (by decide) ?_
            refine AW.iald2 (pc := 909) (n := 8) (g := T l) (j := 0) dL_law_909 (by omega) (hB.2.2.2 l hl) (vp_lit (by decide)) (by decide) ?_
            refine AW.iconst (v := 1) (pc := 910) dL_law_910 (by decide) ?_
            refine AW.icmp_ne (pc := 911) (tgt := 921) dL_law_911 (by decide) (fun _ => ?_) (fun c => absurd c (by rw [e0]; decide))
            refine AW.aload (pc := 921) dL_law_921 rfl ?_
            refine AW.iconst (v := 0) (pc := 923) dL_law_923 (by decide) ?_
            refine AW.iald2 (pc := 924) (n := 8) (g := T l) (j := 0) dL_law_924 (by omega) (hB.2.2.2 l hl) (vp_lit (by decide)) (by decide) ?_
            refine AW.iconst (v := 2) (pc := 925) dL_law_925 (by decide) ?_
            refine AW.icmp_ne (pc := 926) (tgt := 960) dL_law_926 (by decide) (fun _ => ?_) (fun c => absurd c (by rw [e0]; decide))
            refine AW.aload (pc := 960) dL_law_960 rfl ?_
            refine AW.iconst (v := 0) (pc := 962) dL_law_962 (by decide) ?_
            refine AW.iald2 (pc := 963) (n := 8) (g := T l) (j := 0) dL_law_963 (by omega) (hB.2.2.2 l hl) (vp_lit (by decide)) (by decide) ?_
            refine AW.iconst (v := 4) (pc := 964) dL_law_964 (by decide) ?_
            refine AW.icmp_ne (pc := 965) (tgt := 996) dL_law_965 (by decide) (fun _ => ?_) (fun c => absurd c (by rw [e0]; decide))
            refine AW.aload (pc := 996) dL_law_996 rfl ?_
            refine AW.iconst (v := 0) (pc := 998) dL_law_998 (by decide) ?_
            refine AW.iald2 (pc := 999) (n := 8) (g := T l) (j := 0) dL_law_999 (by omega) (hB.2.2.2 l hl) (vp_lit (by decide)) (by decide) ?_
            refine AW.iconst (v := 3) (pc := 1000) dL_law_1000 (by decide) ?_
            refine AW.icmp_ne (pc := 1001) (tgt := 1034) dL_law_1001 (by decide) (fun _ => ?_) (fun c => absurd c (by rw [e0]; decide))
            refine AW.iinc (v := ((nI l) + 1)) (L' := [.ref 0, .int (nI t), .ref 1, .ref 2, .null, .int sp, .null, .null, .null, .null, .null, .null, .null, .null, .null, .null, .null, .int ((nI l) + 1), .ref (79 + l), .int 1, .int (2 : Int32), .int 0]) (pc := 1034) dL_law_1034 rfl rfl (by decide) rfl rfl ?_
            rw [nI_1 l]
            refine AW.goto (pc := 1037) (tgt := 807) dL_law_1037 (by decide) ?_
            refine AW.locals (L' := [.ref 0, .int (nI t), .ref 1, .ref 2, .null, .int sp, .null, .null, .null, .null, .null, .null, .null, .null, .null, .null, .null, .int (nI (l + 1)), .null, .null, .null, .null]) (aw_fewer_same (aw_fewer_same (aw_fewer_same (aw_fewer_same (aw_fewer_null (aw_fewer_same (aw_fewer_null (aw_fewer_null (aw_fewer_null (aw_fewer_null (aw_fewer_null (aw_fewer_null (aw_fewer_null (aw_fewer_null (aw_fewer_null (aw_fewer_null (aw_fewer_null (aw_fewer_same (aw_fewer_null (aw_fewer_null (aw_fewer_null (aw_fewer_null aw_fewer_nil)))))))))))))))))))))) ?_
            exact ih (l + 1) _ _ (by omega) (by omega) (by omega)
          · have eo : ρ (6 + l) = (2 : Int32) := ho.trans (by decide)
            rw [eo]
            show AW _ _ _ _ _ _ _ 884 [.ref 0, .int (nI t), .ref 1, .ref 2, .null, .int sp, .null, .null, .null, .null, .null, .null, .null, .null, .null, .null, .null, .int (nI l), .ref (79 + l), .int 2, .int (2 : Int32), .int 2] [.int (T l 0)] h k ((cs + 2) + 2) ((ss + 12) + 12)
            refine AW.if_ne (pc := 884) (tgt := 906) dL_law_884 (by decide) (fun c => absurd (by rw [e0]; decide) c) (fun _ => ?_)
            refine AW.iload (pc := 887) dL_law_887 rfl ?_
            refine AW.iload (pc := 889) dL_law_889 rfl ?_
            refine AW.iconst (v := 2) (pc := 891) dL_law_891 (by decide) ?_
            refine AW.icmp_ne (pc := 892) (tgt := 899) dL_law_892 (by decide) (fun c => absurd (by decide) c) (fun _ => ?_)
            refine AW.iconst (v := 2) (pc := 895) dL_law_895 (by decide) ?_
            refine AW.goto (pc := 896) (tgt := 903) dL_law_896 (by decide) ?_
            refine AW.icmp_ne (pc := 903) (tgt := 1032) dL_law_903 (by decide) (fun c => absurd (by decide) c) (fun _ => ?_)
            refine AW.aload (pc := 906) dL_law_906 rfl ?_
            refine AW.iconst (v := 0) (pc := 908) dL_law_908 (by decide) ?_
            refine AW.iald2 (pc := 909) (n := 8) (g := T l) (j := 0) dL_law_909 (by omega) (hB.2.2.2 l hl) (vp_lit (by decide)) (by decide) ?_
            refine AW.iconst (v := 1) (pc := 910) dL_law_910 (by decide) ?_
            refine AW.icmp_ne (pc := 911) (tgt := 921) dL_law_911 (by decide) (fun _ => ?_) (fun c => absurd c (by rw [e0]; decide))
            refine AW.aload (pc := 921) dL_law_921 rfl ?_
            refine AW.iconst (v := 0) (pc := 923) dL_law_923 (by decide) ?_
            refine AW.iald2 (pc := 924) (n := 8) (g := T l) (j := 0) dL_law_924 (by omega) (hB.2.2.2 l hl) (vp_lit (by decide)) (by decide) ?_
            refine AW.iconst (v := 2) (pc := 925) dL_law_925 (by decide) ?_
            refine AW.icmp_ne (pc := 926) (tgt := 960) dL_law_926 (by decide) (fun _ => ?_) (fun c => absurd c (by rw [e0]; decide))
            refine AW.aload (pc := 960) dL_law_960 rfl ?_
            refine AW.iconst (v := 0) (pc := 962) dL_law_962 (by decide) ?_
            refine AW.iald2 (pc := 963) (n := 8) (g := T l) (j := 0) dL_law_963 (by omega) (hB.2.2.2 l hl) (vp_lit (by decide)) (by decide) ?_
            refine AW.iconst (v := 4) (pc := 964) dL_law_964 (by decide) ?_
            refine AW.icmp_ne (pc := 965) (tgt := 996) dL_law_965 (by decide) (fun _ => ?_) (fun c => absurd c (by rw [e0]; decide))
            refine AW.aload (pc := 996) dL_law_996 rfl ?_
            refine AW.iconst (v := 0) (pc := 998) dL_law_998 (by decide) ?_
            refine AW.iald2 (pc := 999) (n := 8) (g := T l) (j := 0) dL_law_999 (by omega) (hB.2.2.2 l hl) (vp_lit (by decide)) (by decide) ?_
            refine AW.iconst (v := 3) (pc := 1000) dL_law_1000 (by decide) ?_
            refine AW.icmp_ne (pc := 1001) (tgt := 1034) dL_law_1001 (by decide) (fun _ => ?_) (fun c => absurd c (by rw [e0]; decide))
            refine AW.iinc (v := ((nI l) + 1)) (L' := [.ref 0, .int (nI t), .ref 1, .ref 2, .null, .int sp, .null, .null, .null, .null, .null, .null, .null, .null, .null, .null, .null, .int ((nI l) + 1), .ref (79 + l), .int 2, .int (2 : Int32), .int 2]) (pc := 1034) dL_law_1034 rfl rfl (by decide) rfl rfl ?_
            rw [nI_1 l]
            refine AW.goto (pc := 1037) (tgt := 807) dL_law_1037 (by decide) ?_
            refine AW.locals (L' := [.ref 0, .int (nI t), .ref 1, .ref 2, .null, .int sp, .null, .null, .null, .null, .null, .null, .null, .null, .null, .null, .null, .int (nI (l + 1)), .null, .null, .null, .null]) (aw_fewer_same (aw_fewer_same (aw_fewer_same (aw_fewer_same (aw_fewer_null (aw_fewer_same (aw_fewer_null (aw_fewer_null (aw_fewer_null (aw_fewer_null (aw_fewer_null (aw_fewer_null (aw_fewer_null (aw_fewer_null (aw_fewer_null (aw_fewer_null (aw_fewer_null (aw_fewer_same (aw_fewer_null (aw_fewer_null (aw_fewer_null (aw_fewer_null aw_fewer_nil)))))))))))))))))))))) ?_
            exact ih (l + 1) _ _ (by omega) (by omega) (by omega)
        · have e3 : T l 3 = -1 := h3
          rw [e2]
          refine AW.if_ge (pc := 829) (tgt := 836) dL_law_829 (by decide) (fun _ => ?_) (fun c => absurd (nI_le (a := 0) (by omega) (by omega)) c)
          refine AW.aload_n (pc := 836) dL_law_836 rfl rfl ?_
          refine AW.aload (pc := 837) dL_law_837 rfl ?_
          refine AW.iconst (v := 2) (pc := 839) dL_law_839 (by decide) ?_
          refine AW.iald2 (pc := 840) (n := 8) (g := T l) (j := 2) dL_law_840 (by omega) (hB.2.2.2 l hl) (vp_lit (by decide)) (by decide) ?_
          refine AW.iconst (v := 0) (pc := 841) dL_law_841 (by decide) ?_
          rw [e2]
          show AW _ _ _ _ _ _ _ 842 [.ref 0, .int (nI t), .ref 1, .ref 2, .null, .int sp, .null, .null, .null, .null, .null, .null, .null, .null, .null, .null, .null, .int (nI l), .ref (79 + l), .null, .null, .null] [.int (0 : Int32), .int (nI a), .ref 2] h k cs ss
          refine AW.callRd (pc := 842) (S' := []) dL_law_842 (l_wire0 (d := 2027) hM (by decide) (by omega)) hM.1 (by omega) (by simp [aw_ok]) ok_X4_ofWire tw_307 tw_308 tw_306 rfl rfl (by omega) rfl (Nat.le_of_ble_eq_true rfl) (by omega) (by omega) ?_
          show AW _ _ _ _ _ _ _ 845 [.ref 0, .int (nI t), .ref 1, .ref 2, .null, .int sp, .null, .null, .null, .null, .null, .null, .null, .null, .null, .null, .null, .int (nI l), .ref (79 + l), .null, .null, .null] [.int (ρ (6 + a))] h k (cs + 2) (ss + 12)
          refine AW.istore (L' := [.ref 0, .int (nI t), .ref 1, .ref 2, .null, .int sp, .null, .null, .null, .null, .null, .null, .null, .null, .null, .null, .null, .int (nI l), .ref (79 + l), .int (ρ (6 + a)), .null, .null]) (pc := 845) dL_law_845 (by decide) rfl rfl ?_
          refine AW.aload (pc := 847) dL_law_847 rfl ?_
          refine AW.iconst (v := 3) (pc := 849) dL_law_849 (by decide) ?_
          refine AW.iald2 (pc := 850) (n := 8) (g := T l) (j := 3) dL_law_850 (by omega) (hB.2.2.2 l hl) (vp_lit (by decide)) (by decide) ?_
          rw [e3]
          refine AW.if_ge (pc := 851) (tgt := 858) dL_law_851 (by decide) (fun c => absurd c (by decide)) (fun _ => ?_)
          refine AW.iconst (v := 2) (pc := 854) dL_law_854 (by decide) ?_
          refine AW.goto (pc := 855) (tgt := 867) dL_law_855 (by decide) ?_
          refine AW.istore (L' := [.ref 0, .int (nI t), .ref 1, .ref 2, .null, .int sp, .null, .null, .null, .null, .null, .null, .null, .null, .null, .null, .null, .int (nI l), .ref (79 + l), .int (ρ (6 + a)), .int (2 : Int32), .null]) (pc := 867) dL_law_867 (by decide) rfl rfl ?_
          refine AW.aload_n (pc := 869) dL_law_869 rfl rfl ?_
          refine AW.aload (pc := 870) dL_law_870 rfl ?_
          refine AW.iconst (v := 1) (pc := 872) dL_law_872 (by decide) ?_
          refine AW.iald2 (pc := 873) (n := 8) (g := T l) (j := 1) dL_law_873 (by omega) (hB.2.2.2 l hl) (vp_lit (by decide)) (by decide) ?_
          refine AW.iconst (v := 0) (pc := 874) dL_law_874 (by decide) ?_
          rw [e1]
          show AW _ _ _ _ _ _ _ 875 [.ref 0, .int (nI t), .ref 1, .ref 2, .null, .int sp, .null, .null, .null, .null, .null, .null, .null, .null, .null, .null, .null, .int (nI l), .ref (79 + l), .int (ρ (6 + a)), .int (2 : Int32), .null] [.int (0 : Int32), .int (nI l), .ref 2] h k (cs + 2) (ss + 12)
          refine AW.callRd (pc := 875) (S' := []) dL_law_875 (l_wire0 (d := 2027) hM (by decide) (by omega)) hM.1 (by omega) (by simp [aw_ok]) ok_X4_ofWire tw_307 tw_308 tw_306 rfl rfl (by omega) rfl (Nat.le_of_ble_eq_true rfl) (by omega) (by omega) ?_
          show AW _ _ _ _ _ _ _ 878 [.ref 0, .int (nI t), .ref 1, .ref 2, .null, .int sp, .null, .null, .null, .null, .null, .null, .null, .null, .null, .null, .null, .int (nI l), .ref (79 + l), .int (ρ (6 + a)), .int (2 : Int32), .null] [.int (ρ (6 + l))] h k ((cs + 2) + 2) ((ss + 12) + 12)
          refine AW.istore (L' := [.ref 0, .int (nI t), .ref 1, .ref 2, .null, .int sp, .null, .null, .null, .null, .null, .null, .null, .null, .null, .null, .null, .int (nI l), .ref (79 + l), .int (ρ (6 + a)), .int (2 : Int32), .int (ρ (6 + l))]) (pc := 878) dL_law_878 (by decide) rfl rfl ?_
          refine AW.aload (pc := 880) dL_law_880 rfl ?_
          refine AW.iconst (v := 0) (pc := 882) dL_law_882 (by decide) ?_
          refine AW.iald2 (pc := 883) (n := 8) (g := T l) (j := 0) dL_law_883 (by omega) (hB.2.2.2 l hl) (vp_lit (by decide)) (by decide) ?_
          have hA := hS.2.2.2.2.2.2.2.1 a (by omega)
          have ho := gate_out (Bv := 2) hG hTG hS hgs hl (hp l hl) (by decide) e0 e2 (by omega) (Or.inl (by decide))
          generalize ρ (6 + a) = Av at *
          rcases hA with rfl | rfl | rfl
          · have eo : ρ (6 + l) = (0 : Int32) := ho.trans (by decide)
            rw [eo]
            show AW _ _ _ _ _ _ _ 884 [.ref 0, .int (nI t), .ref 1, .ref 2, .null, .int sp, .null, .null, .null, .null, .null, .null, .null, .null, .null, .null, .null, .int (nI l), .ref (79 + l), .int 0, .int (2 : Int32), .int 0] [.int (T l 0)] h k ((cs + 2) + 2) ((ss + 12) + 12)
            refine AW.if_ne (pc := 884) (tgt := 906) dL_law_884 (by decide) (fun _ => ?_) (fun c => absurd c (by rw [e0]; decide))
            refine AW.aload (pc := 906) dL_law_906 rfl ?_
            refine AW.iconst (v := 0) (pc := 908) dL_law_908 (by decide) ?_
            refine AW.iald2 (pc := 909) (n := 8) (g := T l) (j := 0) dL_law_909 (by omega) (hB.2.2.2 l hl) (vp_lit (by decide)) (by decide) ?_
            refine AW.iconst (v := 1) (pc := 910) dL_law_910 (by decide) ?_
            refine AW.icmp_ne (pc := 911) (tgt := 921) dL_law_911 (by decide) (fun c => absurd (by rw [e0]; decide) c) (fun _ => ?_)
            refine AW.iload (pc := 914) dL_law_914 rfl ?_
            refine AW.iload (pc := 916) dL_law_916 rfl ?_
            refine AW.icmp_ne (pc := 918) (tgt := 1032) dL_law_918 (by decide) (fun c => absurd (by decide) c) (fun _ => ?_)
            refine AW.aload (pc := 921) dL_law_921 rfl ?_
            refine AW.iconst (v := 0) (pc := 923) dL_law_923 (by decide) ?_
            refine AW.iald2 (pc := 924) (n := 8) (g := T l) (j := 0) dL_law_924 (by omega) (hB.2.2.2 l hl) (vp_lit (by decide)) (by decide) ?_
            refine AW.iconst (v := 2) (pc := 925) dL_law_925 (by decide) ?_
            refine AW.icmp_ne (pc := 926) (tgt := 960) dL_law_926 (by decide) (fun _ => ?_) (fun c => absurd c (by rw [e0]; decide))
            refine AW.aload (pc := 960) dL_law_960 rfl ?_
            refine AW.iconst (v := 0) (pc := 962) dL_law_962 (by decide) ?_
            refine AW.iald2 (pc := 963) (n := 8) (g := T l) (j := 0) dL_law_963 (by omega) (hB.2.2.2 l hl) (vp_lit (by decide)) (by decide) ?_
            refine AW.iconst (v := 4) (pc := 964) dL_law_964 (by decide) ?_
            refine AW.icmp_ne (pc := 965) (tgt := 996) dL_law_965 (by decide) (fun _ => ?_) (fun c => absurd c (by rw [e0]; decide))
            refine AW.aload (pc := 996) dL_law_996 rfl ?_
            refine AW.iconst (v := 0) (pc := 998) dL_law_998 (by decide) ?_
            refine AW.iald2 (pc := 999) (n := 8) (g := T l) (j := 0) dL_law_999 (by omega) (hB.2.2.2 l hl) (vp_lit (by decide)) (by decide) ?_
            refine AW.iconst (v := 3) (pc := 1000) dL_law_1000 (by decide) ?_
            refine AW.icmp_ne (pc := 1001) (tgt := 1034) dL_law_1001 (by decide) (fun _ => ?_) (fun c => absurd c (by rw [e0]; decide))
            refine AW.iinc (v := ((nI l) + 1)) (L' := [.ref 0, .int (nI t), .ref 1, .ref 2, .null, .int sp, .null, .null, .null, .null, .null, .null, .null, .null, .null, .null, .null, .int ((nI l) + 1), .ref (79 + l), .int 0, .int (2 : Int32), .int 0]) (pc := 1034) dL_law_1034 rfl rfl (by decide) rfl rfl ?_
            rw [nI_1 l]
            refine AW.goto (pc := 1037) (tgt := 807) dL_law_1037 (by decide) ?_
            refine AW.locals (L' := [.ref 0, .int (nI t), .ref 1, .ref 2, .null, .int sp, .null, .null, .null, .null, .null, .null, .null, .null, .null, .null, .null, .int (nI (l + 1)), .null, .null, .null, .null]) (aw_fewer_same (aw_fewer_same (aw_fewer_same (aw_fewer_same (aw_fewer_null (aw_fewer_same (aw_fewer_null (aw_fewer_null (aw_fewer_null (aw_fewer_null (aw_fewer_null (aw_fewer_null (aw_fewer_null (aw_fewer_null (aw_fewer_null (aw_fewer_null (aw_fewer_null (aw_fewer_same (aw_fewer_null (aw_fewer_null (aw_fewer_null (aw_fewer_null aw_fewer_nil)))))))))))))))))))))) ?_
            exact ih (l + 1) _ _ (by omega) (by omega) (by omega)
          · have eo : ρ (6 + l) = (1 : Int32) := ho.trans (by decide)
            rw [eo]
            show AW _ _ _ _ _ _ _ 884 [.ref 0, .int (nI t), .ref 1, .ref 2, .null, .int sp, .null, .null, .null, .null, .null, .null, .null, .null, .null, .null, .null, .int (nI l), .ref (79 + l), .int 1, .int (2 : Int32), .int 1] [.int (T l 0)] h k ((cs + 2) + 2) ((ss + 12) + 12)
            refine AW.if_ne (pc := 884) (tgt := 906) dL_law_884 (by decide) (fun _ => ?_) (fun c => absurd c (by rw [e0]; decide))
            refine AW.aload (pc := 906) dL_law_906 rfl ?_
            refine AW.iconst (v := 0) (pc := 908) dL_law_908 (by decide) ?_
            refine AW.iald2 (pc := 909) (n := 8) (g := T l) (j := 0) dL_law_909 (by omega) (hB.2.2.2 l hl) (vp_lit (by decide)) (by decide) ?_
            refine AW.iconst (v := 1) (pc := 910) dL_law_910 (by decide) ?_
            refine AW.icmp_ne (pc := 911) (tgt := 921) dL_law_911 (by decide) (fun c => absurd (by rw [e0]; decide) c) (fun _ => ?_)
            refine AW.iload (pc := 914) dL_law_914 rfl ?_
            refine AW.iload (pc := 916) dL_law_916 rfl ?_
            refine AW.icmp_ne (pc := 918) (tgt := 1032) dL_law_918 (by decide) (fun c => absurd (by decide) c) (fun _ => ?_)
            refine AW.aload (pc := 921) dL_law_921 rfl ?_
            refine AW.iconst (v := 0) (pc := 923) dL_law_923 (by decide) ?_
            refine AW.iald2 (pc := 924) (n := 8) (g := T l) (j := 0) dL_law_924 (by omega) (hB.2.2.2 l hl) (vp_lit (by decide)) (by decide) ?_
            refine AW.iconst (v := 2) (pc := 925) dL_law_925 (by decide) ?_
            refine AW.icmp_ne (pc := 926) (tgt := 960) dL_law_926 (by decide) (fun _ => ?_) (fun c => absurd c (by rw [e0]; decide))
            refine AW.aload (pc := 960) dL_law_960 rfl ?_
            refine AW.iconst (v := 0) (pc := 962) dL_law_962 (by decide) ?_
            refine AW.iald2 (pc := 963) (n := 8) (g := T l) (j := 0) dL_law_963 (by omega) (hB.2.2.2 l hl) (vp_lit (by decide)) (by decide) ?_
            refine AW.iconst (v := 4) (pc := 964) dL_law_964 (by decide) ?_
            refine AW.icmp_ne (pc := 965) (tgt := 996) dL_law_965 (by decide) (fun _ => ?_) (fun c => absurd c (by rw [e0]; decide))
            refine AW.aload (pc := 996) dL_law_996 rfl ?_
            refine AW.iconst (v := 0) (pc := 998) dL_law_998 (by decide) ?_
            refine AW.iald2 (pc := 999) (n := 8) (g := T l) (j := 0) dL_law_999 (by omega) (hB.2.2.2 l hl) (vp_lit (by decide)) (by decide) ?_
            refine AW.iconst (v := 3) (pc := 1000) dL_law_1000 (by decide) ?_
            refine AW.icmp_ne (pc := 1001) (tgt := 1034) dL_law_1001 (by decide) (fun _ => ?_) (fun c => absurd c (by rw [e0]; decide))
            refine AW.iinc (v := ((nI l) + 1)) (L' := [.ref 0, .int (nI t), .ref 1, .ref 2, .null, .int sp, .null, .null, .null, .null, .null, .null, .null, .null, .null, .null, .null, .int ((nI l) + 1), .ref (79 + l), .int 1, .int (2 : Int32), .int 1]) (pc := 1034) dL_law_1034 rfl rfl (by decide) rfl rfl ?_
            rw [nI_1 l]
            refine AW.goto (pc := 1037) (tgt := 807) dL_law_1037 (by decide) ?_
            refine AW.locals (L' := [.ref 0, .int (nI t), .ref 1, .ref 2, .null, .int sp, .null, .null, .null, .null, .null, .null, .null, .null, .null, .null, .null, .int (nI (l + 1)), .null, .null, .null, .null]) (aw_fewer_same (aw_fewer_same (aw_fewer_same (aw_fewer_same (aw_fewer_null (aw_fewer_same (aw_fewer_null (aw_fewer_null (aw_fewer_null (aw_fewer_null (aw_fewer_null (aw_fewer_null (aw_fewer_null (aw_fewer_null (aw_fewer_null (aw_fewer_null (aw_fewer_null (aw_fewer_same (aw_fewer_null (aw_fewer_null (aw_fewer_null (aw_fewer_null aw_fewer_nil)))))))))))))))))))))) ?_
            exact ih (l + 1) _ _ (by omega) (by omega) (by omega)
          · have eo : ρ (6 + l) = (2 : Int32) := ho.trans (by decide)
            rw [eo]
            show AW _ _ _ _ _ _ _ 884 [.ref 0, .int (nI t), .ref 1, .ref 2, .null, .int sp, .null, .null, .null, .null, .null, .null, .null, .null, .null, .null, .null, .int (nI l), .ref (79 + l), .int 2, .int (2 : Int32), .int 2] [.int (T l 0)] h k ((cs + 2) + 2) ((ss + 12) + 12)
            refine AW.if_ne (pc := 884) (tgt := 906) dL_law_884 (by decide) (fun _ => ?_) (fun c => absurd c (by rw [e0]; decide))
            refine AW.aload (pc := 906) dL_law_906 rfl ?_
            refine AW.iconst (v := 0) (pc := 908) dL_law_908 (by decide) ?_
            refine AW.iald2 (pc := 909) (n := 8) (g := T l) (j := 0) dL_law_909 (by omega) (hB.2.2.2 l hl) (vp_lit (by decide)) (by decide) ?_
            refine AW.iconst (v := 1) (pc := 910) dL_law_910 (by decide) ?_
            refine AW.icmp_ne (pc := 911) (tgt := 921) dL_law_911 (by decide) (fun c => absurd (by rw [e0]; decide) c) (fun _ => ?_)
            refine AW.iload (pc := 914) dL_law_914 rfl ?_
            refine AW.iload (pc := 916) dL_law_916 rfl ?_
            refine AW.icmp_ne (pc := 918) (tgt := 1032) dL_law_918 (by decide) (fun c => absurd (by decide) c) (fun _ => ?_)
            refine AW.aload (pc := 921) dL_law_921 rfl ?_
            refine AW.iconst (v := 0) (pc := 923) dL_law_923 (by decide) ?_
            refine AW.iald2 (pc := 924) (n := 8) (g := T l) (j := 0) dL_law_924 (by omega) (hB.2.2.2 l hl) (vp_lit (by decide)) (by decide) ?_
            refine AW.iconst (v := 2) (pc := 925) dL_law_925 (by decide) ?_
            refine AW.icmp_ne (pc := 926) (tgt := 960) dL_law_926 (by decide) (fun _ => ?_) (fun c => absurd c (by rw [e0]; decide))
            refine AW.aload (pc := 960) dL_law_960 rfl ?_
            refine AW.iconst (v := 0) (pc := 962) dL_law_962 (by decide) ?_
            refine AW.iald2 (pc := 963) (n := 8) (g := T l) (j := 0) dL_law_963 (by omega) (hB.2.2.2 l hl) (vp_lit (by decide)) (by decide) ?_
            refine AW.iconst (v := 4) (pc := 964) dL_law_964 (by decide) ?_
            refine AW.icmp_ne (pc := 965) (tgt := 996) dL_law_965 (by decide) (fun _ => ?_) (fun c => absurd c (by rw [e0]; decide))
            refine AW.aload (pc := 996) dL_law_996 rfl ?_
            refine AW.iconst (v := 0) (pc := 998) dL_law_998 (by decide) ?_
            refine AW.iald2 (pc := 999) (n := 8) (g := T l) (j := 0) dL_law_999 (by omega) (hB.2.2.2 l hl) (vp_lit (by decide)) (by decide) ?_
            refine AW.iconst (v := 3) (pc := 1000) dL_law_1000 (by decide) ?_
            refine AW.icmp_ne (pc := 1001) (tgt := 1034) dL_law_1001 (by decide) (fun _ => ?_) (fun c => absurd c (by rw [e0]; decide))
            refine AW.iinc (v := ((nI l) + 1)) (L' := [.ref 0, .int (nI t), .ref 1, .ref 2, .null, .int sp, .null, .null, .null, .null, .null, .null, .null, .null, .null, .null, .null, .int ((nI l) + 1), .ref (79 + l), .int 2, .int (2 : Int32), .int 2]) (pc := 1034) dL_law_1034 rfl rfl (by decide) rfl rfl ?_
            rw [nI_1 l]
            refine AW.goto (pc := 1037) (tgt := 807) dL_law_1037 (by decide) ?_
            refine AW.locals (L' := [.ref 0, .int (nI t), .ref 1, .ref 2, .null, .int sp, .null, .null, .null, .null, .null, .null, .null, .null, .null, .null, .null, .int (nI (l + 1)), .null, .null, .null, .null]) (aw_fewer_same (aw_fewer_same (aw_fewer_same (aw_fewer_same (aw_fewer_null (aw_fewer_same (aw_fewer_null (aw_fewer_null (aw_fewer_null (aw_fewer_null (aw_fewer_null (aw_fewer_null (aw_fewer_null (aw_fewer_null (aw_fewer_null (aw_fewer_null (aw_fewer_null (aw_fewer_same (aw_fewer_null (aw_fewer_null (aw_fewer_null (aw_fewer_null aw_fewer_nil)))))))))))))))))))))) ?_
            exact ih (l + 1) _ _ (by omega) (by omega) (by omega)
        · obtain ⟨b, hb, e3⟩ : ∃ b : Nat, b < l ∧ T l 3 = nI b := h3
          rw [e2]
          refine AW.if_ge (pc := 829) (tgt := 836) dL_law_829 (by decide) (fun _ => ?_) (fun c => absurd (nI_le (a := 0) (by omega) (by omega)) c)
          refine AW.aload_n (pc := 836) dL_law_836 rfl rfl ?_
          refine AW.aload (pc := 837) dL_law_837 rfl ?_
          refine AW.iconst (v := 2) (pc := 839) dL_law_839 (by decide) ?_
          refine AW.iald2 (pc := 840) (n := 8) (g := T l) (j := 2) dL_law_840 (by omega) (hB.2.2.2 l hl) (vp_lit (by decide)) (by decide) ?_
          refine AW.iconst (v := 0) (pc := 841) dL_law_841 (by decide) ?_
          rw [e2]
          show AW _ _ _ _ _ _ _ 842 [.ref 0, .int (nI t), .ref 1, .ref 2, .null, .int sp, .null, .null, .null, .null, .null, .null, .null, .null, .null, .null, .null, .int (nI l), .ref (79 + l), .null, .null, .null] [.int (0 : Int32), .int (nI a), .ref 2] h k cs ss
          refine AW.callRd (pc := 842) (S' := []) dL_law_842 (l_wire0 (d := 2027) hM (by decide) (by omega)) hM.1 (by omega) (by simp [aw_ok]) ok_X4_ofWire tw_307 tw_308 tw_306 rfl rfl (by omega) rfl (Nat.le_of_ble_eq_true rfl) (by omega) (by omega) ?_
          show AW _ _ _ _ _ _ _ 845 [.ref 0, .int (nI t), .ref 1, .ref 2, .null, .int sp, .null, .null, .null, .null, .null, .null, .null, .null, .null, .null, .null, .int (nI l), .ref (79 + l), .null, .null, .null] [.int (ρ (6 + a))] h k (cs + 2) (ss + 12)
          refine AW.istore (L' := [.ref 0, .int (nI t), .ref 1, .ref 2, .null, .int sp, .null, .null, .null, .null, .null, .null, .null, .null, .null, .null, .null, .int (nI l), .ref (79 + l), .int (ρ (6 + a)), .null, .null]) (pc := 845) dL_law_845 (by decide) rfl rfl ?_
          refine AW.aload (pc := 847) dL_law_847 rfl ?_
          refine AW.iconst (v := 3) (pc := 849) dL_law_849 (by decide) ?_
          refine AW.iald2 (pc := 850) (n := 8) (g := T l) (j := 3) dL_law_850 (by omega) (hB.2.2.2 l hl) (vp_lit (by decide)) (by decide) ?_
          rw [e3]
          refine AW.if_ge (pc := 851) (tgt := 858) dL_law_851 (by decide) (fun _ => ?_) (fun c => absurd (nI_le (a := 0) (by omega) (by omega)) c)
          refine AW.aload_n (pc := 858) dL_law_858 rfl rfl ?_
          refine AW.aload (pc := 859) dL_law_859 rfl ?_
          refine AW.iconst (v := 3) (pc := 861) dL_law_861 (by decide) ?_
          refine AW.iald2 (pc := 862) (n := 8) (g := T l) (j := 3) dL_law_862 (by omega) (hB.2.2.2 l hl) (vp_lit (by decide)) (by decide) ?_
          refine AW.iconst (v := 0) (pc := 863) dL_law_863 (by decide) ?_
          rw [e3]
          show AW _ _ _ _ _ _ _ 864 [.ref 0, .int (nI t), .ref 1, .ref 2, .null, .int sp, .null, .null, .null, .null, .null, .null, .null, .null, .null, .null, .null, .int (nI l), .ref (79 + l), .int (ρ (6 + a)), .null, .null] [.int (0 : Int32), .int (nI b), .ref 2] h k (cs + 2) (ss + 12)
          refine AW.callRd (pc := 864) (S' := []) dL_law_864 (l_wire0 (d := 2027) hM (by decide) (by omega)) hM.1 (by omega) (by simp [aw_ok]) ok_X4_ofWire tw_307 tw_308 tw_306 rfl rfl (by omega) rfl (Nat.le_of_ble_eq_true rfl) (by omega) (by omega) ?_
          show AW _ _ _ _ _ _ _ 867 [.ref 0, .int (nI t), .ref 1, .ref 2, .null, .int sp, .null, .null, .null, .null, .null, .null, .null, .null, .null, .null, .null, .int (nI l), .ref (79 + l), .int (ρ (6 + a)), .null, .null] [.int (ρ (6 + b))] h k ((cs + 2) + 2) ((ss + 12) + 12)
          refine AW.istore (L' := [.ref 0, .int (nI t), .ref 1, .ref 2, .null, .int sp, .null, .null, .null, .null, .null, .null, .null, .null, .null, .null, .null, .int (nI l), .ref (79 + l), .int (ρ (6 + a)), .int (ρ (6 + b)), .null]) (pc := 867) dL_law_867 (by decide) rfl rfl ?_
          refine AW.aload_n (pc := 869) dL_law_869 rfl rfl ?_
          refine AW.aload (pc := 870) dL_law_870 rfl ?_
          refine AW.iconst (v := 1) (pc := 872) dL_law_872 (by decide) ?_
          refine AW.iald2 (pc := 873) (n := 8) (g := T l) (j := 1) dL_law_873 (by omega) (hB.2.2.2 l hl) (vp_lit (by decide)) (by decide) ?_
          refine AW.iconst (v := 0) (pc := 874) dL_law_874 (by decide) ?_
          rw [e1]
          show AW _ _ _ _ _ _ _ 875 [.ref 0, .int (nI t), .ref 1, .ref 2, .null, .int sp, .null, .null, .null, .null, .null, .null, .null, .null, .null, .null, .null, .int (nI l), .ref (79 + l), .int (ρ (6 + a)), .int (ρ (6 + b)), .null] [.int (0 : Int32), .int (nI l), .ref 2] h k ((cs + 2) + 2) ((ss + 12) + 12)
          refine AW.callRd (pc := 875) (S' := []) dL_law_875 (l_wire0 (d := 2027) hM (by decide) (by omega)) hM.1 (by omega) (by simp [aw_ok]) ok_X4_ofWire tw_307 tw_308 tw_306 rfl rfl (by omega) rfl (Nat.le_of_ble_eq_true rfl) (by omega) (by omega) ?_
          show AW _ _ _ _ _ _ _ 878 [.ref 0, .int (nI t), .ref 1, .ref 2, .null, .int sp, .null, .null, .null, .null, .null, .null, .null, .null, .null, .null, .null, .int (nI l), .ref (79 + l), .int (ρ (6 + a)), .int (ρ (6 + b)), .null] [.int (ρ (6 + l))] h k (((cs + 2) + 2) + 2) (((ss + 12) + 12) + 12)
          refine AW.istore (L' := [.ref 0, .int (nI t), .ref 1, .ref 2, .null, .int sp, .null, .null, .null, .null, .null, .null, .null, .null, .null, .null, .null, .int (nI l), .ref (79 + l), .int (ρ (6 + a)), .int (ρ (6 + b)), .int (ρ (6 + l))]) (pc := 878) dL_law_878 (by decide) rfl rfl ?_
          refine AW.aload (pc := 880) dL_law_880 rfl ?_
          refine AW.iconst (v := 0) (pc := 882) dL_law_882 (by decide) ?_
          refine AW.iald2 (pc := 883) (n := 8) (g := T l) (j := 0) dL_law_883 (by omega) (hB.2.2.2 l hl) (vp_lit (by decide)) (by decide) ?_
          have hA := hS.2.2.2.2.2.2.2.1 a (by omega)
          have hBv := hS.2.2.2.2.2.2.2.1 b (by omega)
          have ho := gate_out (Bv := ρ (6 + b)) hG hTG hS hgs hl (hp l hl) (by decide) e0 e2 (by omega) (Or.inr ⟨b, by omega, e3, rfl⟩)
          generalize ρ (6 + a) = Av at *
          rcases hA with rfl | rfl | rfl
          · rcases hBv with eb | eb | eb
            · rw [eb] at ho
              have eo : ρ (6 + l) = (0 : Int32) := ho.trans (by decide)
              rw [eb, eo]
              show AW _ _ _ _ _ _ _ 884 [.ref 0, .int (nI t), .ref 1, .ref 2, .null, .int sp, .null, .null, .null, .null, .null, .null, .null, .null, .null, .null, .null, .int (nI l), .ref (79 + l), .int 0, .int 0, .int 0] [.int (T l 0)] h k (((cs + 2) + 2) + 2) (((ss + 12) + 12) + 12)
              refine AW.if_ne (pc := 884) (tgt := 906) dL_law_884 (by decide) (fun _ => ?_) (fun c => absurd c (by rw [e0]; decide))
              refine AW.aload (pc := 906) dL_law_906 rfl ?_
              refine AW.iconst (v := 0) (pc := 908) dL_law_908 (by decide) ?_
              refine AW.iald2 (pc := 909) (n := 8) (g := T l) (j := 0) dL_law_909 (by omega) (hB.2.2.2 l hl) (vp_lit (by decide)) (by decide) ?_
              refine AW.iconst (v := 1) (pc := 910) dL_law_910 (by decide) ?_
              refine AW.icmp_ne (pc := 911) (tgt := 921) dL_law_911 (by decide) (fun _ => ?_) (fun c => absurd c (by rw [e0]; decide))
              refine AW.aload (pc := 921) dL_law_921 rfl ?_
              refine AW.iconst (v := 0) (pc := 923) dL_law_923 (by decide) ?_
              refine AW.iald2 (pc := 924) (n := 8) (g := T l) (j := 0) dL_law_924 (by omega) (hB.2.2.2 l hl) (vp_lit (by decide)) (by decide) ?_
              refine AW.iconst (v := 2) (pc := 925) dL_law_925 (by decide) ?_
              refine AW.icmp_ne (pc := 926) (tgt := 960) dL_law_926 (by decide) (fun c => absurd (by rw [e0]; decide) c) (fun _ => ?_)
              refine AW.iload (pc := 929) dL_law_929 rfl ?_
              refine AW.iload (pc := 931) dL_law_931 rfl ?_
              refine AW.iload (pc := 933) dL_law_933 rfl ?_
              refine AW.imul (pc := 935) dL_law_935 ?_
              refine AW.if_ne (pc := 936) (tgt := 943) dL_law_936 (by decide) (fun c => absurd (by decide) c) (fun _ => ?_)
              refine AW.iconst (v := 0) (pc := 939) dL_law_939 (by decide) ?_
              refine AW.goto (pc := 940) (tgt := 957) dL_law_940 (by decide) ?_
              refine AW.icmp_ne (pc := 957) (tgt := 1032) dL_law_957 (by decide) (fun c => absurd (by decide) c) (fun _ => ?_)
              refine AW.aload (pc := 960) dL_law_960 rfl ?_
              refine AW.iconst (v := 0) (pc := 962) dL_law_962 (by decide) ?_
              refine AW.iald2 (pc := 963) (n := 8) (g := T l) (j := 0) dL_law_963 (by omega) (hB.2.2.2 l hl) (vp_lit (by decide)) (by decide) ?_
              refine AW.iconst (v := 4) (pc := 964) dL_law_964 (by decide) ?_
              refine AW.icmp_ne (pc := 965) (tgt := 996) dL_law_965 (by decide) (fun _ => ?_) (fun c => absurd c (by rw [e0]; decide))
              refine AW.aload (pc := 996) dL_law_996 rfl ?_
              refine AW.iconst (v := 0) (pc := 998) dL_law_998 (by decide) ?_
              refine AW.iald2 (pc := 999) (n := 8) (g := T l) (j := 0) dL_law_999 (by omega) (hB.2.2.2 l hl) (vp_lit (by decide)) (by decide) ?_
              refine AW.iconst (v := 3) (pc := 1000) dL_law_1000 (by decide) ?_
              refine AW.icmp_ne (pc := 1001) (tgt := 1034) dL_law_1001 (by decide) (fun _ => ?_) (fun c => absurd c (by rw [e0]; decide))
              refine AW.iinc (v := ((nI l) + 1)) (L' := [.ref 0, .int (nI t), .ref 1, .ref 2, .null, .int sp, .null, .null, .null, .null, .null, .null, .null, .null, .null, .null, .null, .int ((nI l) + 1), .ref (79 + l), .int 0, .int 0, .int 0]) (pc := 1034) dL_law_1034 rfl rfl (by decide) rfl rfl ?_
              rw [nI_1 l]
              refine AW.goto (pc := 1037) (tgt := 807) dL_law_1037 (by decide) ?_
              refine AW.locals (L' := [.ref 0, .int (nI t), .ref 1, .ref 2, .null, .int sp, .null, .null, .null, .null, .null, .null, .null, .null, .null, .null, .null, .int (nI (l + 1)), .null, .null, .null, .null]) (aw_fewer_same (aw_fewer_same (aw_fewer_same (aw_fewer_same (aw_fewer_null (aw_fewer_same (aw_fewer_null (aw_fewer_null (aw_fewer_null (aw_fewer_null (aw_fewer_null (aw_fewer_null (aw_fewer_null (aw_fewer_null (aw_fewer_null (aw_fewer_null (aw_fewer_null (aw_fewer_same (aw_fewer_null (aw_fewer_null (aw_fewer_null (aw_fewer_null aw_fewer_nil)))))))))))))))))))))) ?_
              exact ih (l + 1) _ _ (by omega) (by omega) (by omega)
            · rw [eb] at ho
              have eo : ρ (6 + l) = (0 : Int32) := ho.trans (by decide)
              rw [eb, eo]
              show AW _ _ _ _ _ _ _ 884 [.ref 0, .int (nI t), .ref 1, .ref 2, .null, .int sp, .null, .null, .null, .null, .null, .null, .null, .null, .null, .null, .null, .int (nI l), .ref (79 + l), .int 0, .int 1, .int 0] [.int (T l 0)] h k (((cs + 2) + 2) + 2) (((ss + 12) + 12) + 12)
              refine AW.if_ne (pc := 884) (tgt := 906) dL_law_884 (by decide) (fun _ => ?_) (fun c => absurd c (by rw [e0]; decide))
              refine AW.aload (pc := 906) dL_law_906 rfl ?_
              refine AW.iconst (v := 0) (pc := 908) dL_law_908 (by decide) ?_
              refine AW.iald2 (pc := 909) (n := 8) (g := T l) (j := 0) dL_law_909 (by omega) (hB.2.2.2 l hl) (vp_lit (by decide)) (by decide) ?_
              refine AW.iconst (v := 1) (pc := 910) dL_law_910 (by decide) ?_
              refine AW.icmp_ne (pc := 911) (tgt := 921) dL_law_911 (by decide) (fun _ => ?_) (fun c => absurd c (by rw [e0]; decide))
              refine AW.aload (pc := 921) dL_law_921 rfl ?_
              refine AW.iconst (v := 0) (pc := 923) dL_law_923 (by decide) ?_
              refine AW.iald2 (pc := 924) (n := 8) (g := T l) (j := 0) dL_law_924 (by omega) (hB.2.2.2 l hl) (vp_lit (by decide)) (by decide) ?_
              refine AW.iconst (v := 2) (pc := 925) dL_law_925 (by decide) ?_
              refine AW.icmp_ne (pc := 926) (tgt := 960) dL_law_926 (by decide) (fun c => absurd (by rw [e0]; decide) c) (fun _ => ?_)
              refine AW.iload (pc := 929) dL_law_929 rfl ?_
              refine AW.iload (pc := 931) dL_law_931 rfl ?_
              refine AW.iload (pc := 933) dL_law_933 rfl ?_
              refine AW.imul (pc := 935) dL_law_935 ?_
              refine AW.if_ne (pc := 936) (tgt := 943) dL_law_936 (by decide) (fun c => absurd (by decide) c) (fun _ => ?_)
              refine AW.iconst (v := 0) (pc := 939) dL_law_939 (by decide) ?_
              refine AW.goto (pc := 940) (tgt := 957) dL_law_940 (by decide) ?_
              refine AW.icmp_ne (pc := 957) (tgt := 1032) dL_law_957 (by decide) (fun c => absurd (by decide) c) (fun _ => ?_)
              refine AW.aload (pc := 960) dL_law_960 rfl ?_
              refine AW.iconst (v := 0) (pc := 962) dL_law_962 (by decide) ?_
              refine AW.iald2 (pc := 963) (n := 8) (g := T l) (j := 0) dL_law_963 (by omega) (hB.2.2.2 l hl) (vp_lit (by decide)) (by decide) ?_
              refine AW.iconst (v := 4) (pc := 964) dL_law_964 (by decide) ?_
              refine AW.icmp_ne (pc := 965) (tgt := 996) dL_law_965 (by decide) (fun _ => ?_) (fun c => absurd c (by rw [e0]; decide))
              refine AW.aload (pc := 996) dL_law_996 rfl ?_
              refine AW.iconst (v := 0) (pc := 998) dL_law_998 (by decide) ?_
              refine AW.iald2 (pc := 999) (n := 8) (g := T l) (j := 0) dL_law_999 (by omega) (hB.2.2.2 l hl) (vp_lit (by decide)) (by decide) ?_
              refine AW.iconst (v := 3) (pc := 1000) dL_law_1000 (by decide) ?_
              refine AW.icmp_ne (pc := 1001) (tgt := 1034) dL_law_1001 (by decide) (fun _ => ?_) (fun c => absurd c (by rw [e0]; decide))
              refine AW.iinc (v := ((nI l) + 1)) (L' := [.ref 0, .int (nI t), .ref 1, .ref 2, .null, .int sp, .null, .null, .null, .null, .null, .null, .null, .null, .null, .null, .null, .int ((nI l) + 1), .ref (79 + l), .int 0, .int 1, .int 0]) (pc := 1034) dL_law_1034 rfl rfl (by decide) rfl rfl ?_
              rw [nI_1 l]
              refine AW.goto (pc := 1037) (tgt := 807) dL_law_1037 (by decide) ?_
              refine AW.locals (L' := [.ref 0, .int (nI t), .ref 1, .ref 2, .null, .int sp, .null, .null, .null, .null, .null, .null, .null, .null, .null, .null, .null, .int (nI (l + 1)), .null, .null, .null, .null]) (aw_fewer_same (aw_fewer_same (aw_fewer_same (aw_fewer_same (aw_fewer_null (aw_fewer_same (aw_fewer_null (aw_fewer_null (aw_fewer_null (aw_fewer_null (aw_fewer_null (aw_fewer_null (aw_fewer_null (aw_fewer_null (aw_fewer_null (aw_fewer_null (aw_fewer_null (aw_fewer_same (aw_fewer_null (aw_fewer_null (aw_fewer_null (aw_fewer_null aw_fewer_nil)))))))))))))))))))))) ?_
              exact ih (l + 1) _ _ (by omega) (by omega) (by omega)
            · rw [eb] at ho
              have eo : ρ (6 + l) = (0 : Int32) := ho.trans (by decide)
              rw [eb, eo]
              show AW _ _ _ _ _ _ _ 884 [.ref 0, .int (nI t), .ref 1, .ref 2, .null, .int sp, .null, .null, .null, .null, .null, .null, .null, .null, .null, .null, .null, .int (nI l), .ref (79 + l), .int 0, .int 2, .int 0] [.int (T l 0)] h k (((cs + 2) + 2) + 2) (((ss + 12) + 12) + 12)
              refine AW.if_ne (pc := 884) (tgt := 906) dL_law_884 (by decide) (fun _ => ?_) (fun c => absurd c (by rw [e0]; decide))
              refine AW.aload (pc := 906) dL_law_906 rfl ?_
              refine AW.iconst (v := 0) (pc := 908) dL_law_908 (by decide) ?_
              refine AW.iald2 (pc := 909) (n := 8) (g := T l) (j := 0) dL_law_909 (by omega) (hB.2.2.2 l hl) (vp_lit (by decide)) (by decide) ?_
              refine AW.iconst (v := 1) (pc := 910) dL_law_910 (by decide) ?_
              refine AW.icmp_ne (pc := 911) (tgt := 921) dL_law_911 (by decide) (fun _ => ?_) (fun c => absurd c (by rw [e0]; decide))
              refine AW.aload (pc := 921) dL_law_921 rfl ?_
              refine AW.iconst (v := 0) (pc := 923) dL_law_923 (by decide) ?_
              refine AW.iald2 (pc := 924) (n := 8) (g := T l) (j := 0) dL_law_924 (by omega) (hB.2.2.2 l hl) (vp_lit (by decide)) (by decide) ?_
              refine AW.iconst (v := 2) (pc := 925) dL_law_925 (by decide) ?_
              refine AW.icmp_ne (pc := 926) (tgt := 960) dL_law_926 (by decide) (fun c => absurd (by rw [e0]; decide) c) (fun _ => ?_)
              refine AW.iload (pc := 929) dL_law_929 rfl ?_
              refine AW.iload (pc := 931) dL_law_931 rfl ?_
              refine AW.iload (pc := 933) dL_law_933 rfl ?_
              refine AW.imul (pc := 935) dL_law_935 ?_
              refine AW.if_ne (pc := 936) (tgt := 943) dL_law_936 (by decide) (fun c => absurd (by decide) c) (fun _ => ?_)
              refine AW.iconst (v := 0) (pc := 939) dL_law_939 (by decide) ?_
              refine AW.goto (pc := 940) (tgt := 957) dL_law_940 (by decide) ?_
              refine AW.icmp_ne (pc := 957) (tgt := 1032) dL_law_957 (by decide) (fun c => absurd (by decide) c) (fun _ => ?_)
              refine AW.aload (pc := 960) dL_law_960 rfl ?_
              refine AW.iconst (v := 0) (pc := 962) dL_law_962 (by decide) ?_
              refine AW.iald2 (pc := 963) (n := 8) (g := T l) (j := 0) dL_law_963 (by omega) (hB.2.2.2 l hl) (vp_lit (by decide)) (by decide) ?_
              refine AW.iconst (v := 4) (pc := 964) dL_law_964 (by decide) ?_
              refine AW.icmp_ne (pc := 965) (tgt := 996) dL_law_965 (by decide) (fun _ => ?_) (fun c => absurd c (by rw [e0]; decide))
              refine AW.aload (pc := 996) dL_law_996 rfl ?_
              refine AW.iconst (v := 0) (pc := 998) dL_law_998 (by decide) ?_
              refine AW.iald2 (pc := 999) (n := 8) (g := T l) (j := 0) dL_law_999 (by omega) (hB.2.2.2 l hl) (vp_lit (by decide)) (by decide) ?_
              refine AW.iconst (v := 3) (pc := 1000) dL_law_1000 (by decide) ?_
              refine AW.icmp_ne (pc := 1001) (tgt := 1034) dL_law_1001 (by decide) (fun _ => ?_) (fun c => absurd c (by rw [e0]; decide))
              refine AW.iinc (v := ((nI l) + 1)) (L' := [.ref 0, .int (nI t), .ref 1, .ref 2, .null, .int sp, .null, .null, .null, .null, .null, .null, .null, .null, .null, .null, .null, .int ((nI l) + 1), .ref (79 + l), .int 0, .int 2, .int 0]) (pc := 1034) dL_law_1034 rfl rfl (by decide) rfl rfl ?_
              rw [nI_1 l]
              refine AW.goto (pc := 1037) (tgt := 807) dL_law_1037 (by decide) ?_
              refine AW.locals (L' := [.ref 0, .int (nI t), .ref 1, .ref 2, .null, .int sp, .null, .null, .null, .null, .null, .null, .null, .null, .null, .null, .null, .int (nI (l + 1)), .null, .null, .null, .null]) (aw_fewer_same (aw_fewer_same (aw_fewer_same (aw_fewer_same (aw_fewer_null (aw_fewer_same (aw_fewer_null (aw_fewer_null (aw_fewer_null (aw_fewer_null (aw_fewer_null (aw_fewer_null (aw_fewer_null (aw_fewer_null (aw_fewer_null (aw_fewer_null (aw_fewer_null (aw_fewer_same (aw_fewer_null (aw_fewer_null (aw_fewer_null (aw_fewer_null aw_fewer_nil)))))))))))))))))))))) ?_
              exact ih (l + 1) _ _ (by omega) (by omega) (by omega)
          · rcases hBv with eb | eb | eb
            · rw [eb] at ho
              have eo : ρ (6 + l) = (0 : Int32) := ho.trans (by decide)
              rw [eb, eo]
              show AW _ _ _ _ _ _ _ 884 [.ref 0, .int (nI t), .ref 1, .ref 2, .null, .int sp, .null, .null, .null, .null, .null, .null, .null, .null, .null, .null, .null, .int (nI l), .ref (79 + l), .int 1, .int 0, .int 0] [.int (T l 0)] h k (((cs + 2) + 2) + 2) (((ss + 12) + 12) + 12)
              refine AW.if_ne (pc := 884) (tgt := 906) dL_law_884 (by decide) (fun _ => ?_) (fun c => absurd c (by rw [e0]; decide))
              refine AW.aload (pc := 906) dL_law_906 rfl ?_
              refine AW.iconst (v := 0) (pc := 908) dL_law_908 (by decide) ?_
              refine AW.iald2 (pc := 909) (n := 8) (g := T l) (j := 0) dL_law_909 (by omega) (hB.2.2.2 l hl) (vp_lit (by decide)) (by decide) ?_
              refine AW.iconst (v := 1) (pc := 910) dL_law_910 (by decide) ?_
              refine AW.icmp_ne (pc := 911) (tgt := 921) dL_law_911 (by decide) (fun _ => ?_) (fun c => absurd c (by rw [e0]; decide))
              refine AW.aload (pc := 921) dL_law_921 rfl ?_
              refine AW.iconst (v := 0) (pc := 923) dL_law_923 (by decide) ?_
              refine AW.iald2 (pc := 924) (n := 8) (g := T l) (j := 0) dL_law_924 (by omega) (hB.2.2.2 l hl) (vp_lit (by decide)) (by decide) ?_
              refine AW.iconst (v := 2) (pc := 925) dL_law_925 (by decide) ?_
              refine AW.icmp_ne (pc := 926) (tgt := 960) dL_law_926 (by decide) (fun c => absurd (by rw [e0]; decide) c) (fun _ => ?_)
              refine AW.iload (pc := 929) dL_law_929 rfl ?_
              refine AW.iload (pc := 931) dL_law_931 rfl ?_
              refine AW.iload (pc := 933) dL_law_933 rfl ?_
              refine AW.imul (pc := 935) dL_law_935 ?_
              refine AW.if_ne (pc := 936) (tgt := 943) dL_law_936 (by decide) (fun c => absurd (by decide) c) (fun _ => ?_)
              refine AW.iconst (v := 0) (pc := 939) dL_law_939 (by decide) ?_
              refine AW.goto (pc := 940) (tgt := 957) dL_law_940 (by decide) ?_
              refine AW.icmp_ne (pc := 957) (tgt := 1032) dL_law_957 (by decide) (fun c => absurd (by decide) c) (fun _ => ?_)
              refine AW.aload (pc := 960) dL_law_960 rfl ?_
              refine AW.iconst (v := 0) (pc := 962) dL_law_962 (by decide) ?_
              refine AW.iald2 (pc := 963) (n := 8) (g := T l) (j := 0) dL_law_963 (by omega) (hB.2.2.2 l hl) (vp_lit (by decide)) (by decide) ?_
              refine AW.iconst (v := 4) (pc := 964) dL_law_964 (by decide) ?_
              refine AW.icmp_ne (pc := 965) (tgt := 996) dL_law_965 (by decide) (fun _ => ?_) (fun c => absurd c (by rw [e0]; decide))
              refine AW.aload (pc := 996) dL_law_996 rfl ?_
              refine AW.iconst (v := 0) (pc := 998) dL_law_998 (by decide) ?_
              refine AW.iald2 (pc := 999) (n := 8) (g := T l) (j := 0) dL_law_999 (by omega) (hB.2.2.2 l hl) (vp_lit (by decide)) (by decide) ?_
              refine AW.iconst (v := 3) (pc := 1000) dL_law_1000 (by decide) ?_
              refine AW.icmp_ne (pc := 1001) (tgt := 1034) dL_law_1001 (by decide) (fun _ => ?_) (fun c => absurd c (by rw [e0]; decide))
              refine AW.iinc (v := ((nI l) + 1)) (L' := [.ref 0, .int (nI t), .ref 1, .ref 2, .null, .int sp, .null, .null, .null, .null, .null, .null, .null, .null, .null, .null, .null, .int ((nI l) + 1), .ref (79 + l), .int 1, .int 0, .int 0]) (pc := 1034) dL_law_1034 rfl rfl (by decide) rfl rfl ?_
              rw [nI_1 l]
              refine AW.goto (pc := 1037) (tgt := 807) dL_law_1037 (by decide) ?_
              refine AW.locals (L' := [.ref 0, .int (nI t), .ref 1, .ref 2, .null, .int sp, .null, .null, .null, .null, .null, .null, .null, .null, .null, .null, .null, .int (nI (l + 1)), .null, .null, .null, .null]) (aw_fewer_same (aw_fewer_same (aw_fewer_same (aw_fewer_same (aw_fewer_null (aw_fewer_same (aw_fewer_null (aw_fewer_null (aw_fewer_null (aw_fewer_null (aw_fewer_null (aw_fewer_null (aw_fewer_null (aw_fewer_null (aw_fewer_null (aw_fewer_null (aw_fewer_null (aw_fewer_same (aw_fewer_null (aw_fewer_null (aw_fewer_null (aw_fewer_null aw_fewer_nil)))))))))))))))))))))) ?_
              exact ih (l + 1) _ _ (by omega) (by omega) (by omega)
            · rw [eb] at ho
              have eo : ρ (6 + l) = (1 : Int32) := ho.trans (by decide)
              rw [eb, eo]
              show AW _ _ _ _ _ _ _ 884 [.ref 0, .int (nI t), .ref 1, .ref 2, .null, .int sp, .null, .null, .null, .null, .null, .null, .null, .null, .null, .null, .null, .int (nI l), .ref (79 + l), .int 1, .int 1, .int 1] [.int (T l 0)] h k (((cs + 2) + 2) + 2) (((ss + 12) + 12) + 12)
              refine AW.if_ne (pc := 884) (tgt := 906) dL_law_884 (by decide) (fun _ => ?_) (fun c => absurd c (by rw [e0]; decide))
              refine AW.aload (pc := 906) dL_law_906 rfl ?_
              refine AW.iconst (v := 0) (pc := 908) dL_law_908 (by decide) ?_
              refine AW.iald2 (pc := 909) (n := 8) (g := T l) (j := 0) dL_law_909 (by omega) (hB.2.2.2 l hl) (vp_lit (by decide)) (by decide) ?_
              refine AW.iconst (v := 1) (pc := 910) dL_law_910 (by decide) ?_
              refine AW.icmp_ne (pc := 911) (tgt := 921) dL_law_911 (by decide) (fun _ => ?_) (fun c => absurd c (by rw [e0]; decide))
              refine AW.aload (pc := 921) dL_law_921 rfl ?_
              refine AW.iconst (v := 0) (pc := 923) dL_law_923 (by decide) ?_
              refine AW.iald2 (pc := 924) (n := 8) (g := T l) (j := 0) dL_law_924 (by omega) (hB.2.2.2 l hl) (vp_lit (by decide)) (by decide) ?_
              refine AW.iconst (v := 2) (pc := 925) dL_law_925 (by decide) ?_
              refine AW.icmp_ne (pc := 926) (tgt := 960) dL_law_926 (by decide) (fun c => absurd (by rw [e0]; decide) c) (fun _ => ?_)
              refine AW.iload (pc := 929) dL_law_929 rfl ?_
              refine AW.iload (pc := 931) dL_law_931 rfl ?_
              refine AW.iload (pc := 933) dL_law_933 rfl ?_
              refine AW.imul (pc := 935) dL_law_935 ?_
              refine AW.if_ne (pc := 936) (tgt := 943) dL_law_936 (by decide) (fun _ => ?_) (fun c => absurd c (by decide))
              refine AW.iload (pc := 943) dL_law_943 rfl ?_
              refine AW.iload (pc := 945) dL_law_945 rfl ?_
              refine AW.imul (pc := 947) dL_law_947 ?_
              refine AW.iconst (v := 1) (pc := 948) dL_law_948 (by decide) ?_
              refine AW.icmp_ne (pc := 949) (tgt := 956) dL_law_949 (by decide) (fun c => absurd (by decide) c) (fun _ => ?_)
              refine AW.iconst (v := 1) (pc := 952) dL_law_952 (by decide) ?_
              refine AW.goto (pc := 953) (tgt := 957) dL_law_953 (by decide) ?_
              refine AW.icmp_ne (pc := 957) (tgt := 1032) dL_law_957 (by decide) (fun c => absurd (by decide) c) (fun _ => ?_)
              refine AW.aload (pc := 960) dL_law_960 rfl ?_
              refine AW.iconst (v := 0) (pc := 962) dL_law_962 (by decide) ?_
              refine AW.iald2 (pc := 963) (n := 8) (g := T l) (j := 0) dL_law_963 (by omega) (hB.2.2.2 l hl) (vp_lit (by decide)) (by decide) ?_
              refine AW.iconst (v := 4) (pc := 964) dL_law_964 (by decide) ?_
              refine AW.icmp_ne (pc := 965) (tgt := 996) dL_law_965 (by decide) (fun _ => ?_) (fun c => absurd c (by rw [e0]; decide))
              refine AW.aload (pc := 996) dL_law_996 rfl ?_
              refine AW.iconst (v := 0) (pc := 998) dL_law_998 (by decide) ?_
              refine AW.iald2 (pc := 999) (n := 8) (g := T l) (j := 0) dL_law_999 (by omega) (hB.2.2.2 l hl) (vp_lit (by decide)) (by decide) ?_
              refine AW.iconst (v := 3) (pc := 1000) dL_law_1000 (by decide) ?_
              refine AW.icmp_ne (pc := 1001) (tgt := 1034) dL_law_1001 (by decide) (fun _ => ?_) (fun c => absurd c (by rw [e0]; decide))
              refine AW.iinc (v := ((nI l) + 1)) (L' := [.ref 0, .int (nI t), .ref 1, .ref 2, .null, .int sp, .null, .null, .null, .null, .null, .null, .null, .null, .null, .null, .null, .int ((nI l) + 1), .ref (79 + l), .int 1, .int 1, .int 1]) (pc := 1034) dL_law_1034 rfl rfl (by decide) rfl rfl ?_
              rw [nI_1 l]
              refine AW.goto (pc := 1037) (tgt := 807) dL_law_1037 (by decide) ?_
              refine AW.locals (L' := [.ref 0, .int (nI t), .ref 1, .ref 2, .null, .int sp, .null, .null, .null, .null, .null, .null, .null, .null, .null, .null, .null, .int (nI (l + 1)), .null, .null, .null, .null]) (aw_fewer_same (aw_fewer_same (aw_fewer_same (aw_fewer_same (aw_fewer_null (aw_fewer_same (aw_fewer_null (aw_fewer_null (aw_fewer_null (aw_fewer_null (aw_fewer_null (aw_fewer_null (aw_fewer_null (aw_fewer_null (aw_fewer_null (aw_fewer_null (aw_fewer_null (aw_fewer_same (aw_fewer_null (aw_fewer_null (aw_fewer_null (aw_fewer_null aw_fewer_nil)))))))))))))))))))))) ?_
              exact ih (l + 1) _ _ (by omega) (by omega) (by omega)
            · rw [eb] at ho
              have eo : ρ (6 + l) = (2 : Int32) := ho.trans (by decide)
              rw [eb, eo]
              show AW _ _ _ _ _ _ _ 884 [.ref 0, .int (nI t), .ref 1, .ref 2, .null, .int sp, .null, .null, .null, .null, .null, .null, .null, .null, .null, .null, .null, .int (nI l), .ref (79 + l), .int 1, .int 2, .int 2] [.int (T l 0)] h k (((cs + 2) + 2) + 2) (((ss + 12) + 12) + 12)
              refine AW.if_ne (pc := 884) (tgt := 906) dL_law_884 (by decide) (fun _ => ?_) (fun c => absurd c (by rw [e0]; decide))
              refine AW.aload (pc := 906) dL_law_906 rfl ?_
              refine AW.iconst (v := 0) (pc := 908) dL_law_908 (by decide) ?_
              refine AW.iald2 (pc := 909) (n := 8) (g := T l) (j := 0) dL_law_909 (by omega) (hB.2.2.2 l hl) (vp_lit (by decide)) (by decide) ?_
              refine AW.iconst (v := 1) (pc := 910) dL_law_910 (by decide) ?_
              refine AW.icmp_ne (pc := 911) (tgt := 921) dL_law_911 (by decide) (fun _ => ?_) (fun c => absurd c (by rw [e0]; decide))
              refine AW.aload (pc := 921) dL_law_921 rfl ?_
              refine AW.iconst (v := 0) (pc := 923) dL_law_923 (by decide) ?_
              refine AW.iald2 (pc := 924) (n := 8) (g := T l) (j := 0) dL_law_924 (by omega) (hB.2.2.2 l hl) (vp_lit (by decide)) (by decide) ?_
              refine AW.iconst (v := 2) (pc := 925) dL_law_925 (by decide) ?_
              refine AW.icmp_ne (pc := 926) (tgt := 960) dL_law_926 (by decide) (fun c => absurd (by rw [e0]; decide) c) (fun _ => ?_)
              refine AW.iload (pc := 929) dL_law_929 rfl ?_
              refine AW.iload (pc := 931) dL_law_931 rfl ?_
              refine AW.iload (pc := 933) dL_law_933 rfl ?_
              refine AW.imul (pc := 935) dL_law_935 ?_
              refine AW.if_ne (pc := 936) (tgt := 943) dL_law_936 (by decide) (fun _ => ?_) (fun c => absurd c (by decide))
              refine AW.iload (pc := 943) dL_law_943 rfl ?_
              refine AW.iload (pc := 945) dL_law_945 rfl ?_
              refine AW.imul (pc := 947) dL_law_947 ?_
              refine AW.iconst (v := 1) (pc := 948) dL_law_948 (by decide) ?_
              refine AW.icmp_ne (pc := 949) (tgt := 956) dL_law_949 (by decide) (fun _ => ?_) (fun c => absurd c (by decide))
              refine AW.iconst (v := 2) (pc := 956) dL_law_956 (by decide) ?_
              refine AW.icmp_ne (pc := 957) (tgt := 1032) dL_law_957 (by decide) (fun c => absurd (by decide) c) (fun _ => ?_)
              refine AW.aload (pc := 960) dL_law_960 rfl ?_
              refine AW.iconst (v := 0) (pc := 962) dL_law_962 (by decide) ?_
              refine AW.iald2 (pc := 963) (n := 8) (g := T l) (j := 0) dL_law_963 (by omega) (hB.2.2.2 l hl) (vp_lit (by decide)) (by decide) ?_
              refine AW.iconst (v := 4) (pc := 964) dL_law_964 (by decide) ?_
              refine AW.icmp_ne (pc := 965) (tgt := 996) dL_law_965 (by decide) (fun _ => ?_) (fun c => absurd c (by rw [e0]; decide))
              refine AW.aload (pc := 996) dL_law_996 rfl ?_
              refine AW.iconst (v := 0) (pc := 998) dL_law_998 (by decide) ?_
              refine AW.iald2 (pc := 999) (n := 8) (g := T l) (j := 0) dL_law_999 (by omega) (hB.2.2.2 l hl) (vp_lit (by decide)) (by decide) ?_
              refine AW.iconst (v := 3) (pc := 1000) dL_law_1000 (by decide) ?_
              refine AW.icmp_ne (pc := 1001) (tgt := 1034) dL_law_1001 (by decide) (fun _ => ?_) (fun c => absurd c (by rw [e0]; decide))
              refine AW.iinc (v := ((nI l) + 1)) (L' := [.ref 0, .int (nI t), .ref 1, .ref 2, .null, .int sp, .null, .null, .null, .null, .null, .null, .null, .null, .null, .null, .null, .int ((nI l) + 1), .ref (79 + l), .int 1, .int 2, .int 2]) (pc := 1034) dL_law_1034 rfl rfl (by decide) rfl rfl ?_
              rw [nI_1 l]
              refine AW.goto (pc := 1037) (tgt := 807) dL_law_1037 (by decide) ?_
              refine AW.locals (L' := [.ref 0, .int (nI t), .ref 1, .ref 2, .null, .int sp, .null, .null, .null, .null, .null, .null, .null, .null, .null, .null, .null, .int (nI (l + 1)), .null, .null, .null, .null]) (aw_fewer_same (aw_fewer_same (aw_fewer_same (aw_fewer_same (aw_fewer_null (aw_fewer_same (aw_fewer_null (aw_fewer_null (aw_fewer_null (aw_fewer_null (aw_fewer_null (aw_fewer_null (aw_fewer_null (aw_fewer_null (aw_fewer_null (aw_fewer_null (aw_fewer_null (aw_fewer_same (aw_fewer_null (aw_fewer_null (aw_fewer_null (aw_fewer_null aw_fewer_nil)))))))))))))))))))))) ?_
              exact ih (l + 1) _ _ (by omega) (by omega) (by omega)
          · rcases hBv with eb | eb | eb
            · rw [eb] at ho
              have eo : ρ (6 + l) = (0 : Int32) := ho.trans (by decide)
              rw [eb, eo]
              show AW _ _ _ _ _ _ _ 884 [.ref 0, .int (nI t), .ref 1, .ref 2, .null, .int sp, .null, .null, .null, .null, .null, .null, .null, .null, .null, .null, .null, .int (nI l), .ref (79 + l), .int 2, .int 0, .int 0] [.int (T l 0)] h k (((cs + 2) + 2) + 2) (((ss + 12) + 12) + 12)
              refine AW.if_ne (pc := 884) (tgt := 906) dL_law_884 (by decide) (fun _ => ?_) (fun c => absurd c (by rw [e0]; decide))
              refine AW.aload (pc := 906) dL_law_906 rfl ?_
              refine AW.iconst (v := 0) (pc := 908) dL_law_908 (by decide) ?_
              refine AW.iald2 (pc := 909) (n := 8) (g := T l) (j := 0) dL_law_909 (by omega) (hB.2.2.2 l hl) (vp_lit (by decide)) (by decide) ?_
              refine AW.iconst (v := 1) (pc := 910) dL_law_910 (by decide) ?_
              refine AW.icmp_ne (pc := 911) (tgt := 921) dL_law_911 (by decide) (fun _ => ?_) (fun c => absurd c (by rw [e0]; decide))
              refine AW.aload (pc := 921) dL_law_921 rfl ?_
              refine AW.iconst (v := 0) (pc := 923) dL_law_923 (by decide) ?_
              refine AW.iald2 (pc := 924) (n := 8) (g := T l) (j := 0) dL_law_924 (by omega) (hB.2.2.2 l hl) (vp_lit (by decide)) (by decide) ?_
              refine AW.iconst (v := 2) (pc := 925) dL_law_925 (by decide) ?_
              refine AW.icmp_ne (pc := 926) (tgt := 960) dL_law_926 (by decide) (fun c => absurd (by rw [e0]; decide) c) (fun _ => ?_)
              refine AW.iload (pc := 929) dL_law_929 rfl ?_
              refine AW.iload (pc := 931) dL_law_931 rfl ?_
              refine AW.iload (pc := 933) dL_law_933 rfl ?_
              refine AW.imul (pc := 935) dL_law_935 ?_
              refine AW.if_ne (pc := 936) (tgt := 943) dL_law_936 (by decide) (fun c => absurd (by decide) c) (fun _ => ?_)
              refine AW.iconst (v := 0) (pc := 939) dL_law_939 (by decide) ?_
              refine AW.goto (pc := 940) (tgt := 957) dL_law_940 (by decide) ?_
              refine AW.icmp_ne (pc := 957) (tgt := 1032) dL_law_957 (by decide) (fun c => absurd (by decide) c) (fun _ => ?_)
              refine AW.aload (pc := 960) dL_law_960 rfl ?_
              refine AW.iconst (v := 0) (pc := 962) dL_law_962 (by decide) ?_
              refine AW.iald2 (pc := 963) (n := 8) (g := T l) (j := 0) dL_law_963 (by omega) (hB.2.2.2 l hl) (vp_lit (by decide)) (by decide) ?_
              refine AW.iconst (v := 4) (pc := 964) dL_law_964 (by decide) ?_
              refine AW.icmp_ne (pc := 965) (tgt := 996) dL_law_965 (by decide) (fun _ => ?_) (fun c => absurd c (by rw [e0]; decide))
              refine AW.aload (pc := 996) dL_law_996 rfl ?_
              refine AW.iconst (v := 0) (pc := 998) dL_law_998 (by decide) ?_
              refine AW.iald2 (pc := 999) (n := 8) (g := T l) (j := 0) dL_law_999 (by omega) (hB.2.2.2 l hl) (vp_lit (by decide)) (by decide) ?_
              refine AW.iconst (v := 3) (pc := 1000) dL_law_1000 (by decide) ?_
              refine AW.icmp_ne (pc := 1001) (tgt := 1034) dL_law_1001 (by decide) (fun _ => ?_) (fun c => absurd c (by rw [e0]; decide))
              refine AW.iinc (v := ((nI l) + 1)) (L' := [.ref 0, .int (nI t), .ref 1, .ref 2, .null, .int sp, .null, .null, .null, .null, .null, .null, .null, .null, .null, .null, .null, .int ((nI l) + 1), .ref (79 + l), .int 2, .int 0, .int 0]) (pc := 1034) dL_law_1034 rfl rfl (by decide) rfl rfl ?_
              rw [nI_1 l]
              refine AW.goto (pc := 1037) (tgt := 807) dL_law_1037 (by decide) ?_
              refine AW.locals (L' := [.ref 0, .int (nI t), .ref 1, .ref 2, .null, .int sp, .null, .null, .null, .null, .null, .null, .null, .null, .null, .null, .null, .int (nI (l + 1)), .null, .null, .null, .null]) (aw_fewer_same (aw_fewer_same (aw_fewer_same (aw_fewer_same (aw_fewer_null (aw_fewer_same (aw_fewer_null (aw_fewer_null (aw_fewer_null (aw_fewer_null (aw_fewer_null (aw_fewer_null (aw_fewer_null (aw_fewer_null (aw_fewer_null (aw_fewer_null (aw_fewer_null (aw_fewer_same (aw_fewer_null (aw_fewer_null (aw_fewer_null (aw_fewer_null aw_fewer_nil)))))))))))))))))))))) ?_
              exact ih (l + 1) _ _ (by omega) (by omega) (by omega)
            · rw [eb] at ho
              have eo : ρ (6 + l) = (2 : Int32) := ho.trans (by decide)
              rw [eb, eo]
              show AW _ _ _ _ _ _ _ 884 [.ref 0, .int (nI t), .ref 1, .ref 2, .null, .int sp, .null, .null, .null, .null, .null, .null, .null, .null, .null, .null, .null, .int (nI l), .ref (79 + l), .int 2, .int 1, .int 2] [.int (T l 0)] h k (((cs + 2) + 2) + 2) (((ss + 12) + 12) + 12)
              refine AW.if_ne (pc := 884) (tgt := 906) dL_law_884 (by decide) (fun _ => ?_) (fun c => absurd c (by rw [e0]; decide))
              refine AW.aload (pc := 906) dL_law_906 rfl ?_
              refine AW.iconst (v := 0) (pc := 908) dL_law_908 (by decide) ?_
              refine AW.iald2 (pc := 909) (n := 8) (g := T l) (j := 0) dL_law_909 (by omega) (hB.2.2.2 l hl) (vp_lit (by decide)) (by decide) ?_
              refine AW.iconst (v := 1) (pc := 910) dL_law_910 (by decide) ?_
              refine AW.icmp_ne (pc := 911) (tgt := 921) dL_law_911 (by decide) (fun _ => ?_) (fun c => absurd c (by rw [e0]; decide))
              refine AW.aload (pc := 921) dL_law_921 rfl ?_
              refine AW.iconst (v := 0) (pc := 923) dL_law_923 (by decide) ?_
              refine AW.iald2 (pc := 924) (n := 8) (g := T l) (j := 0) dL_law_924 (by omega) (hB.2.2.2 l hl) (vp_lit (by decide)) (by decide) ?_
              refine AW.iconst (v := 2) (pc := 925) dL_law_925 (by decide) ?_
              refine AW.icmp_ne (pc := 926) (tgt := 960) dL_law_926 (by decide) (fun c => absurd (by rw [e0]; decide) c) (fun _ => ?_)
              refine AW.iload (pc := 929) dL_law_929 rfl ?_
              refine AW.iload (pc := 931) dL_law_931 rfl ?_
              refine AW.iload (pc := 933) dL_law_933 rfl ?_
              refine AW.imul (pc := 935) dL_law_935 ?_
              refine AW.if_ne (pc := 936) (tgt := 943) dL_law_936 (by decide) (fun _ => ?_) (fun c => absurd c (by decide))
              refine AW.iload (pc := 943) dL_law_943 rfl ?_
              refine AW.iload (pc := 945) dL_law_945 rfl ?_
              refine AW.imul (pc := 947) dL_law_947 ?_
              refine AW.iconst (v := 1) (pc := 948) dL_law_948 (by decide) ?_
              refine AW.icmp_ne (pc := 949) (tgt := 956) dL_law_949 (by decide) (fun _ => ?_) (fun c => absurd c (by decide))
              refine AW.iconst (v := 2) (pc := 956) dL_law_956 (by decide) ?_
              refine AW.icmp_ne (pc := 957) (tgt := 1032) dL_law_957 (by decide) (fun c => absurd (by decide) c) (fun _ => ?_)
              refine AW.aload (pc := 960) dL_law_960 rfl ?_
              refine AW.iconst (v := 0) (pc := 962) dL_law_962 (by decide) ?_
              refine AW.iald2 (pc := 963) (n := 8) (g := T l) (j := 0) dL_law_963 (by omega) (hB.2.2.2 l hl) (vp_lit (by decide)) (by decide) ?_
              refine AW.iconst (v := 4) (pc := 964) dL_law_964 (by decide) ?_
              refine AW.icmp_ne (pc := 965) (tgt := 996) dL_law_965 (by decide) (fun _ => ?_) (fun c => absurd c (by rw [e0]; decide))
              refine AW.aload (pc := 996) dL_law_996 rfl ?_
              refine AW.iconst (v := 0) (pc := 998) dL_law_998 (by decide) ?_
              refine AW.iald2 (pc := 999) (n := 8) (g := T l) (j := 0) dL_law_999 (by omega) (hB.2.2.2 l hl) (vp_lit (by decide)) (by decide) ?_
              refine AW.iconst (v := 3) (pc := 1000) dL_law_1000 (by decide) ?_
              refine AW.icmp_ne (pc := 1001) (tgt := 1034) dL_law_1001 (by decide) (fun _ => ?_) (fun c => absurd c (by rw [e0]; decide))
              refine AW.iinc (v := ((nI l) + 1)) (L' := [.ref 0, .int (nI t), .ref 1, .ref 2, .null, .int sp, .null, .null, .null, .null, .null, .null, .null, .null, .null, .null, .null, .int ((nI l) + 1), .ref (79 + l), .int 2, .int 1, .int 2]) (pc := 1034) dL_law_1034 rfl rfl (by decide) rfl rfl ?_
              rw [nI_1 l]
              refine AW.goto (pc := 1037) (tgt := 807) dL_law_1037 (by decide) ?_
              refine AW.locals (L' := [.ref 0, .int (nI t), .ref 1, .ref 2, .null, .int sp, .null, .null, .null, .null, .null, .null, .null, .null, .null, .null, .null, .int (nI (l + 1)), .null, .null, .null, .null]) (aw_fewer_same (aw_fewer_same (aw_fewer_same (aw_fewer_same (aw_fewer_null (aw_fewer_same (aw_fewer_null (aw_fewer_null (aw_fewer_null (aw_fewer_null (aw_fewer_null (aw_fewer_null (aw_fewer_null (aw_fewer_null (aw_fewer_null (aw_fewer_null (aw_fewer_null (aw_fewer_same (aw_fewer_null (aw_fewer_null (aw_fewer_null (aw_fewer_null aw_fewer_nil)))))))))))))))))))))) ?_
              exact ih (l + 1) _ _ (by omega) (by omega) (by omega)
            · rw [eb] at ho
              have eo : ρ (6 + l) = (2 : Int32) := ho.trans (by decide)
              rw [eb, eo]
              show AW _ _ _ _ _ _ _ 884 [.ref 0, .int (nI t), .ref 1, .ref 2, .null, .int sp, .null, .null, .null, .null, .null, .null, .null, .null, .null, .null, .null, .int (nI l), .ref (79 + l), .int 2, .int 2, .int 2] [.int (T l 0)] h k (((cs + 2) + 2) + 2) (((ss + 12) + 12) + 12)
              refine AW.if_ne (pc := 884) (tgt := 906) dL_law_884 (by decide) (fun _ => ?_) (fun c => absurd c (by rw [e0]; decide))
              refine AW.aload (pc := 906) dL_law_906 rfl ?_
              refine AW.iconst (v := 0) (pc := 908) dL_law_908 (by decide) ?_
              refine AW.iald2 (pc := 909) (n := 8) (g := T l) (j := 0) dL_law_909 (by omega) (hB.2.2.2 l hl) (vp_lit (by decide)) (by decide) ?_
              refine AW.iconst (v := 1) (pc := 910) dL_law_910 (by decide) ?_
              refine AW.icmp_ne (pc := 911) (tgt := 921) dL_law_911 (by decide) (fun _ => ?_) (fun c => absurd c (by rw [e0]; decide))
              refine AW.aload (pc := 921) dL_law_921 rfl ?_
              refine AW.iconst (v := 0) (pc := 923) dL_law_923 (by decide) ?_
              refine AW.iald2 (pc := 924) (n := 8) (g := T l) (j := 0) dL_law_924 (by omega) (hB.2.2.2 l hl) (vp_lit (by decide)) (by decide) ?_
              refine AW.iconst (v := 2) (pc := 925) dL_law_925 (by decide) ?_
              refine AW.icmp_ne (pc := 926) (tgt := 960) dL_law_926 (by decide) (fun c => absurd (by rw [e0]; decide) c) (fun _ => ?_)
              refine AW.iload (pc := 929) dL_law_929 rfl ?_
              refine AW.iload (pc := 931) dL_law_931 rfl ?_
              refine AW.iload (pc := 933) dL_law_933 rfl ?_
              refine AW.imul (pc := 935) dL_law_935 ?_
              refine AW.if_ne (pc := 936) (tgt := 943) dL_law_936 (by decide) (fun _ => ?_) (fun c => absurd c (by decide))
              refine AW.iload (pc := 943) dL_law_943 rfl ?_
              refine AW.iload (pc := 945) dL_law_945 rfl ?_
              refine AW.imul (pc := 947) dL_law_947 ?_
              refine AW.iconst (v := 1) (pc := 948) dL_law_948 (by decide) ?_
              refine AW.icmp_ne (pc := 949) (tgt := 956) dL_law_949 (by decide) (fun _ => ?_) (fun c => absurd c (by decide))
              refine AW.iconst (v := 2) (pc := 956) dL_law_956 (by decide) ?_
              refine AW.icmp_ne (pc := 957) (tgt := 1032) dL_law_957 (by decide) (fun c => absurd (by decide) c) (fun _ => ?_)
              refine AW.aload (pc := 960) dL_law_960 rfl ?_
              refine AW.iconst (v := 0) (pc := 962) dL_law_962 (by decide) ?_
              refine AW.iald2 (pc := 963) (n := 8) (g := T l) (j := 0) dL_law_963 (by omega) (hB.2.2.2 l hl) (vp_lit (by decide)) (by decide) ?_
              refine AW.iconst (v := 4) (pc := 964) dL_law_964 (by decide) ?_
              refine AW.icmp_ne (pc := 965) (tgt := 996) dL_law_965 (by decide) (fun _ => ?_) (fun c => absurd c (by rw [e0]; decide))
              refine AW.aload (pc := 996) dL_law_996 rfl ?_
              refine AW.iconst (v := 0) (pc := 998) dL_law_998 (by decide) ?_
              refine AW.iald2 (pc := 999) (n := 8) (g := T l) (j := 0) dL_law_999 (by omega) (hB.2.2.2 l hl) (vp_lit (by decide)) (by decide) ?_
              refine AW.iconst (v := 3) (pc := 1000) dL_law_1000 (by decide) ?_
              refine AW.icmp_ne (pc := 1001) (tgt := 1034) dL_law_1001 (by decide) (fun _ => ?_) (fun c => absurd c (by rw [e0]; decide))
              refine AW.iinc (v := ((nI l) + 1)) (L' := [.ref 0, .int (nI t), .ref 1, .ref 2, .null, .int sp, .null, .null, .null, .null, .null, .null, .null, .null, .null, .null, .null, .int ((nI l) + 1), .ref (79 + l), .int 2, .int 2, .int 2]) (pc := 1034) dL_law_1034 rfl rfl (by decide) rfl rfl ?_
              rw [nI_1 l]
              refine AW.goto (pc := 1037) (tgt := 807) dL_law_1037 (by decide) ?_
              refine AW.locals (L' := [.ref 0, .int (nI t), .ref 1, .ref 2, .null, .int sp, .null, .null, .null, .null, .null, .null, .null, .null, .null, .null, .null, .int (nI (l + 1)), .null, .null, .null, .null]) (aw_fewer_same (aw_fewer_same (aw_fewer_same (aw_fewer_same (aw_fewer_null (aw_fewer_same (aw_fewer_null (aw_fewer_null (aw_fewer_null (aw_fewer_null (aw_fewer_null (aw_fewer_null (aw_fewer_null (aw_fewer_null (aw_fewer_null (aw_fewer_null (aw_fewer_null (aw_fewer_same (aw_fewer_null (aw_fewer_null (aw_fewer_null (aw_fewer_null aw_fewer_nil)))))))))))))))))))))) ?_
              exact ih (l + 1) _ _ (by omega) (by omega) (by omega)
        · obtain ⟨b, hb, e3⟩ : ∃ b : Nat, b < l ∧ T l 3 = nI b := h3
          rw [e2]
          refine AW.if_ge (pc := 829) (tgt := 836) dL_law_829 (by decide) (fun _ => ?_) (fun c => absurd (nI_le (a := 0) (by omega) (by omega)) c)
          refine AW.aload_n (pc := 836) dL_law_836 rfl rfl ?_
          refine AW.aload (pc := 837) dL_law_837 rfl ?_
          refine AW.iconst (v := 2) (pc := 839) dL_law_839 (by decide) ?_
          refine AW.iald2 (pc := 840) (n := 8) (g := T l) (j := 2) dL_law_840 (by omega) (hB.2.2.2 l hl) (vp_lit (by decide)) (by decide) ?_
          refine AW.iconst (v := 0) (pc := 841) dL_law_841 (by decide) ?_
          rw [e2]
          show AW _ _ _ _ _ _ _ 842 [.ref 0, .int (nI t), .ref 1, .ref 2, .null, .int sp, .null, .null, .null, .null, .null, .null, .null, .null, .null, .null, .null, .int (nI l), .ref (79 + l), .null, .null, .null] [.int (0 : Int32), .int (nI a), .ref 2] h k cs ss
          refine AW.callRd (pc := 842) (S' := []) dL_law_842 (l_wire0 (d := 2027) hM (by decide) (by omega)) hM.1 (by omega) (by simp [aw_ok]) ok_X4_ofWire tw_307 tw_308 tw_306 rfl rfl (by omega) rfl (Nat.le_of_ble_eq_true rfl) (by omega) (by omega) ?_
          show AW _ _ _ _ _ _ _ 845 [.ref 0, .int (nI t), .ref 1, .ref 2, .null, .int sp, .null, .null, .null, .null, .null, .null, .null, .null, .null, .null, .null, .int (nI l), .ref (79 + l), .null, .null, .null] [.int (ρ (6 + a))] h k (cs + 2) (ss + 12)
          refine AW.istore (L' := [.ref 0, .int (nI t), .ref 1, .ref 2, .null, .int sp, .null, .null, .null, .null, .null, .null, .null, .null, .null, .null, .null, .int (nI l), .ref (79 + l), .int (ρ (6 + a)), .null, .null]) (pc := 845) dL_law_845 (by decide) rfl rfl ?_
          refine AW.aload (pc := 847) dL_law_847 rfl ?_
          refine AW.iconst (v := 3) (pc := 849) dL_law_849 (by decide) ?_
          refine AW.iald2 (pc := 850) (n := 8) (g := T l) (j := 3) dL_law_850 (by omega) (hB.2.2.2 l hl) (vp_lit (by decide)) (by decide) ?_
          rw [e3]
          refine AW.if_ge (pc := 851) (tgt := 858) dL_law_851 (by decide) (fun _ => ?_) (fun c => absurd (nI_le (a := 0) (by omega) (by omega)) c)
          refine AW.aload_n (pc := 858) dL_law_858 rfl rfl ?_
          refine AW.aload (pc := 859) dL_law_859 rfl ?_
          refine AW.iconst (v := 3) (pc := 861) dL_law_861 (by decide) ?_
          refine AW.iald2 (pc := 862) (n := 8) (g := T l) (j := 3) dL_law_862 (by omega) (hB.2.2.2 l hl) (vp_lit (by decide)) (by decide) ?_
          refine AW.iconst (v := 0) (pc := 863) dL_law_863 (by decide) ?_
          rw [e3]
          show AW _ _ _ _ _ _ _ 864 [.ref 0, .int (nI t), .ref 1, .ref 2, .null, .int sp, .null, .null, .null, .null, .null, .null, .null, .null, .null, .null, .null, .int (nI l), .ref (79 + l), .int (ρ (6 + a)), .null, .null] [.int (0 : Int32), .int (nI b), .ref 2] h k (cs + 2) (ss + 12)
          refine AW.callRd (pc := 864) (S' := []) dL_law_864 (l_wire0 (d := 2027) hM (by decide) (by omega)) hM.1 (by omega) (by simp [aw_ok]) ok_X4_ofWire tw_307 tw_308 tw_306 rfl rfl (by omega) rfl (Nat.le_of_ble_eq_true rfl) (by omega) (by omega) ?_
          show AW _ _ _ _ _ _ _ 867 [.ref 0, .int (nI t), .ref 1, .ref 2, .null, .int sp, .null, .null, .null, .null, .null, .null, .null, .null, .null, .null, .null, .int (nI l), .ref (79 + l), .int (ρ (6 + a)), .null, .null] [.int (ρ (6 + b))] h k ((cs + 2) + 2) ((ss + 12) + 12)
          refine AW.istore (L' := [.ref 0, .int (nI t), .ref 1, .ref 2, .null, .int sp, .null, .null, .null, .null, .null, .null, .null, .null, .null, .null, .null, .int (nI l), .ref (79 + l), .int (ρ (6 + a)), .int (ρ (6 + b)), .null]) (pc := 867) dL_law_867 (by decide) rfl rfl ?_
          refine AW.aload_n (pc := 869) dL_law_869 rfl rfl ?_
          refine AW.aload (pc := 870) dL_law_870 rfl ?_
          refine AW.iconst (v := 1) (pc := 872) dL_law_872 (by decide) ?_
          refine AW.iald2 (pc := 873) (n := 8) (g := T l) (j := 1) dL_law_873 (by omega) (hB.2.2.2 l hl) (vp_lit (by decide)) (by decide) ?_
          refine AW.iconst (v := 0) (pc := 874) dL_law_874 (by decide) ?_
          rw [e1]
          show AW _ _ _ _ _ _ _ 875 [.ref 0, .int (nI t), .ref 1, .ref 2, .null, .int sp, .null, .null, .null, .null, .null, .null, .null, .null, .null, .null, .null, .int (nI l), .ref (79 + l), .int (ρ (6 + a)), .int (ρ (6 + b)), .null] [.int (0 : Int32), .int (nI l), .ref 2] h k ((cs + 2) + 2) ((ss + 12) + 12)
          refine AW.callRd (pc := 875) (S' := []) dL_law_875 (l_wire0 (d := 2027) hM (by decide) (by omega)) hM.1 (by omega) (by simp [aw_ok]) ok_X4_ofWire tw_307 tw_308 tw_306 rfl rfl (by omega) rfl (Nat.le_of_ble_eq_true rfl) (by omega) (by omega) ?_
          show AW _ _ _ _ _ _ _ 878 [.ref 0, .int (nI t), .ref 1, .ref 2, .null, .int sp, .null, .null, .null, .null, .null, .null, .null, .null, .null, .null, .null, .int (nI l), .ref (79 + l), .int (ρ (6 + a)), .int (ρ (6 + b)), .null] [.int (ρ (6 + l))] h k (((cs + 2) + 2) + 2) (((ss + 12) + 12) + 12)
          refine AW.istore (L' := [.ref 0, .int (nI t), .ref 1, .ref 2, .null, .int sp, .null, .null, .null, .null, .null, .null, .null, .null, .null, .null, .null, .int (nI l), .ref (79 + l), .int (ρ (6 + a)), .int (ρ (6 + b)), .int (ρ (6 + l))]) (pc := 878) dL_law_878 (by decide) rfl rfl ?_
          refine AW.aload (pc := 880) dL_law_880 rfl ?_
          refine AW.iconst (v := 0) (pc := 882) dL_law_882 (by decide) ?_
          refine AW.iald2 (pc := 883) (n := 8) (g := T l) (j := 0) dL_law_883 (by omega) (hB.2.2.2 l hl) (vp_lit (by decide)) (by decide) ?_
          have hA := hS.2.2.2.2.2.2.2.1 a (by omega)
          have hBv := hS.2.2.2.2.2.2.2.1 b (by omega)
          have ho := gate_out (Bv := ρ (6 + b)) hG hTG hS hgs hl (hp l hl) (by decide) e0 e2 (by omega) (Or.inr ⟨b, by omega, e3, rfl⟩)
          generalize ρ (6 + a) = Av at *
          rcases hA with rfl | rfl | rfl
          · rcases hBv with eb | eb | eb
            · rw [eb] at ho
              have eo : ρ (6 + l) = (0 : Int32) := ho.trans (by decide)
              rw [eb, eo]
              show AW _ _ _ _ _ _ _ 884 [.ref 0, .int (nI t), .ref 1, .ref 2, .null, .int sp, .null, .null, .null, .null, .null, .null, .null, .null, .null, .null, .null, .int (nI l), .ref (79 + l), .int 0, .int 0, .int 0] [.int (T l 0)] h k (((cs + 2) + 2) + 2) (((ss + 12) + 12) + 12)
              refine AW.if_ne (pc := 884) (tgt := 906) dL_law_884 (by decide) (fun _ => ?_) (fun c => absurd c (by rw [e0]; decide))
              refine AW.aload (pc := 906) dL_law_906 rfl ?_
              refine AW.iconst (v := 0) (pc := 908) dL_law_908 (by decide) ?_
              refine AW.iald2 (pc := 909) (n := 8) (g := T l) (j := 0) dL_law_909 (by omega) (hB.2.2.2 l hl) (vp_lit (by decide)) (by decide) ?_
              refine AW.iconst (v := 1) (pc := 910) dL_law_910 (by decide) ?_
              refine AW.icmp_ne (pc := 911) (tgt := 921) dL_law_911 (by decide) (fun _ => ?_) (fun c => absurd c (by rw [e0]; decide))
              refine AW.aload (pc := 921) dL_law_921 rfl ?_
              refine AW.iconst (v := 0) (pc := 923) dL_law_923 (by decide) ?_
              refine AW.iald2 (pc := 924) (n := 8) (g := T l) (j := 0) dL_law_924 (by omega) (hB.2.2.2 l hl) (vp_lit (by decide)) (by decide) ?_
              refine AW.iconst (v := 2) (pc := 925) dL_law_925 (by decide) ?_
              refine AW.icmp_ne (pc := 926) (tgt := 960) dL_law_926 (by decide) (fun _ => ?_) (fun c => absurd c (by rw [e0]; decide))
              refine AW.aload (pc := 960) dL_law_960 rfl ?_
              refine AW.iconst (v := 0) (pc := 962) dL_law_962 (by decide) ?_
              refine AW.iald2 (pc := 963) (n := 8) (g := T l) (j := 0) dL_law_963 (by omega) (hB.2.2.2 l hl) (vp_lit (by decide)) (by decide) ?_
              refine AW.iconst (v := 4) (pc := 964) dL_law_964 (by decide) ?_
              refine AW.icmp_ne (pc := 965) (tgt := 996) dL_law_965 (by decide) (fun _ => ?_) (fun c => absurd c (by rw [e0]; decide))
              refine AW.aload (pc := 996) dL_law_996 rfl ?_
              refine AW.iconst (v := 0) (pc := 998) dL_law_998 (by decide) ?_
              refine AW.iald2 (pc := 999) (n := 8) (g := T l) (j := 0) dL_law_999 (by omega) (hB.2.2.2 l hl) (vp_lit (by decide)) (by decide) ?_
              refine AW.iconst (v := 3) (pc := 1000) dL_law_1000 (by decide) ?_
              refine AW.icmp_ne (pc := 1001) (tgt := 1034) dL_law_1001 (by decide) (fun c => absurd (by rw [e0]; decide) c) (fun _ => ?_)
              refine AW.iload (pc := 1004) dL_law_1004 rfl ?_
              refine AW.iload (pc := 1006) dL_law_1006 rfl ?_
              refine AW.iconst (v := 1) (pc := 1008) dL_law_1008 (by decide) ?_
              refine AW.icmp_eq (pc := 1009) (tgt := 1018) dL_law_1009 (by decide) (fun c => absurd c (by decide)) (fun _ => ?_)
              refine AW.iload (pc := 1012) dL_law_1012 rfl ?_
              refine AW.iconst (v := 1) (pc := 1014) dL_law_1014 (by decide) ?_
              refine AW.icmp_ne (pc := 1015) (tgt := 1022) dL_law_1015 (by decide) (fun _ => ?_) (fun c => absurd c (by decide))
              refine AW.iload (pc := 1022) dL_law_1022 rfl ?_
              refine AW.iload (pc := 1024) dL_law_1024 rfl ?_
              refine AW.mmax (pc := 1026) dL_law_1026 tw_863 tw_106 tw_14 (Nat.le_of_ble_eq_true rfl) (by omega) (by omega) ?_
              refine AW.icmp_eq (pc := 1029) (tgt := 1034) dL_law_1029 (by decide) (fun _ => ?_) (fun c => absurd (by decide) c)
              refine AW.iinc (v := ((nI l) + 1)) (L' := [.ref 0, .int (nI t), .ref 1, .ref 2, .null, .int sp, .null, .null, .null, .null, .null, .null, .null, .null, .null, .null, .null, .int ((nI l) + 1), .ref (79 + l), .int 0, .int 0, .int 0]) (pc := 1034) dL_law_1034 rfl rfl (by decide) rfl rfl ?_
              rw [nI_1 l]
              refine AW.goto (pc := 1037) (tgt := 807) dL_law_1037 (by decide) ?_
              refine AW.locals (L' := [.ref 0, .int (nI t), .ref 1, .ref 2, .null, .int sp, .null, .null, .null, .null, .null, .null, .null, .null, .null, .null, .null, .int (nI (l + 1)), .null, .null, .null, .null]) (aw_fewer_same (aw_fewer_same (aw_fewer_same (aw_fewer_same (aw_fewer_null (aw_fewer_same (aw_fewer_null (aw_fewer_null (aw_fewer_null (aw_fewer_null (aw_fewer_null (aw_fewer_null (aw_fewer_null (aw_fewer_null (aw_fewer_null (aw_fewer_null (aw_fewer_null (aw_fewer_same (aw_fewer_null (aw_fewer_null (aw_fewer_null (aw_fewer_null aw_fewer_nil)))))))))))))))))))))) ?_
              exact ih (l + 1) _ _ (by omega) (by omega) (by omega)
            · rw [eb] at ho
              have eo : ρ (6 + l) = (1 : Int32) := ho.trans (by decide)
              rw [eb, eo]
              show AW _ _ _ _ _ _ _ 884 [.ref 0, .int (nI t), .ref 1, .ref 2, .null, .int sp, .null, .null, .null, .null, .null, .null, .null, .null, .null, .null, .null, .int (nI l), .ref (79 + l), .int 0, .int 1, .int 1] [.int (T l 0)] h k (((cs + 2) + 2) + 2) (((ss + 12) + 12) + 12)
              refine AW.if_ne (pc := 884) (tgt := 906) dL_law_884 (by decide) (fun _ => ?_) (fun c => absurd c (by rw [e0]; decide))
              refine AW.aload (pc := 906) dL_law_906 rfl ?_
              refine AW.iconst (v := 0) (pc := 908) dL_law_908 (by decide) ?_
              refine AW.iald2 (pc := 909) (n := 8) (g := T l) (j := 0) dL_law_909 (by omega) (hB.2.2.2 l hl) (vp_lit (by decide)) (by decide) ?_
              refine AW.iconst (v := 1) (pc := 910) dL_law_910 (by decide) ?_
              refine AW.icmp_ne (pc := 911) (tgt := 921) dL_law_911 (by decide) (fun _ => ?_) (fun c => absurd c (by rw [e0]; decide))
              refine AW.aload (pc := 921) dL_law_921 rfl ?_
              refine AW.iconst (v := 0) (pc := 923) dL_law_923 (by decide) ?_
              refine AW.iald2 (pc := 924) (n := 8) (g := T l) (j := 0) dL_law_924 (by omega) (hB.2.2.2 l hl) (vp_lit (by decide)) (by decide) ?_
              refine AW.iconst (v := 2) (pc := 925) dL_law_925 (by decide) ?_
              refine AW.icmp_ne (pc := 926) (tgt := 960) dL_law_926 (by decide) (fun _ => ?_) (fun c => absurd c (by rw [e0]; decide))
              refine AW.aload (pc := 960) dL_law_960 rfl ?_
              refine AW.iconst (v := 0) (pc := 962) dL_law_962 (by decide) ?_
              refine AW.iald2 (pc := 963) (n := 8) (g := T l) (j := 0) dL_law_963 (by omega) (hB.2.2.2 l hl) (vp_lit (by decide)) (by decide) ?_
              refine AW.iconst (v := 4) (pc := 964) dL_law_964 (by decide) ?_
              refine AW.icmp_ne (pc := 965) (tgt := 996) dL_law_965 (by decide) (fun _ => ?_) (fun c => absurd c (by rw [e0]; decide))
              refine AW.aload (pc := 996) dL_law_996 rfl ?_
              refine AW.iconst (v := 0) (pc := 998) dL_law_998 (by decide) ?_
              refine AW.iald2 (pc := 999) (n := 8) (g := T l) (j := 0) dL_law_999 (by omega) (hB.2.2.2 l hl) (vp_lit (by decide)) (by decide) ?_
              refine AW.iconst (v := 3) (pc := 1000) dL_law_1000 (by decide) ?_
              refine AW.icmp_ne (pc := 1001) (tgt := 1034) dL_law_1001 (by decide) (fun c => absurd (by rw [e0]; decide) c) (fun _ => ?_)
              refine AW.iload (pc := 1004) dL_law_1004 rfl ?_
              refine AW.iload (pc := 1006) dL_law_1006 rfl ?_
              refine AW.iconst (v := 1) (pc := 1008) dL_law_1008 (by decide) ?_
              refine AW.icmp_eq (pc := 1009) (tgt := 1018) dL_law_1009 (by decide) (fun c => absurd c (by decide)) (fun _ => ?_)
              refine AW.iload (pc := 1012) dL_law_1012 rfl ?_
              refine AW.iconst (v := 1) (pc := 1014) dL_law_1014 (by decide) ?_
              refine AW.icmp_ne (pc := 1015) (tgt := 1022) dL_law_1015 (by decide) (fun c => absurd (by decide) c) (fun _ => ?_)
              refine AW.iconst (v := 1) (pc := 1018) dL_law_1018 (by decide) ?_
              refine AW.goto (pc := 1019) (tgt := 1029) dL_law_1019 (by decide) ?_
              refine AW.icmp_eq (pc := 1029) (tgt := 1034) dL_law_1029 (by decide) (fun _ => ?_) (fun c => absurd (by decide) c)
              refine AW.iinc (v := ((nI l) + 1)) (L' := [.ref 0, .int (nI t), .ref 1, .ref 2, .null, .int sp, .null, .null, .null, .null, .null, .null, .null, .null, .null, .null, .null, .int ((nI l) + 1), .ref (79 + l), .int 0, .int 1, .int 1]) (pc := 1034) dL_law_1034 rfl rfl (by decide) rfl rfl ?_
              rw [nI_1 l]
              refine AW.goto (pc := 1037) (tgt := 807) dL_law_1037 (by decide) ?_
              refine AW.locals (L' := [.ref 0, .int (nI t), .ref 1, .ref 2, .null, .int sp, .null, .null, .null, .null, .null, .null, .null, .null, .null, .null, .null, .int (nI (l + 1)), .null, .null, .null, .null]) (aw_fewer_same (aw_fewer_same (aw_fewer_same (aw_fewer_same (aw_fewer_null (aw_fewer_same (aw_fewer_null (aw_fewer_null (aw_fewer_null (aw_fewer_null (aw_fewer_null (aw_fewer_null (aw_fewer_null (aw_fewer_null (aw_fewer_null (aw_fewer_null (aw_fewer_null (aw_fewer_same (aw_fewer_null (aw_fewer_null (aw_fewer_null (aw_fewer_null aw_fewer_nil)))))))))))))))))))))) ?_
              exact ih (l + 1) _ _ (by omega) (by omega) (by omega)
            · rw [eb] at ho
              have eo : ρ (6 + l) = (2 : Int32) := ho.trans (by decide)
              rw [eb, eo]
              show AW _ _ _ _ _ _ _ 884 [.ref 0, .int (nI t), .ref 1, .ref 2, .null, .int sp, .null, .null, .null, .null, .null, .null, .null, .null, .null, .null, .null, .int (nI l), .ref (79 + l), .int 0, .int 2, .int 2] [.int (T l 0)] h k (((cs + 2) + 2) + 2) (((ss + 12) + 12) + 12)
              refine AW.if_ne (pc := 884) (tgt := 906) dL_law_884 (by decide) (fun _ => ?_) (fun c => absurd c (by rw [e0]; decide))
              refine AW.aload (pc := 906) dL_law_906 rfl ?_
              refine AW.iconst (v := 0) (pc := 908) dL_law_908 (by decide) ?_
              refine AW.iald2 (pc := 909) (n := 8) (g := T l) (j := 0) dL_law_909 (by omega) (hB.2.2.2 l hl) (vp_lit (by decide)) (by decide) ?_
              refine AW.iconst (v := 1) (pc := 910) dL_law_910 (by decide) ?_
              refine AW.icmp_ne (pc := 911) (tgt := 921) dL_law_911 (by decide) (fun _ => ?_) (fun c => absurd c (by rw [e0]; decide))
              refine AW.aload (pc := 921) dL_law_921 rfl ?_
              refine AW.iconst (v := 0) (pc := 923) dL_law_923 (by decide) ?_
              refine AW.iald2 (pc := 924) (n := 8) (g := T l) (j := 0) dL_law_924 (by omega) (hB.2.2.2 l hl) (vp_lit (by decide)) (by decide) ?_
              refine AW.iconst (v := 2) (pc := 925) dL_law_925 (by decide) ?_
              refine AW.icmp_ne (pc := 926) (tgt := 960) dL_law_926 (by decide) (fun _ => ?_) (fun c => absurd c (by rw [e0]; decide))
              refine AW.aload (pc := 960) dL_law_960 rfl ?_
              refine AW.iconst (v := 0) (pc := 962) dL_law_962 (by decide) ?_
              refine AW.iald2 (pc := 963) (n := 8) (g := T l) (j := 0) dL_law_963 (by omega) (hB.2.2.2 l hl) (vp_lit (by decide)) (by decide) ?_
              refine AW.iconst (v := 4) (pc := 964) dL_law_964 (by decide) ?_
              refine AW.icmp_ne (pc := 965) (tgt := 996) dL_law_965 (by decide) (fun _ => ?_) (fun c => absurd c (by rw [e0]; decide))
              refine AW.aload (pc := 996) dL_law_996 rfl ?_
              refine AW.iconst (v := 0) (pc := 998) dL_law_998 (by decide) ?_
              refine AW.iald2 (pc := 999) (n := 8) (g := T l) (j := 0) dL_law_999 (by omega) (hB.2.2.2 l hl) (vp_lit (by decide)) (by decide) ?_
              refine AW.iconst (v := 3) (pc := 1000) dL_law_1000 (by decide) ?_
              refine AW.icmp_ne (pc := 1001) (tgt := 1034) dL_law_1001 (by decide) (fun c => absurd (by rw [e0]; decide) c) (fun _ => ?_)
              refine AW.iload (pc := 1004) dL_law_1004 rfl ?_
              refine AW.iload (pc := 1006) dL_law_1006 rfl ?_
              refine AW.iconst (v := 1) (pc := 1008) dL_law_1008 (by decide) ?_
              refine AW.icmp_eq (pc := 1009) (tgt := 1018) dL_law_1009 (by decide) (fun c => absurd c (by decide)) (fun _ => ?_)
              refine AW.iload (pc := 1012) dL_law_1012 rfl ?_
              refine AW.iconst (v := 1) (pc := 1014) dL_law_1014 (by decide) ?_
              refine AW.icmp_ne (pc := 1015) (tgt := 1022) dL_law_1015 (by decide) (fun _ => ?_) (fun c => absurd c (by decide))
              refine AW.iload (pc := 1022) dL_law_1022 rfl ?_
              refine AW.iload (pc := 1024) dL_law_1024 rfl ?_
              refine AW.mmax (pc := 1026) dL_law_1026 tw_863 tw_106 tw_14 (Nat.le_of_ble_eq_true rfl) (by omega) (by omega) ?_
              refine AW.icmp_eq (pc := 1029) (tgt := 1034) dL_law_1029 (by decide) (fun _ => ?_) (fun c => absurd (by decide) c)
              refine AW.iinc (v := ((nI l) + 1)) (L' := [.ref 0, .int (nI t), .ref 1, .ref 2, .null, .int sp, .null, .null, .null, .null, .null, .null, .null, .null, .null, .null, .null, .int ((nI l) + 1), .ref (79 + l), .int 0, .int 2, .int 2]) (pc := 1034) dL_law_1034 rfl rfl (by decide) rfl rfl ?_
              rw [nI_1 l]
              refine AW.goto (pc := 1037) (tgt := 807) dL_law_1037 (by decide) ?_
              refine AW.locals (L' := [.ref 0, .int (nI t), .ref 1, .ref 2, .null, .int sp, .null, .null, .null, .null, .null, .null, .null, .null, .null, .null, .null, .int (nI (l + 1)), .null, .null, .null, .null]) (aw_fewer_same (aw_fewer_same (aw_fewer_same (aw_fewer_same (aw_fewer_null (aw_fewer_same (aw_fewer_null (aw_fewer_null (aw_fewer_null (aw_fewer_null (aw_fewer_null (aw_fewer_null (aw_fewer_null (aw_fewer_null (aw_fewer_null (aw_fewer_null (aw_fewer_null (aw_fewer_same (aw_fewer_null (aw_fewer_null (aw_fewer_null (aw_fewer_null aw_fewer_nil)))))))))))))))))))))) ?_
              exact ih (l + 1) _ _ (by omega) (by omega) (by omega)
          · rcases hBv with eb | eb | eb
            · rw [eb] at ho
              have eo : ρ (6 + l) = (1 : Int32) := ho.trans (by decide)
              rw [eb, eo]
              show AW _ _ _ _ _ _ _ 884 [.ref 0, .int (nI t), .ref 1, .ref 2, .null, .int sp, .null, .null, .null, .null, .null, .null, .null, .null, .null, .null, .null, .int (nI l), .ref (79 + l), .int 1, .int 0, .int 1] [.int (T l 0)] h k (((cs + 2) + 2) + 2) (((ss + 12) + 12) + 12)
              refine AW.if_ne (pc := 884) (tgt := 906) dL_law_884 (by decide) (fun _ => ?_) (fun c => absurd c (by rw [e0]; decide))
              refine AW.aload (pc := 906) dL_law_906 rfl ?_
              refine AW.iconst (v := 0) (pc := 908) dL_law_908 (by decide) ?_
              refine AW.iald2 (pc := 909) (n := 8) (g := T l) (j := 0) dL_law_909 (by omega) (hB.2.2.2 l hl) (vp_lit (by decide)) (by decide) ?_
              refine AW.iconst (v := 1) (pc := 910) dL_law_910 (by decide) ?_
              refine AW.icmp_ne (pc := 911) (tgt := 921) dL_law_911 (by decide) (fun _ => ?_) (fun c => absurd c (by rw [e0]; decide))
              refine AW.aload (pc := 921) dL_law_921 rfl ?_
              refine AW.iconst (v := 0) (pc := 923) dL_law_923 (by decide) ?_
              refine AW.iald2 (pc := 924) (n := 8) (g := T l) (j := 0) dL_law_924 (by omega) (hB.2.2.2 l hl) (vp_lit (by decide)) (by decide) ?_
              refine AW.iconst (v := 2) (pc := 925) dL_law_925 (by decide) ?_
              refine AW.icmp_ne (pc := 926) (tgt := 960) dL_law_926 (by decide) (fun _ => ?_) (fun c => absurd c (by rw [e0]; decide))
              refine AW.aload (pc := 960) dL_law_960 rfl ?_
              refine AW.iconst (v := 0) (pc := 962) dL_law_962 (by decide) ?_
              refine AW.iald2 (pc := 963) (n := 8) (g := T l) (j := 0) dL_law_963 (by omega) (hB.2.2.2 l hl) (vp_lit (by decide)) (by decide) ?_
              refine AW.iconst (v := 4) (pc := 964) dL_law_964 (by decide) ?_
              refine AW.icmp_ne (pc := 965) (tgt := 996) dL_law_965 (by decide) (fun _ => ?_) (fun c => absurd c (by rw [e0]; decide))
              refine AW.aload (pc := 996) dL_law_996 rfl ?_
              refine AW.iconst (v := 0) (pc := 998) dL_law_998 (by decide) ?_
              refine AW.iald2 (pc := 999) (n := 8) (g := T l) (j := 0) dL_law_999 (by omega) (hB.2.2.2 l hl) (vp_lit (by decide)) (by decide) ?_
              refine AW.iconst (v := 3) (pc := 1000) dL_law_1000 (by decide) ?_
              refine AW.icmp_ne (pc := 1001) (tgt := 1034) dL_law_1001 (by decide) (fun c => absurd (by rw [e0]; decide) c) (fun _ => ?_)
              refine AW.iload (pc := 1004) dL_law_1004 rfl ?_
              refine AW.iload (pc := 1006) dL_law_1006 rfl ?_
              refine AW.iconst (v := 1) (pc := 1008) dL_law_1008 (by decide) ?_
              refine AW.icmp_eq (pc := 1009) (tgt := 1018) dL_law_1009 (by decide) (fun _ => ?_) (fun c => absurd (by decide) c)
              refine AW.iconst (v := 1) (pc := 1018) dL_law_1018 (by decide) ?_
              refine AW.goto (pc := 1019) (tgt := 1029) dL_law_1019 (by decide) ?_
              refine AW.icmp_eq (pc := 1029) (tgt := 1034) dL_law_1029 (by decide) (fun _ => ?_) (fun c => absurd (by decide) c)
              refine AW.iinc (v := ((nI l) + 1)) (L' := [.ref 0, .int (nI t), .ref 1, .ref 2, .null, .int sp, .null, .null, .null, .null, .null, .null, .null, .null, .null, .null, .null, .int ((nI l) + 1), .ref (79 + l), .int 1, .int 0, .int 1]) (pc := 1034) dL_law_1034 rfl rfl (by decide) rfl rfl ?_
              rw [nI_1 l]
              refine AW.goto (pc := 1037) (tgt := 807) dL_law_1037 (by decide) ?_
              refine AW.locals (L' := [.ref 0, .int (nI t), .ref 1, .ref 2, .null, .int sp, .null, .null, .null, .null, .null, .null, .null, .null, .null, .null, .null, .int (nI (l + 1)), .null, .null, .null, .null]) (aw_fewer_same (aw_fewer_same (aw_fewer_same (aw_fewer_same (aw_fewer_null (aw_fewer_same (aw_fewer_null (aw_fewer_null (aw_fewer_null (aw_fewer_null (aw_fewer_null (aw_fewer_null (aw_fewer_null (aw_fewer_null (aw_fewer_null (aw_fewer_null (aw_fewer_null (aw_fewer_same (aw_fewer_null (aw_fewer_null (aw_fewer_null (aw_fewer_null aw_fewer_nil)))))))))))))))))))))) ?_
              exact ih (l + 1) _ _ (by omega) (by omega) (by omega)
            · rw [eb] at ho
              have eo : ρ (6 + l) = (1 : Int32) := ho.trans (by decide)
              rw [eb, eo]
              show AW _ _ _ _ _ _ _ 884 [.ref 0, .int (nI t), .ref 1, .ref 2, .null, .int sp, .null, .null, .null, .null, .null, .null, .null, .null, .null, .null, .null, .int (nI l), .ref (79 + l), .int 1, .int 1, .int 1] [.int (T l 0)] h k (((cs + 2) + 2) + 2) (((ss + 12) + 12) + 12)
              refine AW.if_ne (pc := 884) (tgt := 906) dL_law_884 (by decide) (fun _ => ?_) (fun c => absurd c (by rw [e0]; decide))
              refine AW.aload (pc := 906) dL_law_906 rfl ?_
              refine AW.iconst (v := 0) (pc := 908) dL_law_908 (by decide) ?_
              refine AW.iald2 (pc := 909) (n := 8) (g := T l) (j := 0) dL_law_909 (by omega) (hB.2.2.2 l hl) (vp_lit (by decide)) (by decide) ?_
              refine AW.iconst (v := 1) (pc := 910) dL_law_910 (by decide) ?_
              refine AW.icmp_ne (pc := 911) (tgt := 921) dL_law_911 (by decide) (fun _ => ?_) (fun c => absurd c (by rw [e0]; decide))
              refine AW.aload (pc := 921) dL_law_921 rfl ?_
              refine AW.iconst (v := 0) (pc := 923) dL_law_923 (by decide) ?_
              refine AW.iald2 (pc := 924) (n := 8) (g := T l) (j := 0) dL_law_924 (by omega) (hB.2.2.2 l hl) (vp_lit (by decide)) (by decide) ?_
              refine AW.iconst (v := 2) (pc := 925) dL_law_925 (by decide) ?_
              refine AW.icmp_ne (pc := 926) (tgt := 960) dL_law_926 (by decide) (fun _ => ?_) (fun c => absurd c (by rw [e0]; decide))
              refine AW.aload (pc := 960) dL_law_960 rfl ?_
              refine AW.iconst (v := 0) (pc := 962) dL_law_962 (by decide) ?_
              refine AW.iald2 (pc := 963) (n := 8) (g := T l) (j := 0) dL_law_963 (by omega) (hB.2.2.2 l hl) (vp_lit (by decide)) (by decide) ?_
              refine AW.iconst (v := 4) (pc := 964) dL_law_964 (by decide) ?_
              refine AW.icmp_ne (pc := 965) (tgt := 996) dL_law_965 (by decide) (fun _ => ?_) (fun c => absurd c (by rw [e0]; decide))
              refine AW.aload (pc := 996) dL_law_996 rfl ?_
              refine AW.iconst (v := 0) (pc := 998) dL_law_998 (by decide) ?_
              refine AW.iald2 (pc := 999) (n := 8) (g := T l) (j := 0) dL_law_999 (by omega) (hB.2.2.2 l hl) (vp_lit (by decide)) (by decide) ?_
              refine AW.iconst (v := 3) (pc := 1000) dL_law_1000 (by decide) ?_
              refine AW.icmp_ne (pc := 1001) (tgt := 1034) dL_law_1001 (by decide) (fun c => absurd (by rw [e0]; decide) c) (fun _ => ?_)
              refine AW.iload (pc := 1004) dL_law_1004 rfl ?_
              refine AW.iload (pc := 1006) dL_law_1006 rfl ?_
              refine AW.iconst (v := 1) (pc := 1008) dL_law_1008 (by decide) ?_
              refine AW.icmp_eq (pc := 1009) (tgt := 1018) dL_law_1009 (by decide) (fun _ => ?_) (fun c => absurd (by decide) c)
              refine AW.iconst (v := 1) (pc := 1018) dL_law_1018 (by decide) ?_
              refine AW.goto (pc := 1019) (tgt := 1029) dL_law_1019 (by decide) ?_
              refine AW.icmp_eq (pc := 1029) (tgt := 1034) dL_law_1029 (by decide) (fun _ => ?_) (fun c => absurd (by decide) c)
              refine AW.iinc (v := ((nI l) + 1)) (L' := [.ref 0, .int (nI t), .ref 1, .ref 2, .null, .int sp, .null, .null, .null, .null, .null, .null, .null, .null, .null, .null, .null, .int ((nI l) + 1), .ref (79 + l), .int 1, .int 1, .int 1]) (pc := 1034) dL_law_1034 rfl rfl (by decide) rfl rfl ?_
              rw [nI_1 l]
              refine AW.goto (pc := 1037) (tgt := 807) dL_law_1037 (by decide) ?_
              refine AW.locals (L' := [.ref 0, .int (nI t), .ref 1, .ref 2, .null, .int sp, .null, .null, .null, .null, .null, .null, .null, .null, .null, .null, .null, .int (nI (l + 1)), .null, .null, .null, .null]) (aw_fewer_same (aw_fewer_same (aw_fewer_same (aw_fewer_same (aw_fewer_null (aw_fewer_same (aw_fewer_null (aw_fewer_null (aw_fewer_null (aw_fewer_null (aw_fewer_null (aw_fewer_null (aw_fewer_null (aw_fewer_null (aw_fewer_null (aw_fewer_null (aw_fewer_null (aw_fewer_same (aw_fewer_null (aw_fewer_null (aw_fewer_null (aw_fewer_null aw_fewer_nil)))))))))))))))))))))) ?_
              exact ih (l + 1) _ _ (by omega) (by omega) (by omega)
            · rw [eb] at ho
              have eo : ρ (6 + l) = (1 : Int32) := ho.trans (by decide)
              rw [eb, eo]
              show AW _ _ _ _ _ _ _ 884 [.ref 0, .int (nI t), .ref 1, .ref 2, .null, .int sp, .null, .null, .null, .null, .null, .null, .null, .null, .null, .null, .null, .int (nI l), .ref (79 + l), .int 1, .int 2, .int 1] [.int (T l 0)] h k (((cs + 2) + 2) + 2) (((ss + 12) + 12) + 12)
              refine AW.if_ne (pc := 884) (tgt := 906) dL_law_884 (by decide) (fun _ => ?_) (fun c => absurd c (by rw [e0]; decide))
              refine AW.aload (pc := 906) dL_law_906 rfl ?_
              refine AW.iconst (v := 0) (pc := 908) dL_law_908 (by decide) ?_
              refine AW.iald2 (pc := 909) (n := 8) (g := T l) (j := 0) dL_law_909 (by omega) (hB.2.2.2 l hl) (vp_lit (by decide)) (by decide) ?_
              refine AW.iconst (v := 1) (pc := 910) dL_law_910 (by decide) ?_
              refine AW.icmp_ne (pc := 911) (tgt := 921) dL_law_911 (by decide) (fun _ => ?_) (fun c => absurd c (by rw [e0]; decide))
              refine AW.aload (pc := 921) dL_law_921 rfl ?_
              refine AW.iconst (v := 0) (pc := 923) dL_law_923 (by decide) ?_
              refine AW.iald2 (pc := 924) (n := 8) (g := T l) (j := 0) dL_law_924 (by omega) (hB.2.2.2 l hl) (vp_lit (by decide)) (by decide) ?_
              refine AW.iconst (v := 2) (pc := 925) dL_law_925 (by decide) ?_
              refine AW.icmp_ne (pc := 926) (tgt := 960) dL_law_926 (by decide) (fun _ => ?_) (fun c => absurd c (by rw [e0]; decide))
              refine AW.aload (pc := 960) dL_law_960 rfl ?_
              refine AW.iconst (v := 0) (pc := 962) dL_law_962 (by decide) ?_
              refine AW.iald2 (pc := 963) (n := 8) (g := T l) (j := 0) dL_law_963 (by omega) (hB.2.2.2 l hl) (vp_lit (by decide)) (by decide) ?_
              refine AW.iconst (v := 4) (pc := 964) dL_law_964 (by decide) ?_
              refine AW.icmp_ne (pc := 965) (tgt := 996) dL_law_965 (by decide) (fun _ => ?_) (fun c => absurd c (by rw [e0]; decide))
              refine AW.aload (pc := 996) dL_law_996 rfl ?_
              refine AW.iconst (v := 0) (pc := 998) dL_law_998 (by decide) ?_
              refine AW.iald2 (pc := 999) (n := 8) (g := T l) (j := 0) dL_law_999 (by omega) (hB.2.2.2 l hl) (vp_lit (by decide)) (by decide) ?_
              refine AW.iconst (v := 3) (pc := 1000) dL_law_1000 (by decide) ?_
              refine AW.icmp_ne (pc := 1001) (tgt := 1034) dL_law_1001 (by decide) (fun c => absurd (by rw [e0]; decide) c) (fun _ => ?_)
              refine AW.iload (pc := 1004) dL_law_1004 rfl ?_
              refine AW.iload (pc := 1006) dL_law_1006 rfl ?_
              refine AW.iconst (v := 1) (pc := 1008) dL_law_1008 (by decide) ?_
              refine AW.icmp_eq (pc := 1009) (tgt := 1018) dL_law_1009 (by decide) (fun _ => ?_) (fun c => absurd (by decide) c)
              refine AW.iconst (v := 1) (pc := 1018) dL_law_1018 (by decide) ?_
              refine AW.goto (pc := 1019) (tgt := 1029) dL_law_1019 (by decide) ?_
              refine AW.icmp_eq (pc := 1029) (tgt := 1034) dL_law_1029 (by decide) (fun _ => ?_) (fun c => absurd (by decide) c)
              refine AW.iinc (v := ((nI l) + 1)) (L' := [.ref 0, .int (nI t), .ref 1, .ref 2, .null, .int sp, .null, .null, .null, .null, .null, .null, .null, .null, .null, .null, .null, .int ((nI l) + 1), .ref (79 + l), .int 1, .int 2, .int 1]) (pc := 1034) dL_law_1034 rfl rfl (by decide) rfl rfl ?_
              rw [nI_1 l]
              refine AW.goto (pc := 1037) (tgt := 807) dL_law_1037 (by decide) ?_
              refine AW.locals (L' := [.ref 0, .int (nI t), .ref 1, .ref 2, .null, .int sp, .null, .null, .null, .null, .null, .null, .null, .null, .null, .null, .null, .int (nI (l + 1)), .null, .null, .null, .null]) (aw_fewer_same (aw_fewer_same (aw_fewer_same (aw_fewer_same (aw_fewer_null (aw_fewer_same (aw_fewer_null (aw_fewer_null (aw_fewer_null (aw_fewer_null (aw_fewer_null (aw_fewer_null (aw_fewer_null (aw_fewer_null (aw_fewer_null (aw_fewer_null (aw_fewer_null (aw_fewer_same (aw_fewer_null (aw_fewer_null (aw_fewer_null (aw_fewer_null aw_fewer_nil)))))))))))))))))))))) ?_
              exact ih (l + 1) _ _ (by omega) (by omega) (by omega)
          · rcases hBv with eb | eb | eb
            · rw [eb] at ho
              have eo : ρ (6 + l) = (2 : Int32) := ho.trans (by decide)
              rw [eb, eo]
              show AW _ _ _ _ _ _ _ 884 [.ref 0, .int (nI t), .ref 1, .ref 2, .null, .int sp, .null, .null, .null, .null, .null, .null, .null, .null, .null, .null, .null, .int (nI l), .ref (79 + l), .int 2, .int 0, .int 2] [.int (T l 0)] h k (((cs + 2) + 2) + 2) (((ss + 12) + 12) + 12)
              refine AW.if_ne (pc := 884) (tgt := 906) dL_law_884 (by decide) (fun _ => ?_) (fun c => absurd c (by rw [e0]; decide))
              refine AW.aload (pc := 906) dL_law_906 rfl ?_
              refine AW.iconst (v := 0) (pc := 908) dL_law_908 (by decide) ?_
              refine AW.iald2 (pc := 909) (n := 8) (g := T l) (j := 0) dL_law_909 (by omega) (hB.2.2.2 l hl) (vp_lit (by decide)) (by decide) ?_
              refine AW.iconst (v := 1) (pc := 910) dL_law_910 (by decide) ?_
              refine AW.icmp_ne (pc := 911) (tgt := 921) dL_law_911 (by decide) (fun _ => ?_) (fun c => absurd c (by rw [e0]; decide))
              refine AW.aload (pc := 921) dL_law_921 rfl ?_
              refine AW.iconst (v := 0) (pc := 923) dL_law_923 (by decide) ?_
              refine AW.iald2 (pc := 924) (n := 8) (g := T l) (j := 0) dL_law_924 (by omega) (hB.2.2.2 l hl) (vp_lit (by decide)) (by decide) ?_
              refine AW.iconst (v := 2) (pc := 925) dL_law_925 (by decide) ?_
              refine AW.icmp_ne (pc := 926) (tgt := 960) dL_law_926 (by decide) (fun _ => ?_) (fun c => absurd c (by rw [e0]; decide))
              refine AW.aload (pc := 960) dL_law_960 rfl ?_
              refine AW.iconst (v := 0) (pc := 962) dL_law_962 (by decide) ?_
              refine AW.iald2 (pc := 963) (n := 8) (g := T l) (j := 0) dL_law_963 (by omega) (hB.2.2.2 l hl) (vp_lit (by decide)) (by decide) ?_
              refine AW.iconst (v := 4) (pc := 964) dL_law_964 (by decide) ?_
              refine AW.icmp_ne (pc := 965) (tgt := 996) dL_law_965 (by decide) (fun _ => ?_) (fun c => absurd c (by rw [e0]; decide))
              refine AW.aload (pc := 996) dL_law_996 rfl ?_
              refine AW.iconst (v := 0) (pc := 998) dL_law_998 (by decide) ?_
              refine AW.iald2 (pc := 999) (n := 8) (g := T l) (j := 0) dL_law_999 (by omega) (hB.2.2.2 l hl) (vp_lit (by decide)) (by decide) ?_
              refine AW.iconst (v := 3) (pc := 1000) dL_law_1000 (by decide) ?_
              refine AW.icmp_ne (pc := 1001) (tgt := 1034) dL_law_1001 (by decide) (fun c => absurd (by rw [e0]; decide) c) (fun _ => ?_)
              refine AW.iload (pc := 1004) dL_law_1004 rfl ?_
              refine AW.iload (pc := 1006) dL_law_1006 rfl ?_
              refine AW.iconst (v := 1) (pc := 1008) dL_law_1008 (by decide) ?_
              refine AW.icmp_eq (pc := 1009) (tgt := 1018) dL_law_1009 (by decide) (fun c => absurd c (by decide)) (fun _ => ?_)
              refine AW.iload (pc := 1012) dL_law_1012 rfl ?_
              refine AW.iconst (v := 1) (pc := 1014) dL_law_1014 (by decide) ?_
              refine AW.icmp_ne (pc := 1015) (tgt := 1022) dL_law_1015 (by decide) (fun _ => ?_) (fun c => absurd c (by decide))
              refine AW.iload (pc := 1022) dL_law_1022 rfl ?_
              refine AW.iload (pc := 1024) dL_law_1024 rfl ?_
              refine AW.mmax (pc := 1026) dL_law_1026 tw_863 tw_106 tw_14 (Nat.le_of_ble_eq_true rfl) (by omega) (by omega) ?_
              refine AW.icmp_eq (pc := 1029) (tgt := 1034) dL_law_1029 (by decide) (fun _ => ?_) (fun c => absurd (by decide) c)
              refine AW.iinc (v := ((nI l) + 1)) (L' := [.ref 0, .int (nI t), .ref 1, .ref 2, .null, .int sp, .null, .null, .null, .null, .null, .null, .null, .null, .null, .null, .null, .int ((nI l) + 1), .ref (79 + l), .int 2, .int 0, .int 2]) (pc := 1034) dL_law_1034 rfl rfl (by decide) rfl rfl ?_
              rw [nI_1 l]
              refine AW.goto (pc := 1037) (tgt := 807) dL_law_1037 (by decide) ?_
              refine AW.locals (L' := [.ref 0, .int (nI t), .ref 1, .ref 2, .null, .int sp, .null, .null, .null, .null, .null, .null, .null, .null, .null, .null, .null, .int (nI (l + 1)), .null, .null, .null, .null]) (aw_fewer_same (aw_fewer_same (aw_fewer_same (aw_fewer_same (aw_fewer_null (aw_fewer_same (aw_fewer_null (aw_fewer_null (aw_fewer_null (aw_fewer_null (aw_fewer_null (aw_fewer_null (aw_fewer_null (aw_fewer_null (aw_fewer_null (aw_fewer_null (aw_fewer_null (aw_fewer_same (aw_fewer_null (aw_fewer_null (aw_fewer_null (aw_fewer_null aw_fewer_nil)))))))))))))))))))))) ?_
              exact ih (l + 1) _ _ (by omega) (by omega) (by omega)
            · rw [eb] at ho
              have eo : ρ (6 + l) = (1 : Int32) := ho.trans (by decide)
              rw [eb, eo]
              show AW _ _ _ _ _ _ _ 884 [.ref 0, .int (nI t), .ref 1, .ref 2, .null, .int sp, .null, .null, .null, .null, .null, .null, .null, .null, .null, .null, .null, .int (nI l), .ref (79 + l), .int 2, .int 1, .int 1] [.int (T l 0)] h k (((cs + 2) + 2) + 2) (((ss + 12) + 12) + 12)
              refine AW.if_ne (pc := 884) (tgt := 906) dL_law_884 (by decide) (fun _ => ?_) (fun c => absurd c (by rw [e0]; decide))
              refine AW.aload (pc := 906) dL_law_906 rfl ?_
              refine AW.iconst (v := 0) (pc := 908) dL_law_908 (by decide) ?_
              refine AW.iald2 (pc := 909) (n := 8) (g := T l) (j := 0) dL_law_909 (by omega) (hB.2.2.2 l hl) (vp_lit (by decide)) (by decide) ?_
              refine AW.iconst (v := 1) (pc := 910) dL_law_910 (by decide) ?_
              refine AW.icmp_ne (pc := 911) (tgt := 921) dL_law_911 (by decide) (fun _ => ?_) (fun c => absurd c (by rw [e0]; decide))
              refine AW.aload (pc := 921) dL_law_921 rfl ?_
              refine AW.iconst (v := 0) (pc := 923) dL_law_923 (by decide) ?_
              refine AW.iald2 (pc := 924) (n := 8) (g := T l) (j := 0) dL_law_924 (by omega) (hB.2.2.2 l hl) (vp_lit (by decide)) (by decide) ?_
              refine AW.iconst (v := 2) (pc := 925) dL_law_925 (by decide) ?_
              refine AW.icmp_ne (pc := 926) (tgt := 960) dL_law_926 (by decide) (fun _ => ?_) (fun c => absurd c (by rw [e0]; decide))
              refine AW.aload (pc := 960) dL_law_960 rfl ?_
              refine AW.iconst (v := 0) (pc := 962) dL_law_962 (by decide) ?_
              refine AW.iald2 (pc := 963) (n := 8) (g := T l) (j := 0) dL_law_963 (by omega) (hB.2.2.2 l hl) (vp_lit (by decide)) (by decide) ?_
              refine AW.iconst (v := 4) (pc := 964) dL_law_964 (by decide) ?_
              refine AW.icmp_ne (pc := 965) (tgt := 996) dL_law_965 (by decide) (fun _ => ?_) (fun c => absurd c (by rw [e0]; decide))
              refine AW.aload (pc := 996) dL_law_996 rfl ?_
              refine AW.iconst (v := 0) (pc := 998) dL_law_998 (by decide) ?_
              refine AW.iald2 (pc := 999) (n := 8) (g := T l) (j := 0) dL_law_999 (by omega) (hB.2.2.2 l hl) (vp_lit (by decide)) (by decide) ?_
              refine AW.iconst (v := 3) (pc := 1000) dL_law_1000 (by decide) ?_
              refine AW.icmp_ne (pc := 1001) (tgt := 1034) dL_law_1001 (by decide) (fun c => absurd (by rw [e0]; decide) c) (fun _ => ?_)
              refine AW.iload (pc := 1004) dL_law_1004 rfl ?_
              refine AW.iload (pc := 1006) dL_law_1006 rfl ?_
              refine AW.iconst (v := 1) (pc := 1008) dL_law_1008 (by decide) ?_
              refine AW.icmp_eq (pc := 1009) (tgt := 1018) dL_law_1009 (by decide) (fun c => absurd c (by decide)) (fun _ => ?_)
              refine AW.iload (pc := 1012) dL_law_1012 rfl ?_
              refine AW.iconst (v := 1) (pc := 1014) dL_law_1014 (by decide) ?_
              refine AW.icmp_ne (pc := 1015) (tgt := 1022) dL_law_1015 (by decide) (fun c => absurd (by decide) c) (fun _ => ?_)
              refine AW.iconst (v := 1) (pc := 1018) dL_law_1018 (by decide) ?_
              refine AW.goto (pc := 1019) (tgt := 1029) dL_law_1019 (by decide) ?_
              refine AW.icmp_eq (pc := 1029) (tgt := 1034) dL_law_1029 (by decide) (fun _ => ?_) (fun c => absurd (by decide) c)
              refine AW.iinc (v := ((nI l) + 1)) (L' := [.ref 0, .int (nI t), .ref 1, .ref 2, .null, .int sp, .null, .null, .null, .null, .null, .null, .null, .null, .null, .null, .null, .int ((nI l) + 1), .ref (79 + l), .int 2, .int 1, .int 1]) (pc := 1034) dL_law_1034 rfl rfl (by decide) rfl rfl ?_
              rw [nI_1 l]
              refine AW.goto (pc := 1037) (tgt := 807) dL_law_1037 (by decide) ?_
              refine AW.locals (L' := [.ref 0, .int (nI t), .ref 1, .ref 2, .null, .int sp, .null, .null, .null, .null, .null, .null, .null, .null, .null, .null, .null, .int (nI (l + 1)), .null, .null, .null, .null]) (aw_fewer_same (aw_fewer_same (aw_fewer_same (aw_fewer_same (aw_fewer_null (aw_fewer_same (aw_fewer_null (aw_fewer_null (aw_fewer_null (aw_fewer_null (aw_fewer_null (aw_fewer_null (aw_fewer_null (aw_fewer_null (aw_fewer_null (aw_fewer_null (aw_fewer_null (aw_fewer_same (aw_fewer_null (aw_fewer_null (aw_fewer_null (aw_fewer_null aw_fewer_nil)))))))))))))))))))))) ?_
              exact ih (l + 1) _ _ (by omega) (by omega) (by omega)
            · rw [eb] at ho
              have eo : ρ (6 + l) = (2 : Int32) := ho.trans (by decide)
              rw [eb, eo]
              show AW _ _ _ _ _ _ _ 884 [.ref 0, .int (nI t), .ref 1, .ref 2, .null, .int sp, .null, .null, .null, .null, .null, .null, .null, .null, .null, .null, .null, .int (nI l), .ref (79 + l), .int 2, .int 2, .int 2] [.int (T l 0)] h k (((cs + 2) + 2) + 2) (((ss + 12) + 12) + 12)
              refine AW.if_ne (pc := 884) (tgt := 906) dL_law_884 (by decide) (fun _ => ?_) (fun c => absurd c (by rw [e0]; decide))
              refine AW.aload (pc := 906) dL_law_906 rfl ?_
              refine AW.iconst (v := 0) (pc := 908) dL_law_908 (by decide) ?_
              refine AW.iald2 (pc := 909) (n := 8) (g := T l) (j := 0) dL_law_909 (by omega) (hB.2.2.2 l hl) (vp_lit (by decide)) (by decide) ?_
              refine AW.iconst (v := 1) (pc := 910) dL_law_910 (by decide) ?_
              refine AW.icmp_ne (pc := 911) (tgt := 921) dL_law_911 (by decide) (fun _ => ?_) (fun c => absurd c (by rw [e0]; decide))
              refine AW.aload (pc := 921) dL_law_921 rfl ?_
              refine AW.iconst (v := 0) (pc := 923) dL_law_923 (by decide) ?_
              refine AW.iald2 (pc := 924) (n := 8) (g := T l) (j := 0) dL_law_924 (by omega) (hB.2.2.2 l hl) (vp_lit (by decide)) (by decide) ?_
              refine AW.iconst (v := 2) (pc := 925) dL_law_925 (by decide) ?_
              refine AW.icmp_ne (pc := 926) (tgt := 960) dL_law_926 (by decide) (fun _ => ?_) (fun c => absurd c (by rw [e0]; decide))
              refine AW.aload (pc := 960) dL_law_960 rfl ?_
              refine AW.iconst (v := 0) (pc := 962) dL_law_962 (by decide) ?_
              refine AW.iald2 (pc := 963) (n := 8) (g := T l) (j := 0) dL_law_963 (by omega) (hB.2.2.2 l hl) (vp_lit (by decide)) (by decide) ?_
              refine AW.iconst (v := 4) (pc := 964) dL_law_964 (by decide) ?_
              refine AW.icmp_ne (pc := 965) (tgt := 996) dL_law_965 (by decide) (fun _ => ?_) (fun c => absurd c (by rw [e0]; decide))
              refine AW.aload (pc := 996) dL_law_996 rfl ?_
              refine AW.iconst (v := 0) (pc := 998) dL_law_998 (by decide) ?_
              refine AW.iald2 (pc := 999) (n := 8) (g := T l) (j := 0) dL_law_999 (by omega) (hB.2.2.2 l hl) (vp_lit (by decide)) (by decide) ?_
              refine AW.iconst (v := 3) (pc := 1000) dL_law_1000 (by decide) ?_
              refine AW.icmp_ne (pc := 1001) (tgt := 1034) dL_law_1001 (by decide) (fun c => absurd (by rw [e0]; decide) c) (fun _ => ?_)
              refine AW.iload (pc := 1004) dL_law_1004 rfl ?_
              refine AW.iload (pc := 1006) dL_law_1006 rfl ?_
              refine AW.iconst (v := 1) (pc := 1008) dL_law_1008 (by decide) ?_
              refine AW.icmp_eq (pc := 1009) (tgt := 1018) dL_law_1009 (by decide) (fun c => absurd c (by decide)) (fun _ => ?_)
              refine AW.iload (pc := 1012) dL_law_1012 rfl ?_
              refine AW.iconst (v := 1) (pc := 1014) dL_law_1014 (by decide) ?_
              refine AW.icmp_ne (pc := 1015) (tgt := 1022) dL_law_1015 (by decide) (fun _ => ?_) (fun c => absurd c (by decide))
              refine AW.iload (pc := 1022) dL_law_1022 rfl ?_
              refine AW.iload (pc := 1024) dL_law_1024 rfl ?_
              refine AW.mmax (pc := 1026) dL_law_1026 tw_863 tw_106 tw_14 (Nat.le_of_ble_eq_true rfl) (by omega) (by omega) ?_
              refine AW.icmp_eq (pc := 1029) (tgt := 1034) dL_law_1029 (by decide) (fun _ => ?_) (fun c => absurd (by decide) c)
              refine AW.iinc (v := ((nI l) + 1)) (L' := [.ref 0, .int (nI t), .ref 1, .ref 2, .null, .int sp, .null, .null, .null, .null, .null, .null, .null, .null, .null, .null, .null, .int ((nI l) + 1), .ref (79 + l), .int 2, .int 2, .int 2]) (pc := 1034) dL_law_1034 rfl rfl (by decide) rfl rfl ?_
              rw [nI_1 l]
              refine AW.goto (pc := 1037) (tgt := 807) dL_law_1037 (by decide) ?_
              refine AW.locals (L' := [.ref 0, .int (nI t), .ref 1, .ref 2, .null, .int sp, .null, .null, .null, .null, .null, .null, .null, .null, .null, .null, .null, .int (nI (l + 1)), .null, .null, .null, .null]) (aw_fewer_same (aw_fewer_same (aw_fewer_same (aw_fewer_same (aw_fewer_null (aw_fewer_same (aw_fewer_null (aw_fewer_null (aw_fewer_null (aw_fewer_null (aw_fewer_null (aw_fewer_null (aw_fewer_null (aw_fewer_null (aw_fewer_null (aw_fewer_null (aw_fewer_null (aw_fewer_same (aw_fewer_null (aw_fewer_null (aw_fewer_null (aw_fewer_null aw_fewer_nil)))))))))))))))))))))) ?_
              exact ih (l + 1) _ _ (by omega) (by omega) (by omega)
        · obtain ⟨b, hb, e3⟩ : ∃ b : Nat, b < l ∧ T l 3 = nI b := h3
          rw [e2]
          refine AW.if_ge (pc := 829) (tgt := 836) dL_law_829 (by decide) (fun _ => ?_) (fun c => absurd (nI_le (a := 0) (by omega) (by omega)) c)
          refine AW.aload_n (pc := 836) dL_law_836 rfl rfl ?_
          refine AW.aload (pc := 837) dL_law_837 rfl ?_
          refine AW.iconst (v := 2) (pc := 839) dL_law_839 (by decide) ?_
          refine AW.iald2 (pc := 840) (n := 8) (g := T l) (j := 2) dL_law_840 (by omega) (hB.2.2.2 l hl) (vp_lit (by decide)) (by decide) ?_
          refine AW.iconst (v := 0) (pc := 841) dL_law_841 (by decide) ?_
          rw [e2]
          show AW _ _ _ _ _ _ _ 842 [.ref 0, .int (nI t), .ref 1, .ref 2, .null, .int sp, .null, .null, .null, .null, .null, .null, .null, .null, .null, .null, .null, .int (nI l), .ref (79 + l), .null, .null, .null] [.int (0 : Int32), .int (nI a), .ref 2] h k cs ss
          refine AW.callRd (pc := 842) (S' := []) dL_law_842 (l_wire0 (d := 2027) hM (by decide) (by omega)) hM.1 (by omega) (by simp [aw_ok]) ok_X4_ofWire tw_307 tw_308 tw_306 rfl rfl (by omega) rfl (Nat.le_of_ble_eq_true rfl) (by omega) (by omega) ?_
          show AW _ _ _ _ _ _ _ 845 [.ref 0, .int (nI t), .ref 1, .ref 2, .null, .int sp, .null, .null, .null, .null, .null, .null, .null, .null, .null, .null, .null, .int (nI l), .ref (79 + l), .null, .null, .null] [.int (ρ (6 + a))] h k (cs + 2) (ss + 12)
          refine AW.istore (L' := [.ref 0, .int (nI t), .ref 1, .ref 2, .null, .int sp, .null, .null, .null, .null, .null, .null, .null, .null, .null, .null, .null, .int (nI l), .ref (79 + l), .int (ρ (6 + a)), .null, .null]) (pc := 845) dL_law_845 (by decide) rfl rfl ?_
          refine AW.aload (pc := 847) dL_law_847 rfl ?_
          refine AW.iconst (v := 3) (pc := 849) dL_law_849 (by decide) ?_
          refine AW.iald2 (pc := 850) (n := 8) (g := T l) (j := 3) dL_law_850 (by omega) (hB.2.2.2 l hl) (vp_lit (by decide)) (by decide) ?_
          rw [e3]
          refine AW.if_ge (pc := 851) (tgt := 858) dL_law_851 (by decide) (fun _ => ?_) (fun c => absurd (nI_le (a := 0) (by omega) (by omega)) c)
          refine AW.aload_n (pc := 858) dL_law_858 rfl rfl ?_
          refine AW.aload (pc := 859) dL_law_859 rfl ?_
          refine AW.iconst (v := 3) (pc := 861) dL_law_861 (by decide) ?_
          refine AW.iald2 (pc := 862) (n := 8) (g := T l) (j := 3) dL_law_862 (by omega) (hB.2.2.2 l hl) (vp_lit (by decide)) (by decide) ?_
          refine AW.iconst (v := 0) (pc := 863) dL_law_863 (by decide) ?_
          rw [e3]
          show AW _ _ _ _ _ _ _ 864 [.ref 0, .int (nI t), .ref 1, .ref 2, .null, .int sp, .null, .null, .null, .null, .null, .null, .null, .null, .null, .null, .null, .int (nI l), .ref (79 + l), .int (ρ (6 + a)), .null, .null] [.int (0 : Int32), .int (nI b), .ref 2] h k (cs + 2) (ss + 12)
          refine AW.callRd (pc := 864) (S' := []) dL_law_864 (l_wire0 (d := 2027) hM (by decide) (by omega)) hM.1 (by omega) (by simp [aw_ok]) ok_X4_ofWire tw_307 tw_308 tw_306 rfl rfl (by omega) rfl (Nat.le_of_ble_eq_true rfl) (by omega) (by omega) ?_
          show AW _ _ _ _ _ _ _ 867 [.ref 0, .int (nI t), .ref 1, .ref 2, .null, .int sp, .null, .null, .null, .null, .null, .null, .null, .null, .null, .null, .null, .int (nI l), .ref (79 + l), .int (ρ (6 + a)), .null, .null] [.int (ρ (6 + b))] h k ((cs + 2) + 2) ((ss + 12) + 12)
          refine AW.istore (L' := [.ref 0, .int (nI t), .ref 1, .ref 2, .null, .int sp, .null, .null, .null, .null, .null, .null, .null, .null, .null, .null, .null, .int (nI l), .ref (79 + l), .int (ρ (6 + a)), .int (ρ (6 + b)), .null]) (pc := 867) dL_law_867 (by decide) rfl rfl ?_
          refine AW.aload_n (pc := 869) dL_law_869 rfl rfl ?_
          refine AW.aload (pc := 870) dL_law_870 rfl ?_
          refine AW.iconst (v := 1) (pc := 872) dL_law_872 (by decide) ?_
          refine AW.iald2 (pc := 873) (n := 8) (g := T l) (j := 1) dL_law_873 (by omega) (hB.2.2.2 l hl) (vp_lit (by decide)) (by decide) ?_
          refine AW.iconst (v := 0) (pc := 874) dL_law_874 (by decide) ?_
          rw [e1]
          show AW _ _ _ _ _ _ _ 875 [.ref 0, .int (nI t), .ref 1, .ref 2, .null, .int sp, .null, .null, .null, .null, .null, .null, .null, .null, .null, .null, .null, .int (nI l), .ref (79 + l), .int (ρ (6 + a)), .int (ρ (6 + b)), .null] [.int (0 : Int32), .int (nI l), .ref 2] h k ((cs + 2) + 2) ((ss + 12) + 12)
          refine AW.callRd (pc := 875) (S' := []) dL_law_875 (l_wire0 (d := 2027) hM (by decide) (by omega)) hM.1 (by omega) (by simp [aw_ok]) ok_X4_ofWire tw_307 tw_308 tw_306 rfl rfl (by omega) rfl (Nat.le_of_ble_eq_true rfl) (by omega) (by omega) ?_
          show AW _ _ _ _ _ _ _ 878 [.ref 0, .int (nI t), .ref 1, .ref 2, .null, .int sp, .null, .null, .null, .null, .null, .null, .null, .null, .null, .null, .null, .int (nI l), .ref (79 + l), .int (ρ (6 + a)), .int (ρ (6 + b)), .null] [.int (ρ (6 + l))] h k (((cs + 2) + 2) + 2) (((ss + 12) + 12) + 12)
          refine AW.istore (L' := [.ref 0, .int (nI t), .ref 1, .ref 2, .null, .int sp, .null, .null, .null, .null, .null, .null, .null, .null, .null, .null, .null, .int (nI l), .ref (79 + l), .int (ρ (6 + a)), .int (ρ (6 + b)), .int (ρ (6 + l))]) (pc := 878) dL_law_878 (by decide) rfl rfl ?_
          refine AW.aload (pc := 880) dL_law_880 rfl ?_
          refine AW.iconst (v := 0) (pc := 882) dL_law_882 (by decide) ?_
          refine AW.iald2 (pc := 883) (n := 8) (g := T l) (j := 0) dL_law_883 (by omega) (hB.2.2.2 l hl) (vp_lit (by decide)) (by decide) ?_
          have hA := hS.2.2.2.2.2.2.2.1 a (by omega)
          have hBv := hS.2.2.2.2.2.2.2.1 b (by omega)
          have ho := gate_out (Bv := ρ (6 + b)) hG hTG hS hgs hl (hp l hl) (by decide) e0 e2 (by omega) (Or.inr ⟨b, by omega, e3, rfl⟩)
          generalize ρ (6 + a) = Av at *
          rcases hA with rfl | rfl | rfl
          · rcases hBv with eb | eb | eb
            · rw [eb] at ho
              have eo : ρ (6 + l) = (0 : Int32) := ho.trans (by decide)
              rw [eb, eo]
              show AW _ _ _ _ _ _ _ 884 [.ref 0, .int (nI t), .ref 1, .ref 2, .null, .int sp, .null, .null, .null, .null, .null, .null, .null, .null, .null, .null, .null, .int (nI l), .ref (79 + l), .int 0, .int 0, .int 0] [.int (T l 0)] h k (((cs + 2) + 2) + 2) (((ss + 12) + 12) + 12)
              refine AW.if_ne (pc := 884) (tgt := 906) dL_law_884 (by decide) (fun _ => ?_) (fun c => absurd c (by rw [e0]; decide))
              refine AW.aload (pc := 906) dL_law_906 rfl ?_
              refine AW.iconst (v := 0) (pc := 908) dL_law_908 (by decide) ?_
              refine AW.iald2 (pc := 909) (n := 8) (g := T l) (j := 0) dL_law_909 (by omega) (hB.2.2.2 l hl) (vp_lit (by decide)) (by decide) ?_
              refine AW.iconst (v := 1) (pc := 910) dL_law_910 (by decide) ?_
              refine AW.icmp_ne (pc := 911) (tgt := 921) dL_law_911 (by decide) (fun _ => ?_) (fun c => absurd c (by rw [e0]; decide))
              refine AW.aload (pc := 921) dL_law_921 rfl ?_
              refine AW.iconst (v := 0) (pc := 923) dL_law_923 (by decide) ?_
              refine AW.iald2 (pc := 924) (n := 8) (g := T l) (j := 0) dL_law_924 (by omega) (hB.2.2.2 l hl) (vp_lit (by decide)) (by decide) ?_
              refine AW.iconst (v := 2) (pc := 925) dL_law_925 (by decide) ?_
              refine AW.icmp_ne (pc := 926) (tgt := 960) dL_law_926 (by decide) (fun _ => ?_) (fun c => absurd c (by rw [e0]; decide))
              refine AW.aload (pc := 960) dL_law_960 rfl ?_
              refine AW.iconst (v := 0) (pc := 962) dL_law_962 (by decide) ?_
              refine AW.iald2 (pc := 963) (n := 8) (g := T l) (j := 0) dL_law_963 (by omega) (hB.2.2.2 l hl) (vp_lit (by decide)) (by decide) ?_
              refine AW.iconst (v := 4) (pc := 964) dL_law_964 (by decide) ?_
              refine AW.icmp_ne (pc := 965) (tgt := 996) dL_law_965 (by decide) (fun c => absurd (by rw [e0]; decide) c) (fun _ => ?_)
              refine AW.iload (pc := 968) dL_law_968 rfl ?_
              refine AW.iload (pc := 970) dL_law_970 rfl ?_
              refine AW.iconst (v := 2) (pc := 972) dL_law_972 (by decide) ?_
              refine AW.icmp_eq (pc := 973) (tgt := 982) dL_law_973 (by decide) (fun c => absurd c (by decide)) (fun _ => ?_)
              refine AW.iload (pc := 976) dL_law_976 rfl ?_
              refine AW.iconst (v := 2) (pc := 978) dL_law_978 (by decide) ?_
              refine AW.icmp_ne (pc := 979) (tgt := 986) dL_law_979 (by decide) (fun _ => ?_) (fun c => absurd c (by decide))
              refine AW.iload (pc := 986) dL_law_986 rfl ?_
              refine AW.iload (pc := 988) dL_law_988 rfl ?_
              refine AW.iadd (pc := 990) dL_law_990 ?_
              refine AW.iconst (v := 2) (pc := 991) dL_law_991 (by decide) ?_
              refine AW.irem (pc := 992) dL_law_992 (by first | decide | assumption) ?_
              refine AW.icmp_ne (pc := 993) (tgt := 1032) dL_law_993 (by decide) (fun c => absurd (by decide) c) (fun _ => ?_)
              refine AW.aload (pc := 996) dL_law_996 rfl ?_
              refine AW.iconst (v := 0) (pc := 998) dL_law_998 (by decide) ?_
              refine AW.iald2 (pc := 999) (n := 8) (g := T l) (j := 0) dL_law_999 (by omega) (hB.2.2.2 l hl) (vp_lit (by decide)) (by decide) ?_
              refine AW.iconst (v := 3) (pc := 1000) dL_law_1000 (by decide) ?_
              refine AW.icmp_ne (pc := 1001) (tgt := 1034) dL_law_1001 (by decide) (fun _ => ?_) (fun c => absurd c (by rw [e0]; decide))
              refine AW.iinc (v := ((nI l) + 1)) (L' := [.ref 0, .int (nI t), .ref 1, .ref 2, .null, .int sp, .null, .null, .null, .null, .null, .null, .null, .null, .null, .null, .null, .int ((nI l) + 1), .ref (79 + l), .int 0, .int 0, .int 0]) (pc := 1034) dL_law_1034 rfl rfl (by decide) rfl rfl ?_
              rw [nI_1 l]
              refine AW.goto (pc := 1037) (tgt := 807) dL_law_1037 (by decide) ?_
              refine AW.locals (L' := [.ref 0, .int (nI t), .ref 1, .ref 2, .null, .int sp, .null, .null, .null, .null, .null, .null, .null, .null, .null, .null, .null, .int (nI (l + 1)), .null, .null, .null, .null]) (aw_fewer_same (aw_fewer_same (aw_fewer_same (aw_fewer_same (aw_fewer_null (aw_fewer_same (aw_fewer_null (aw_fewer_null (aw_fewer_null (aw_fewer_null (aw_fewer_null (aw_fewer_null (aw_fewer_null (aw_fewer_null (aw_fewer_null (aw_fewer_null (aw_fewer_null (aw_fewer_same (aw_fewer_null (aw_fewer_null (aw_fewer_null (aw_fewer_null aw_fewer_nil)))))))))))))))))))))) ?_
              exact ih (l + 1) _ _ (by omega) (by omega) (by omega)
            · rw [eb] at ho
              have eo : ρ (6 + l) = (1 : Int32) := ho.trans (by decide)
              rw [eb, eo]
              show AW _ _ _ _ _ _ _ 884 [.ref 0, .int (nI t), .ref 1, .ref 2, .null, .int sp, .null, .null, .null, .null, .null, .null, .null, .null, .null, .null, .null, .int (nI l), .ref (79 + l), .int 0, .int 1, .int 1] [.int (T l 0)] h k (((cs + 2) + 2) + 2) (((ss + 12) + 12) + 12)
              refine AW.if_ne (pc := 884) (tgt := 906) dL_law_884 (by decide) (fun _ => ?_) (fun c => absurd c (by rw [e0]; decide))
              refine AW.aload (pc := 906) dL_law_906 rfl ?_
              refine AW.iconst (v := 0) (pc := 908) dL_law_908 (by decide) ?_
              refine AW.iald2 (pc := 909) (n := 8) (g := T l) (j := 0) dL_law_909 (by omega) (hB.2.2.2 l hl) (vp_lit (by decide)) (by decide) ?_
              refine AW.iconst (v := 1) (pc := 910) dL_law_910 (by decide) ?_
              refine AW.icmp_ne (pc := 911) (tgt := 921) dL_law_911 (by decide) (fun _ => ?_) (fun c => absurd c (by rw [e0]; decide))
              refine AW.aload (pc := 921) dL_law_921 rfl ?_
              refine AW.iconst (v := 0) (pc := 923) dL_law_923 (by decide) ?_
              refine AW.iald2 (pc := 924) (n := 8) (g := T l) (j := 0) dL_law_924 (by omega) (hB.2.2.2 l hl) (vp_lit (by decide)) (by decide) ?_
              refine AW.iconst (v := 2) (pc := 925) dL_law_925 (by decide) ?_
              refine AW.icmp_ne (pc := 926) (tgt := 960) dL_law_926 (by decide) (fun _ => ?_) (fun c => absurd c (by rw [e0]; decide))
              refine AW.aload (pc := 960) dL_law_960 rfl ?_
              refine AW.iconst (v := 0) (pc := 962) dL_law_962 (by decide) ?_
              refine AW.iald2 (pc := 963) (n := 8) (g := T l) (j := 0) dL_law_963 (by omega) (hB.2.2.2 l hl) (vp_lit (by decide)) (by decide) ?_
              refine AW.iconst (v := 4) (pc := 964) dL_law_964 (by decide) ?_
              refine AW.icmp_ne (pc := 965) (tgt := 996) dL_law_965 (by decide) (fun c => absurd (by rw [e0]; decide) c) (fun _ => ?_)
              refine AW.iload (pc := 968) dL_law_968 rfl ?_
              refine AW.iload (pc := 970) dL_law_970 rfl ?_
              refine AW.iconst (v := 2) (pc := 972) dL_law_972 (by decide) ?_
              refine AW.icmp_eq (pc := 973) (tgt := 982) dL_law_973 (by decide) (fun c => absurd c (by decide)) (fun _ => ?_)
              refine AW.iload (pc := 976) dL_law_976 rfl ?_
              refine AW.iconst (v := 2) (pc := 978) dL_law_978 (by decide) ?_
              refine AW.icmp_ne (pc := 979) (tgt := 986) dL_law_979 (by decide) (fun _ => ?_) (fun c => absurd c (by decide))
              refine AW.iload (pc := 986) dL_law_986 rfl ?_
              refine AW.iload (pc := 988) dL_law_988 rfl ?_
              refine AW.iadd (pc := 990) dL_law_990 ?_
              refine AW.iconst (v := 2) (pc := 991) dL_law_991 (by decide) ?_
              refine AW.irem (pc := 992) dL_law_992 (by first | decide | assumption) ?_
              refine AW.icmp_ne (pc := 993) (tgt := 1032) dL_law_993 (by decide) (fun c => absurd (by decide) c) (fun _ => ?_)
              refine AW.aload (pc := 996) dL_law_996 rfl ?_
              refine AW.iconst (v := 0) (pc := 998) dL_law_998 (by decide) ?_
              refine AW.iald2 (pc := 999) (n := 8) (g := T l) (j := 0) dL_law_999 (by omega) (hB.2.2.2 l hl) (vp_lit (by decide)) (by decide) ?_
              refine AW.iconst (v := 3) (pc := 1000) dL_law_1000 (by decide) ?_
              refine AW.icmp_ne (pc := 1001) (tgt := 1034) dL_law_1001 (by decide) (fun _ => ?_) (fun c => absurd c (by rw [e0]; decide))
              refine AW.iinc (v := ((nI l) + 1)) (L' := [.ref 0, .int (nI t), .ref 1, .ref 2, .null, .int sp, .null, .null, .null, .null, .null, .null, .null, .null, .null, .null, .null, .int ((nI l) + 1), .ref (79 + l), .int 0, .int 1, .int 1]) (pc := 1034) dL_law_1034 rfl rfl (by decide) rfl rfl ?_
              rw [nI_1 l]
              refine AW.goto (pc := 1037) (tgt := 807) dL_law_1037 (by decide) ?_
              refine AW.locals (L' := [.ref 0, .int (nI t), .ref 1, .ref 2, .null, .int sp, .null, .null, .null, .null, .null, .null, .null, .null, .null, .null, .null, .int (nI (l + 1)), .null, .null, .null, .null]) (aw_fewer_same (aw_fewer_same (aw_fewer_same (aw_fewer_same (aw_fewer_null (aw_fewer_same (aw_fewer_null (aw_fewer_null (aw_fewer_null (aw_fewer_null (aw_fewer_null (aw_fewer_null (aw_fewer_null (aw_fewer_null (aw_fewer_null (aw_fewer_null (aw_fewer_null (aw_fewer_same (aw_fewer_null (aw_fewer_null (aw_fewer_null (aw_fewer_null aw_fewer_nil)))))))))))))))))))))) ?_
              exact ih (l + 1) _ _ (by omega) (by omega) (by omega)
            · rw [eb] at ho
              have eo : ρ (6 + l) = (2 : Int32) := ho.trans (by decide)
              rw [eb, eo]
              show AW _ _ _ _ _ _ _ 884 [.ref 0, .int (nI t), .ref 1, .ref 2, .null, .int sp, .null, .null, .null, .null, .null, .null, .null, .null, .null, .null, .null, .int (nI l), .ref (79 + l), .int 0, .int 2, .int 2] [.int (T l 0)] h k (((cs + 2) + 2) + 2) (((ss + 12) + 12) + 12)
              refine AW.if_ne (pc := 884) (tgt := 906) dL_law_884 (by decide) (fun _ => ?_) (fun c => absurd c (by rw [e0]; decide))
              refine AW.aload (pc := 906) dL_law_906 rfl ?_
              refine AW.iconst (v := 0) (pc := 908) dL_law_908 (by decide) ?_
              refine AW.iald2 (pc := 909) (n := 8) (g := T l) (j := 0) dL_law_909 (by omega) (hB.2.2.2 l hl) (vp_lit (by decide)) (by decide) ?_
              refine AW.iconst (v := 1) (pc := 910) dL_law_910 (by decide) ?_
              refine AW.icmp_ne (pc := 911) (tgt := 921) dL_law_911 (by decide) (fun _ => ?_) (fun c => absurd c (by rw [e0]; decide))
              refine AW.aload (pc := 921) dL_law_921 rfl ?_
              refine AW.iconst (v := 0) (pc := 923) dL_law_923 (by decide) ?_
              refine AW.iald2 (pc := 924) (n := 8) (g := T l) (j := 0) dL_law_924 (by omega) (hB.2.2.2 l hl) (vp_lit (by decide)) (by decide) ?_
              refine AW.iconst (v := 2) (pc := 925) dL_law_925 (by decide) ?_
              refine AW.icmp_ne (pc := 926) (tgt := 960) dL_law_926 (by decide) (fun _ => ?_) (fun c => absurd c (by rw [e0]; decide))
              refine AW.aload (pc := 960) dL_law_960 rfl ?_
              refine AW.iconst (v := 0) (pc := 962) dL_law_962 (by decide) ?_
              refine AW.iald2 (pc := 963) (n := 8) (g := T l) (j := 0) dL_law_963 (by omega) (hB.2.2.2 l hl) (vp_lit (by decide)) (by decide) ?_
              refine AW.iconst (v := 4) (pc := 964) dL_law_964 (by decide) ?_
              refine AW.icmp_ne (pc := 965) (tgt := 996) dL_law_965 (by decide) (fun c => absurd (by rw [e0]; decide) c) (fun _ => ?_)
              refine AW.iload (pc := 968) dL_law_968 rfl ?_
              refine AW.iload (pc := 970) dL_law_970 rfl ?_
              refine AW.iconst (v := 2) (pc := 972) dL_law_972 (by decide) ?_
              refine AW.icmp_eq (pc := 973) (tgt := 982) dL_law_973 (by decide) (fun c => absurd c (by decide)) (fun _ => ?_)
              refine AW.iload (pc := 976) dL_law_976 rfl ?_
              refine AW.iconst (v := 2) (pc := 978) dL_law_978 (by decide) ?_
              refine AW.icmp_ne (pc := 979) (tgt := 986) dL_law_979 (by decide) (fun c => absurd (by decide) c) (fun _ => ?_)
              refine AW.iconst (v := 2) (pc := 982) dL_law_982 (by decide) ?_
              refine AW.goto (pc := 983) (tgt := 993) dL_law_983 (by decide) ?_
              refine AW.icmp_ne (pc := 993) (tgt := 1032) dL_law_993 (by decide) (fun c => absurd (by decide) c) (fun _ => ?_)
              refine AW.aload (pc := 996) dL_law_996 rfl ?_
              refine AW.iconst (v := 0) (pc := 998) dL_law_998 (by decide) ?_
              refine AW.iald2 (pc := 999) (n := 8) (g := T l) (j := 0) dL_law_999 (by omega) (hB.2.2.2 l hl) (vp_lit (by decide)) (by decide) ?_
              refine AW.iconst (v := 3) (pc := 1000) dL_law_1000 (by decide) ?_
              refine AW.icmp_ne (pc := 1001) (tgt := 1034) dL_law_1001 (by decide) (fun _ => ?_) (fun c => absurd c (by rw [e0]; decide))
              refine AW.iinc (v := ((nI l) + 1)) (L' := [.ref 0, .int (nI t), .ref 1, .ref 2, .null, .int sp, .null, .null, .null, .null, .null, .null, .null, .null, .null, .null, .null, .int ((nI l) + 1), .ref (79 + l), .int 0, .int 2, .int 2]) (pc := 1034) dL_law_1034 rfl rfl (by decide) rfl rfl ?_
              rw [nI_1 l]
              refine AW.goto (pc := 1037) (tgt := 807) dL_law_1037 (by decide) ?_
              refine AW.locals (L' := [.ref 0, .int (nI t), .ref 1, .ref 2, .null, .int sp, .null, .null, .null, .null, .null, .null, .null, .null, .null, .null, .null, .int (nI (l + 1)), .null, .null, .null, .null]) (aw_fewer_same (aw_fewer_same (aw_fewer_same (aw_fewer_same (aw_fewer_null (aw_fewer_same (aw_fewer_null (aw_fewer_null (aw_fewer_null (aw_fewer_null (aw_fewer_null (aw_fewer_null (aw_fewer_null (aw_fewer_null (aw_fewer_null (aw_fewer_null (aw_fewer_null (aw_fewer_same (aw_fewer_null (aw_fewer_null (aw_fewer_null (aw_fewer_null aw_fewer_nil)))))))))))))))))))))) ?_
              exact ih (l + 1) _ _ (by omega) (by omega) (by omega)
          · rcases hBv with eb | eb | eb
            · rw [eb] at ho
              have eo : ρ (6 + l) = (1 : Int32) := ho.trans (by decide)
              rw [eb, eo]
              show AW _ _ _ _ _ _ _ 884 [.ref 0, .int (nI t), .ref 1, .ref 2, .null, .int sp, .null, .null, .null, .null, .null, .null, .null, .null, .null, .null, .null, .int (nI l), .ref (79 + l), .int 1, .int 0, .int 1] [.int (T l 0)] h k (((cs + 2) + 2) + 2) (((ss + 12) + 12) + 12)
              refine AW.if_ne (pc := 884) (tgt := 906) dL_law_884 (by decide) (fun _ => ?_) (fun c => absurd c (by rw [e0]; decide))
              refine AW.aload (pc := 906) dL_law_906 rfl ?_
              refine AW.iconst (v := 0) (pc := 908) dL_law_908 (by decide) ?_
              refine AW.iald2 (pc := 909) (n := 8) (g := T l) (j := 0) dL_law_909 (by omega) (hB.2.2.2 l hl) (vp_lit (by decide)) (by decide) ?_
              refine AW.iconst (v := 1) (pc := 910) dL_law_910 (by decide) ?_
              refine AW.icmp_ne (pc := 911) (tgt := 921) dL_law_911 (by decide) (fun _ => ?_) (fun c => absurd c (by rw [e0]; decide))
              refine AW.aload (pc := 921) dL_law_921 rfl ?_
              refine AW.iconst (v := 0) (pc := 923) dL_law_923 (by decide) ?_
              refine AW.iald2 (pc := 924) (n := 8) (g := T l) (j := 0) dL_law_924 (by omega) (hB.2.2.2 l hl) (vp_lit (by decide)) (by decide) ?_
              refine AW.iconst (v := 2) (pc := 925) dL_law_925 (by decide) ?_
              refine AW.icmp_ne (pc := 926) (tgt := 960) dL_law_926 (by decide) (fun _ => ?_) (fun c => absurd c (by rw [e0]; decide))
              refine AW.aload (pc := 960) dL_law_960 rfl ?_
              refine AW.iconst (v := 0) (pc := 962) dL_law_962 (by decide) ?_
              refine AW.iald2 (pc := 963) (n := 8) (g := T l) (j := 0) dL_law_963 (by omega) (hB.2.2.2 l hl) (vp_lit (by decide)) (by decide) ?_
              refine AW.iconst (v := 4) (pc := 964) dL_law_964 (by decide) ?_
              refine AW.icmp_ne (pc := 965) (tgt := 996) dL_law_965 (by decide) (fun c => absurd (by rw [e0]; decide) c) (fun _ => ?_)
              refine AW.iload (pc := 968) dL_law_968 rfl ?_
              refine AW.iload (pc := 970) dL_law_970 rfl ?_
              refine AW.iconst (v := 2) (pc := 972) dL_law_972 (by decide) ?_
              refine AW.icmp_eq (pc := 973) (tgt := 982) dL_law_973 (by decide) (fun c => absurd c (by decide)) (fun _ => ?_)
              refine AW.iload (pc := 976) dL_law_976 rfl ?_
              refine AW.iconst (v := 2) (pc := 978) dL_law_978 (by decide) ?_
              refine AW.icmp_ne (pc := 979) (tgt := 986) dL_law_979 (by decide) (fun _ => ?_) (fun c => absurd c (by decide))
              refine AW.iload (pc := 986) dL_law_986 rfl ?_
              refine AW.iload (pc := 988) dL_law_988 rfl ?_
              refine AW.iadd (pc := 990) dL_law_990 ?_
              refine AW.iconst (v := 2) (pc := 991) dL_law_991 (by decide) ?_
              refine AW.irem (pc := 992) dL_law_992 (by first | decide | assumption) ?_
              refine AW.icmp_ne (pc := 993) (tgt := 1032) dL_law_993 (by decide) (fun c => absurd (by decide) c) (fun _ => ?_)
              refine AW.aload (pc := 996) dL_law_996 rfl ?_
              refine AW.iconst (v := 0) (pc := 998) dL_law_998 (by decide) ?_
              refine AW.iald2 (pc := 999) (n := 8) (g := T l) (j := 0) dL_law_999 (by omega) (hB.2.2.2 l hl) (vp_lit (by decide)) (by decide) ?_
              refine AW.iconst (v := 3) (pc := 1000) dL_law_1000 (by decide) ?_
              refine AW.icmp_ne (pc := 1001) (tgt := 1034) dL_law_1001 (by decide) (fun _ => ?_) (fun c => absurd c (by rw [e0]; decide))
              refine AW.iinc (v := ((nI l) + 1)) (L' := [.ref 0, .int (nI t), .ref 1, .ref 2, .null, .int sp, .null, .null, .null, .null, .null, .null, .null, .null, .null, .null, .null, .int ((nI l) + 1), .ref (79 + l), .int 1, .int 0, .int 1]) (pc := 1034) dL_law_1034 rfl rfl (by decide) rfl rfl ?_
              rw [nI_1 l]
              refine AW.goto (pc := 1037) (tgt := 807) dL_law_1037 (by decide) ?_
              refine AW.locals (L' := [.ref 0, .int (nI t), .ref 1, .ref 2, .null, .int sp, .null, .null, .null, .null, .null, .null, .null, .null, .null, .null, .null, .int (nI (l + 1)), .null, .null, .null, .null]) (aw_fewer_same (aw_fewer_same (aw_fewer_same (aw_fewer_same (aw_fewer_null (aw_fewer_same (aw_fewer_null (aw_fewer_null (aw_fewer_null (aw_fewer_null (aw_fewer_null (aw_fewer_null (aw_fewer_null (aw_fewer_null (aw_fewer_null (aw_fewer_null (aw_fewer_null (aw_fewer_same (aw_fewer_null (aw_fewer_null (aw_fewer_null (aw_fewer_null aw_fewer_nil)))))))))))))))))))))) ?_
              exact ih (l + 1) _ _ (by omega) (by omega) (by omega)
            · rw [eb] at ho
              have eo : ρ (6 + l) = (0 : Int32) := ho.trans (by decide)
              rw [eb, eo]
              show AW _ _ _ _ _ _ _ 884 [.ref 0, .int (nI t), .ref 1, .ref 2, .null, .int sp, .null, .null, .null, .null, .null, .null, .null, .null, .null, .null, .null, .int (nI l), .ref (79 + l), .int 1, .int 1, .int 0] [.int (T l 0)] h k (((cs + 2) + 2) + 2) (((ss + 12) + 12) + 12)
              refine AW.if_ne (pc := 884) (tgt := 906) dL_law_884 (by decide) (fun _ => ?_) (fun c => absurd c (by rw [e0]; decide))
              refine AW.aload (pc := 906) dL_law_906 rfl ?_
              refine AW.iconst (v := 0) (pc := 908) dL_law_908 (by decide) ?_
              refine AW.iald2 (pc := 909) (n := 8) (g := T l) (j := 0) dL_law_909 (by omega) (hB.2.2.2 l hl) (vp_lit (by decide)) (by decide) ?_
              refine AW.iconst (v := 1) (pc := 910) dL_law_910 (by decide) ?_
              refine AW.icmp_ne (pc := 911) (tgt := 921) dL_law_911 (by decide) (fun _ => ?_) (fun c => absurd c (by rw [e0]; decide))
              refine AW.aload (pc := 921) dL_law_921 rfl ?_
              refine AW.iconst (v := 0) (pc := 923) dL_law_923 (by decide) ?_
              refine AW.iald2 (pc := 924) (n := 8) (g := T l) (j := 0) dL_law_924 (by omega) (hB.2.2.2 l hl) (vp_lit (by decide)) (by decide) ?_
              refine AW.iconst (v := 2) (pc := 925) dL_law_925 (by decide) ?_
              refine AW.icmp_ne (pc := 926) (tgt := 960) dL_law_926 (by decide) (fun _ => ?_) (fun c => absurd c (by rw [e0]; decide))
              refine AW.aload (pc := 960) dL_law_960 rfl ?_
              refine AW.iconst (v := 0) (pc := 962) dL_law_962 (by decide) ?_
              refine AW.iald2 (pc := 963) (n := 8) (g := T l) (j := 0) dL_law_963 (by omega) (hB.2.2.2 l hl) (vp_lit (by decide)) (by decide) ?_
              refine AW.iconst (v := 4) (pc := 964) dL_law_964 (by decide) ?_
              refine AW.icmp_ne (pc := 965) (tgt := 996) dL_law_965 (by decide) (fun c => absurd (by rw [e0]; decide) c) (fun _ => ?_)
              refine AW.iload (pc := 968) dL_law_968 rfl ?_
              refine AW.iload (pc := 970) dL_law_970 rfl ?_
              refine AW.iconst (v := 2) (pc := 972) dL_law_972 (by decide) ?_
              refine AW.icmp_eq (pc := 973) (tgt := 982) dL_law_973 (by decide) (fun c => absurd c (by decide)) (fun _ => ?_)
              refine AW.iload (pc := 976) dL_law_976 rfl ?_
              refine AW.iconst (v := 2) (pc := 978) dL_law_978 (by decide) ?_
              refine AW.icmp_ne (pc := 979) (tgt := 986) dL_law_979 (by decide) (fun _ => ?_) (fun c => absurd c (by decide))
              refine AW.iload (pc := 986) dL_law_986 rfl ?_
              refine AW.iload (pc := 988) dL_law_988 rfl ?_
              refine AW.iadd (pc := 990) dL_law_990 ?_
              refine AW.iconst (v := 2) (pc := 991) dL_law_991 (by decide) ?_
              refine AW.irem (pc := 992) dL_law_992 (by first | decide | assumption) ?_
              refine AW.icmp_ne (pc := 993) (tgt := 1032) dL_law_993 (by decide) (fun c => absurd (by decide) c) (fun _ => ?_)
              refine AW.aload (pc := 996) dL_law_996 rfl ?_
              refine AW.iconst (v := 0) (pc := 998) dL_law_998 (by decide) ?_
              refine AW.iald2 (pc := 999) (n := 8) (g := T l) (j := 0) dL_law_999 (by omega) (hB.2.2.2 l hl) (vp_lit (by decide)) (by decide) ?_
              refine AW.iconst (v := 3) (pc := 1000) dL_law_1000 (by decide) ?_
              refine AW.icmp_ne (pc := 1001) (tgt := 1034) dL_law_1001 (by decide) (fun _ => ?_) (fun c => absurd c (by rw [e0]; decide))
              refine AW.iinc (v := ((nI l) + 1)) (L' := [.ref 0, .int (nI t), .ref 1, .ref 2, .null, .int sp, .null, .null, .null, .null, .null, .null, .null, .null, .null, .null, .null, .int ((nI l) + 1), .ref (79 + l), .int 1, .int 1, .int 0]) (pc := 1034) dL_law_1034 rfl rfl (by decide) rfl rfl ?_
              rw [nI_1 l]
              refine AW.goto (pc := 1037) (tgt := 807) dL_law_1037 (by decide) ?_
              refine AW.locals (L' := [.ref 0, .int (nI t), .ref 1, .ref 2, .null, .int sp, .null, .null, .null, .null, .null, .null, .null, .null, .null, .null, .null, .int (nI (l + 1)), .null, .null, .null, .null]) (aw_fewer_same (aw_fewer_same (aw_fewer_same (aw_fewer_same (aw_fewer_null (aw_fewer_same (aw_fewer_null (aw_fewer_null (aw_fewer_null (aw_fewer_null (aw_fewer_null (aw_fewer_null (aw_fewer_null (aw_fewer_null (aw_fewer_null (aw_fewer_null (aw_fewer_null (aw_fewer_same (aw_fewer_null (aw_fewer_null (aw_fewer_null (aw_fewer_null aw_fewer_nil)))))))))))))))))))))) ?_
              exact ih (l + 1) _ _ (by omega) (by omega) (by omega)
            · rw [eb] at ho
              have eo : ρ (6 + l) = (2 : Int32) := ho.trans (by decide)
              rw [eb, eo]
              show AW _ _ _ _ _ _ _ 884 [.ref 0, .int (nI t), .ref 1, .ref 2, .null, .int sp, .null, .null, .null, .null, .null, .null, .null, .null, .null, .null, .null, .int (nI l), .ref (79 + l), .int 1, .int 2, .int 2] [.int (T l 0)] h k (((cs + 2) + 2) + 2) (((ss + 12) + 12) + 12)
              refine AW.if_ne (pc := 884) (tgt := 906) dL_law_884 (by decide) (fun _ => ?_) (fun c => absurd c (by rw [e0]; decide))
              refine AW.aload (pc := 906) dL_law_906 rfl ?_
              refine AW.iconst (v := 0) (pc := 908) dL_law_908 (by decide) ?_
              refine AW.iald2 (pc := 909) (n := 8) (g := T l) (j := 0) dL_law_909 (by omega) (hB.2.2.2 l hl) (vp_lit (by decide)) (by decide) ?_
              refine AW.iconst (v := 1) (pc := 910) dL_law_910 (by decide) ?_
              refine AW.icmp_ne (pc := 911) (tgt := 921) dL_law_911 (by decide) (fun _ => ?_) (fun c => absurd c (by rw [e0]; decide))
              refine AW.aload (pc := 921) dL_law_921 rfl ?_
              refine AW.iconst (v := 0) (pc := 923) dL_law_923 (by decide) ?_
              refine AW.iald2 (pc := 924) (n := 8) (g := T l) (j := 0) dL_law_924 (by omega) (hB.2.2.2 l hl) (vp_lit (by decide)) (by decide) ?_
              refine AW.iconst (v := 2) (pc := 925) dL_law_925 (by decide) ?_
              refine AW.icmp_ne (pc := 926) (tgt := 960) dL_law_926 (by decide) (fun _ => ?_) (fun c => absurd c (by rw [e0]; decide))
              refine AW.aload (pc := 960) dL_law_960 rfl ?_
              refine AW.iconst (v := 0) (pc := 962) dL_law_962 (by decide) ?_
              refine AW.iald2 (pc := 963) (n := 8) (g := T l) (j := 0) dL_law_963 (by omega) (hB.2.2.2 l hl) (vp_lit (by decide)) (by decide) ?_
              refine AW.iconst (v := 4) (pc := 964) dL_law_964 (by decide) ?_
              refine AW.icmp_ne (pc := 965) (tgt := 996) dL_law_965 (by decide) (fun c => absurd (by rw [e0]; decide) c) (fun _ => ?_)
              refine AW.iload (pc := 968) dL_law_968 rfl ?_
              refine AW.iload (pc := 970) dL_law_970 rfl ?_
              refine AW.iconst (v := 2) (pc := 972) dL_law_972 (by decide) ?_
              refine AW.icmp_eq (pc := 973) (tgt := 982) dL_law_973 (by decide) (fun c => absurd c (by decide)) (fun _ => ?_)
              refine AW.iload (pc := 976) dL_law_976 rfl ?_
              refine AW.iconst (v := 2) (pc := 978) dL_law_978 (by decide) ?_
              refine AW.icmp_ne (pc := 979) (tgt := 986) dL_law_979 (by decide) (fun c => absurd (by decide) c) (fun _ => ?_)
              refine AW.iconst (v := 2) (pc := 982) dL_law_982 (by decide) ?_
              refine AW.goto (pc := 983) (tgt := 993) dL_law_983 (by decide) ?_
              refine AW.icmp_ne (pc := 993) (tgt := 1032) dL_law_993 (by decide) (fun c => absurd (by decide) c) (fun _ => ?_)
              refine AW.aload (pc := 996) dL_law_996 rfl ?_
              refine AW.iconst (v := 0) (pc := 998) dL_law_998 (by decide) ?_
              refine AW.iald2 (pc := 999) (n := 8) (g := T l) (j := 0) dL_law_999 (by omega) (hB.2.2.2 l hl) (vp_lit (by decide)) (by decide) ?_
              refine AW.iconst (v := 3) (pc := 1000) dL_law_1000 (by decide) ?_
              refine AW.icmp_ne (pc := 1001) (tgt := 1034) dL_law_1001 (by decide) (fun _ => ?_) (fun c => absurd c (by rw [e0]; decide))
              refine AW.iinc (v := ((nI l) + 1)) (L' := [.ref 0, .int (nI t), .ref 1, .ref 2, .null, .int sp, .null, .null, .null, .null, .null, .null, .null, .null, .null, .null, .null, .int ((nI l) + 1), .ref (79 + l), .int 1, .int 2, .int 2]) (pc := 1034) dL_law_1034 rfl rfl (by decide) rfl rfl ?_
              rw [nI_1 l]
              refine AW.goto (pc := 1037) (tgt := 807) dL_law_1037 (by decide) ?_
              refine AW.locals (L' := [.ref 0, .int (nI t), .ref 1, .ref 2, .null, .int sp, .null, .null, .null, .null, .null, .null, .null, .null, .null, .null, .null, .int (nI (l + 1)), .null, .null, .null, .null]) (aw_fewer_same (aw_fewer_same (aw_fewer_same (aw_fewer_same (aw_fewer_null (aw_fewer_same (aw_fewer_null (aw_fewer_null (aw_fewer_null (aw_fewer_null (aw_fewer_null (aw_fewer_null (aw_fewer_null (aw_fewer_null (aw_fewer_null (aw_fewer_null (aw_fewer_null (aw_fewer_same (aw_fewer_null (aw_fewer_null (aw_fewer_null (aw_fewer_null aw_fewer_nil)))))))))))))))))))))) ?_
              exact ih (l + 1) _ _ (by omega) (by omega) (by omega)
          · rcases hBv with eb | eb | eb
            · rw [eb] at ho
              have eo : ρ (6 + l) = (2 : Int32) := ho.trans (by decide)
              rw [eb, eo]
              show AW _ _ _ _ _ _ _ 884 [.ref 0, .int (nI t), .ref 1, .ref 2, .null, .int sp, .null, .null, .null, .null, .null, .null, .null, .null, .null, .null, .null, .int (nI l), .ref (79 + l), .int 2, .int 0, .int 2] [.int (T l 0)] h k (((cs + 2) + 2) + 2) (((ss + 12) + 12) + 12)
              refine AW.if_ne (pc := 884) (tgt := 906) dL_law_884 (by decide) (fun _ => ?_) (fun c => absurd c (by rw [e0]; decide))
              refine AW.aload (pc := 906) dL_law_906 rfl ?_
              refine AW.iconst (v := 0) (pc := 908) dL_law_908 (by decide) ?_
              refine AW.iald2 (pc := 909) (n := 8) (g := T l) (j := 0) dL_law_909 (by omega) (hB.2.2.2 l hl) (vp_lit (by decide)) (by decide) ?_
              refine AW.iconst (v := 1) (pc := 910) dL_law_910 (by decide) ?_
              refine AW.icmp_ne (pc := 911) (tgt := 921) dL_law_911 (by decide) (fun _ => ?_) (fun c => absurd c (by rw [e0]; decide))
              refine AW.aload (pc := 921) dL_law_921 rfl ?_
              refine AW.iconst (v := 0) (pc := 923) dL_law_923 (by decide) ?_
              refine AW.iald2 (pc := 924) (n := 8) (g := T l) (j := 0) dL_law_924 (by omega) (hB.2.2.2 l hl) (vp_lit (by decide)) (by decide) ?_
              refine AW.iconst (v := 2) (pc := 925) dL_law_925 (by decide) ?_
              refine AW.icmp_ne (pc := 926) (tgt := 960) dL_law_926 (by decide) (fun _ => ?_) (fun c => absurd c (by rw [e0]; decide))
              refine AW.aload (pc := 960) dL_law_960 rfl ?_
              refine AW.iconst (v := 0) (pc := 962) dL_law_962 (by decide) ?_
              refine AW.iald2 (pc := 963) (n := 8) (g := T l) (j := 0) dL_law_963 (by omega) (hB.2.2.2 l hl) (vp_lit (by decide)) (by decide) ?_
              refine AW.iconst (v := 4) (pc := 964) dL_law_964 (by decide) ?_
              refine AW.icmp_ne (pc := 965) (tgt := 996) dL_law_965 (by decide) (fun c => absurd (by rw [e0]; decide) c) (fun _ => ?_)
              refine AW.iload (pc := 968) dL_law_968 rfl ?_
              refine AW.iload (pc := 970) dL_law_970 rfl ?_
              refine AW.iconst (v := 2) (pc := 972) dL_law_972 (by decide) ?_
              refine AW.icmp_eq (pc := 973) (tgt := 982) dL_law_973 (by decide) (fun _ => ?_) (fun c => absurd (by decide) c)
              refine AW.iconst (v := 2) (pc := 982) dL_law_982 (by decide) ?_
              refine AW.goto (pc := 983) (tgt := 993) dL_law_983 (by decide) ?_
              refine AW.icmp_ne (pc := 993) (tgt := 1032) dL_law_993 (by decide) (fun c => absurd (by decide) c) (fun _ => ?_)
              refine AW.aload (pc := 996) dL_law_996 rfl ?_
              refine AW.iconst (v := 0) (pc := 998) dL_law_998 (by decide) ?_
              refine AW.iald2 (pc := 999) (n := 8) (g := T l) (j := 0) dL_law_999 (by omega) (hB.2.2.2 l hl) (vp_lit (by decide)) (by decide) ?_
              refine AW.iconst (v := 3) (pc := 1000) dL_law_1000 (by decide) ?_
              refine AW.icmp_ne (pc := 1001) (tgt := 1034) dL_law_1001 (by decide) (fun _ => ?_) (fun c => absurd c (by rw [e0]; decide))
              refine AW.iinc (v := ((nI l) + 1)) (L' := [.ref 0, .int (nI t), .ref 1, .ref 2, .null, .int sp, .null, .null, .null, .null, .null, .null, .null, .null, .null, .null, .null, .int ((nI l) + 1), .ref (79 + l), .int 2, .int 0, .int 2]) (pc := 1034) dL_law_1034 rfl rfl (by decide) rfl rfl ?_
              rw [nI_1 l]
              refine AW.goto (pc := 1037) (tgt := 807) dL_law_1037 (by decide) ?_
              refine AW.locals (L' := [.ref 0, .int (nI t), .ref 1, .ref 2, .null, .int sp, .null, .null, .null, .null, .null, .null, .null, .null, .null, .null, .null, .int (nI (l + 1)), .null, .null, .null, .null]) (aw_fewer_same (aw_fewer_same (aw_fewer_same (aw_fewer_same (aw_fewer_null (aw_fewer_same (aw_fewer_null (aw_fewer_null (aw_fewer_null (aw_fewer_null (aw_fewer_null (aw_fewer_null (aw_fewer_null (aw_fewer_null (aw_fewer_null (aw_fewer_null (aw_fewer_null (aw_fewer_same (aw_fewer_null (aw_fewer_null (aw_fewer_null (aw_fewer_null aw_fewer_nil)))))))))))))))))))))) ?_
              exact ih (l + 1) _ _ (by omega) (by omega) (by omega)
            · rw [eb] at ho
              have eo : ρ (6 + l) = (2 : Int32) := ho.trans (by decide)
              rw [eb, eo]
              show AW _ _ _ _ _ _ _ 884 [.ref 0, .int (nI t), .ref 1, .ref 2, .null, .int sp, .null, .null, .null, .null, .null, .null, .null, .null, .null, .null, .null, .int (nI l), .ref (79 + l), .int 2, .int 1, .int 2] [.int (T l 0)] h k (((cs + 2) + 2) + 2) (((ss + 12) + 12) + 12)
              refine AW.if_ne (pc := 884) (tgt := 906) dL_law_884 (by decide) (fun _ => ?_) (fun c => absurd c (by rw [e0]; decide))
              refine AW.aload (pc := 906) dL_law_906 rfl ?_
              refine AW.iconst (v := 0) (pc := 908) dL_law_908 (by decide) ?_
              refine AW.iald2 (pc := 909) (n := 8) (g := T l) (j := 0) dL_law_909 (by omega) (hB.2.2.2 l hl) (vp_lit (by decide)) (by decide) ?_
              refine AW.iconst (v := 1) (pc := 910) dL_law_910 (by decide) ?_
              refine AW.icmp_ne (pc := 911) (tgt := 921) dL_law_911 (by decide) (fun _ => ?_) (fun c => absurd c (by rw [e0]; decide))
              refine AW.aload (pc := 921) dL_law_921 rfl ?_
              refine AW.iconst (v := 0) (pc := 923) dL_law_923 (by decide) ?_
              refine AW.iald2 (pc := 924) (n := 8) (g := T l) (j := 0) dL_law_924 (by omega) (hB.2.2.2 l hl) (vp_lit (by decide)) (by decide) ?_
              refine AW.iconst (v := 2) (pc := 925) dL_law_925 (by decide) ?_
              refine AW.icmp_ne (pc := 926) (tgt := 960) dL_law_926 (by decide) (fun _ => ?_) (fun c => absurd c (by rw [e0]; decide))
              refine AW.aload (pc := 960) dL_law_960 rfl ?_
              refine AW.iconst (v := 0) (pc := 962) dL_law_962 (by decide) ?_
              refine AW.iald2 (pc := 963) (n := 8) (g := T l) (j := 0) dL_law_963 (by omega) (hB.2.2.2 l hl) (vp_lit (by decide)) (by decide) ?_
              refine AW.iconst (v := 4) (pc := 964) dL_law_964 (by decide) ?_
              refine AW.icmp_ne (pc := 965) (tgt := 996) dL_law_965 (by decide) (fun c => absurd (by rw [e0]; decide) c) (fun _ => ?_)
              refine AW.iload (pc := 968) dL_law_968 rfl ?_
              refine AW.iload (pc := 970) dL_law_970 rfl ?_
              refine AW.iconst (v := 2) (pc := 972) dL_law_972 (by decide) ?_
              refine AW.icmp_eq (pc := 973) (tgt := 982) dL_law_973 (by decide) (fun _ => ?_) (fun c => absurd (by decide) c)
              refine AW.iconst (v := 2) (pc := 982) dL_law_982 (by decide) ?_
              refine AW.goto (pc := 983) (tgt := 993) dL_law_983 (by decide) ?_
              refine AW.icmp_ne (pc := 993) (tgt := 1032) dL_law_993 (by decide) (fun c => absurd (by decide) c) (fun _ => ?_)
              refine AW.aload (pc := 996) dL_law_996 rfl ?_
              refine AW.iconst (v := 0) (pc := 998) dL_law_998 (by decide) ?_
              refine AW.iald2 (pc := 999) (n := 8) (g := T l) (j := 0) dL_law_999 (by omega) (hB.2.2.2 l hl) (vp_lit (by decide)) (by decide) ?_
              refine AW.iconst (v := 3) (pc := 1000) dL_law_1000 (by decide) ?_
              refine AW.icmp_ne (pc := 1001) (tgt := 1034) dL_law_1001 (by decide) (fun _ => ?_) (fun c => absurd c (by rw [e0]; decide))
              refine AW.iinc (v := ((nI l) + 1)) (L' := [.ref 0, .int (nI t), .ref 1, .ref 2, .null, .int sp, .null, .null, .null, .null, .null, .null, .null, .null, .null, .null, .null, .int ((nI l) + 1), .ref (79 + l), .int 2, .int 1, .int 2]) (pc := 1034) dL_law_1034 rfl rfl (by decide) rfl rfl ?_
              rw [nI_1 l]
              refine AW.goto (pc := 1037) (tgt := 807) dL_law_1037 (by decide) ?_
              refine AW.locals (L' := [.ref 0, .int (nI t), .ref 1, .ref 2, .null, .int sp, .null, .null, .null, .null, .null, .null, .null, .null, .null, .null, .null, .int (nI (l + 1)), .null, .null, .null, .null]) (aw_fewer_same (aw_fewer_same (aw_fewer_same (aw_fewer_same (aw_fewer_null (aw_fewer_same (aw_fewer_null (aw_fewer_null (aw_fewer_null (aw_fewer_null (aw_fewer_null (aw_fewer_null (aw_fewer_null (aw_fewer_null (aw_fewer_null (aw_fewer_null (aw_fewer_null (aw_fewer_same (aw_fewer_null (aw_fewer_null (aw_fewer_null (aw_fewer_null aw_fewer_nil)))))))))))))))))))))) ?_
              exact ih (l + 1) _ _ (by omega) (by omega) (by omega)
            · rw [eb] at ho
              have eo : ρ (6 + l) = (2 : Int32) := ho.trans (by decide)
              rw [eb, eo]
              show AW _ _ _ _ _ _ _ 884 [.ref 0, .int (nI t), .ref 1, .ref 2, .null, .int sp, .null, .null, .null, .null, .null, .null, .null, .null, .null, .null, .null, .int (nI l), .ref (79 + l), .int 2, .int 2, .int 2] [.int (T l 0)] h k (((cs + 2) + 2) + 2) (((ss + 12) + 12) + 12)
              refine AW.if_ne (pc := 884) (tgt := 906) dL_law_884 (by decide) (fun _ => ?_) (fun c => absurd c (by rw [e0]; decide))
              refine AW.aload (pc := 906) dL_law_906 rfl ?_
              refine AW.iconst (v := 0) (pc := 908) dL_law_908 (by decide) ?_
              refine AW.iald2 (pc := 909) (n := 8) (g := T l) (j := 0) dL_law_909 (by omega) (hB.2.2.2 l hl) (vp_lit (by decide)) (by decide) ?_
              refine AW.iconst (v := 1) (pc := 910) dL_law_910 (by decide) ?_
              refine AW.icmp_ne (pc := 911) (tgt := 921) dL_law_911 (by decide) (fun _ => ?_) (fun c => absurd c (by rw [e0]; decide))
              refine AW.aload (pc := 921) dL_law_921 rfl ?_
              refine AW.iconst (v := 0) (pc := 923) dL_law_923 (by decide) ?_
              refine AW.iald2 (pc := 924) (n := 8) (g := T l) (j := 0) dL_law_924 (by omega) (hB.2.2.2 l hl) (vp_lit (by decide)) (by decide) ?_
              refine AW.iconst (v := 2) (pc := 925) dL_law_925 (by decide) ?_
              refine AW.icmp_ne (pc := 926) (tgt := 960) dL_law_926 (by decide) (fun _ => ?_) (fun c => absurd c (by rw [e0]; decide))
              refine AW.aload (pc := 960) dL_law_960 rfl ?_
              refine AW.iconst (v := 0) (pc := 962) dL_law_962 (by decide) ?_
              refine AW.iald2 (pc := 963) (n := 8) (g := T l) (j := 0) dL_law_963 (by omega) (hB.2.2.2 l hl) (vp_lit (by decide)) (by decide) ?_
              refine AW.iconst (v := 4) (pc := 964) dL_law_964 (by decide) ?_
              refine AW.icmp_ne (pc := 965) (tgt := 996) dL_law_965 (by decide) (fun c => absurd (by rw [e0]; decide) c) (fun _ => ?_)
              refine AW.iload (pc := 968) dL_law_968 rfl ?_
              refine AW.iload (pc := 970) dL_law_970 rfl ?_
              refine AW.iconst (v := 2) (pc := 972) dL_law_972 (by decide) ?_
              refine AW.icmp_eq (pc := 973) (tgt := 982) dL_law_973 (by decide) (fun _ => ?_) (fun c => absurd (by decide) c)
              refine AW.iconst (v := 2) (pc := 982) dL_law_982 (by decide) ?_
              refine AW.goto (pc := 983) (tgt := 993) dL_law_983 (by decide) ?_
              refine AW.icmp_ne (pc := 993) (tgt := 1032) dL_law_993 (by decide) (fun c => absurd (by decide) c) (fun _ => ?_)
              refine AW.aload (pc := 996) dL_law_996 rfl ?_
              refine AW.iconst (v := 0) (pc := 998) dL_law_998 (by decide) ?_
              refine AW.iald2 (pc := 999) (n := 8) (g := T l) (j := 0) dL_law_999 (by omega) (hB.2.2.2 l hl) (vp_lit (by decide)) (by decide) ?_
              refine AW.iconst (v := 3) (pc := 1000) dL_law_1000 (by decide) ?_
              refine AW.icmp_ne (pc := 1001) (tgt := 1034) dL_law_1001 (by decide) (fun _ => ?_) (fun c => absurd c (by rw [e0]; decide))
              refine AW.iinc (v := ((nI l) + 1)) (L' := [.ref 0, .int (nI t), .ref 1, .ref 2, .null, .int sp, .null, .null, .null, .null, .null, .null, .null, .null, .null, .null, .null, .int ((nI l) + 1), .ref (79 + l), .int 2, .int 2, .int 2]) (pc := 1034) dL_law_1034 rfl rfl (by decide) rfl rfl ?_
              rw [nI_1 l]
              refine AW.goto (pc := 1037) (tgt := 807) dL_law_1037 (by decide) ?_
              refine AW.locals (L' := [.ref 0, .int (nI t), .ref 1, .ref 2, .null, .int sp, .null, .null, .null, .null, .null, .null, .null, .null, .null, .null, .null, .int (nI (l + 1)), .null, .null, .null, .null]) (aw_fewer_same (aw_fewer_same (aw_fewer_same (aw_fewer_same (aw_fewer_null (aw_fewer_same (aw_fewer_null (aw_fewer_null (aw_fewer_null (aw_fewer_null (aw_fewer_null (aw_fewer_null (aw_fewer_null (aw_fewer_null (aw_fewer_null (aw_fewer_null (aw_fewer_null (aw_fewer_same (aw_fewer_null (aw_fewer_null (aw_fewer_null (aw_fewer_null aw_fewer_nil)))))))))))))))))))))) ?_
              exact ih (l + 1) _ _ (by omega) (by omega) (by omega)
        · obtain ⟨b, hb, e3⟩ : ∃ b : Nat, b < l ∧ T l 3 = nI b := h3
          rw [e2]
          refine AW.if_ge (pc := 829) (tgt := 836) dL_law_829 (by decide) (fun _ => ?_) (fun c => absurd (nI_le (a := 0) (by omega) (by omega)) c)
          refine AW.aload_n (pc := 836) dL_law_836 rfl rfl ?_
          refine AW.aload (pc := 837) dL_law_837 rfl ?_
          refine AW.iconst (v := 2) (pc := 839) dL_law_839 (by decide) ?_
          refine AW.iald2 (pc := 840) (n := 8) (g := T l) (j := 2) dL_law_840 (by omega) (hB.2.2.2 l hl) (vp_lit (by decide)) (by decide) ?_
          refine AW.iconst (v := 0) (pc := 841) dL_law_841 (by decide) ?_
          rw [e2]
          show AW _ _ _ _ _ _ _ 842 [.ref 0, .int (nI t), .ref 1, .ref 2, .null, .int sp, .null, .null, .null, .null, .null, .null, .null, .null, .null, .null, .null, .int (nI l), .ref (79 + l), .null, .null, .null] [.int (0 : Int32), .int (nI a), .ref 2] h k cs ss
          refine AW.callRd (pc := 842) (S' := []) dL_law_842 (l_wire0 (d := 2027) hM (by decide) (by omega)) hM.1 (by omega) (by simp [aw_ok]) ok_X4_ofWire tw_307 tw_308 tw_306 rfl rfl (by omega) rfl (Nat.le_of_ble_eq_true rfl) (by omega) (by omega) ?_
          show AW _ _ _ _ _ _ _ 845 [.ref 0, .int (nI t), .ref 1, .ref 2, .null, .int sp, .null, .null, .null, .null, .null, .null, .null, .null, .null, .null, .null, .int (nI l), .ref (79 + l), .null, .null, .null] [.int (ρ (6 + a))] h k (cs + 2) (ss + 12)
          refine AW.istore (L' := [.ref 0, .int (nI t), .ref 1, .ref 2, .null, .int sp, .null, .null, .null, .null, .null, .null, .null, .null, .null, .null, .null, .int (nI l), .ref (79 + l), .int (ρ (6 + a)), .null, .null]) (pc := 845) dL_law_845 (by decide) rfl rfl ?_
          refine AW.aload (pc := 847) dL_law_847 rfl ?_
          refine AW.iconst (v := 3) (pc := 849) dL_law_849 (by decide) ?_
          refine AW.iald2 (pc := 850) (n := 8) (g := T l) (j := 3) dL_law_850 (by omega) (hB.2.2.2 l hl) (vp_lit (by decide)) (by decide) ?_
          rw [e3]
          refine AW.if_ge (pc := 851) (tgt := 858) dL_law_851 (by decide) (fun _ => ?_) (fun c => absurd (nI_le (a := 0) (by omega) (by omega)) c)
          refine AW.aload_n (pc := 858) dL_law_858 rfl rfl ?_
          refine AW.aload (pc := 859) dL_law_859 rfl ?_
          refine AW.iconst (v := 3) (pc := 861) dL_law_861 (by decide) ?_
          refine AW.iald2 (pc := 862) (n := 8) (g := T l) (j := 3) dL_law_862 (by omega) (hB.2.2.2 l hl) (vp_lit (by decide)) (by decide) ?_
          refine AW.iconst (v := 0) (pc := 863) dL_law_863 (by decide) ?_
          rw [e3]
          show AW _ _ _ _ _ _ _ 864 [.ref 0, .int (nI t), .ref 1, .ref 2, .null, .int sp, .null, .null, .null, .null, .null, .null, .null, .null, .null, .null, .null, .int (nI l), .ref (79 + l), .int (ρ (6 + a)), .null, .null] [.int (0 : Int32), .int (nI b), .ref 2] h k (cs + 2) (ss + 12)
          refine AW.callRd (pc := 864) (S' := []) dL_law_864 (l_wire0 (d := 2027) hM (by decide) (by omega)) hM.1 (by omega) (by simp [aw_ok]) ok_X4_ofWire tw_307 tw_308 tw_306 rfl rfl (by omega) rfl (Nat.le_of_ble_eq_true rfl) (by omega) (by omega) ?_
          show AW _ _ _ _ _ _ _ 867 [.ref 0, .int (nI t), .ref 1, .ref 2, .null, .int sp, .null, .null, .null, .null, .null, .null, .null, .null, .null, .null, .null, .int (nI l), .ref (79 + l), .int (ρ (6 + a)), .null, .null] [.int (ρ (6 + b))] h k ((cs + 2) + 2) ((ss + 12) + 12)
          refine AW.istore (L' := [.ref 0, .int (nI t), .ref 1, .ref 2, .null, .int sp, .null, .null, .null, .null, .null, .null, .null, .null, .null, .null, .null, .int (nI l), .ref (79 + l), .int (ρ (6 + a)), .int (ρ (6 + b)), .null]) (pc := 867) dL_law_867 (by decide) rfl rfl ?_
          refine AW.aload_n (pc := 869) dL_law_869 rfl rfl ?_
          refine AW.aload (pc := 870) dL_law_870 rfl ?_
          refine AW.iconst (v := 1) (pc := 872) dL_law_872 (by decide) ?_
          refine AW.iald2 (pc := 873) (n := 8) (g := T l) (j := 1) dL_law_873 (by omega) (hB.2.2.2 l hl) (vp_lit (by decide)) (by decide) ?_
          refine AW.iconst (v := 0) (pc := 874) dL_law_874 (by decide) ?_
          rw [e1]
          show AW _ _ _ _ _ _ _ 875 [.ref 0, .int (nI t), .ref 1, .ref 2, .null, .int sp, .null, .null, .null, .null, .null, .null, .null, .null, .null, .null, .null, .int (nI l), .ref (79 + l), .int (ρ (6 + a)), .int (ρ (6 + b)), .null] [.int (0 : Int32), .int (nI l), .ref 2] h k ((cs + 2) + 2) ((ss + 12) + 12)
          refine AW.callRd (pc := 875) (S' := []) dL_law_875 (l_wire0 (d := 2027) hM (by decide) (by omega)) hM.1 (by omega) (by simp [aw_ok]) ok_X4_ofWire tw_307 tw_308 tw_306 rfl rfl (by omega) rfl (Nat.le_of_ble_eq_true rfl) (by omega) (by omega) ?_
          show AW _ _ _ _ _ _ _ 878 [.ref 0, .int (nI t), .ref 1, .ref 2, .null, .int sp, .null, .null, .null, .null, .null, .null, .null, .null, .null, .null, .null, .int (nI l), .ref (79 + l), .int (ρ (6 + a)), .int (ρ (6 + b)), .null] [.int (ρ (6 + l))] h k (((cs + 2) + 2) + 2) (((ss + 12) + 12) + 12)
          refine AW.istore (L' := [.ref 0, .int (nI t), .ref 1, .ref 2, .null, .int sp, .null, .null, .null, .null, .null, .null, .null, .null, .null, .null, .null, .int (nI l), .ref (79 + l), .int (ρ (6 + a)), .int (ρ (6 + b)), .int (ρ (6 + l))]) (pc := 878) dL_law_878 (by decide) rfl rfl ?_
          refine AW.aload (pc := 880) dL_law_880 rfl ?_
          refine AW.iconst (v := 0) (pc := 882) dL_law_882 (by decide) ?_
          refine AW.iald2 (pc := 883) (n := 8) (g := T l) (j := 0) dL_law_883 (by omega) (hB.2.2.2 l hl) (vp_lit (by decide)) (by decide) ?_
          refine AW.if_ne (pc := 884) (tgt := 906) dL_law_884 (by decide) (fun _ => ?_) (fun c => absurd c (by rw [e0]; decide))
          refine AW.aload (pc := 906) dL_law_906 rfl ?_
          refine AW.iconst (v := 0) (pc := 908) dL_law_908 (by decide) ?_
          refine AW.iald2 (pc := 909) (n := 8) (g := T l) (j := 0) dL_law_909 (by omega) (hB.2.2.2 l hl) (vp_lit (by decide)) (by decide) ?_
          refine AW.iconst (v := 1) (pc := 910) dL_law_910 (by decide) ?_
          refine AW.icmp_ne (pc := 911) (tgt := 921) dL_law_911 (by decide) (fun _ => ?_) (fun c => absurd c (by rw [e0]; decide))
          refine AW.aload (pc := 921) dL_law_921 rfl ?_
          refine AW.iconst (v := 0) (pc := 923) dL_law_923 (by decide) ?_
          refine AW.iald2 (pc := 924) (n := 8) (g := T l) (j := 0) dL_law_924 (by omega) (hB.2.2.2 l hl) (vp_lit (by decide)) (by decide) ?_
          refine AW.iconst (v := 2) (pc := 925) dL_law_925 (by decide) ?_
          refine AW.icmp_ne (pc := 926) (tgt := 960) dL_law_926 (by decide) (fun _ => ?_) (fun c => absurd c (by rw [e0]; decide))
          refine AW.aload (pc := 960) dL_law_960 rfl ?_
          refine AW.iconst (v := 0) (pc := 962) dL_law_962 (by decide) ?_
          refine AW.iald2 (pc := 963) (n := 8) (g := T l) (j := 0) dL_law_963 (by omega) (hB.2.2.2 l hl) (vp_lit (by decide)) (by decide) ?_
          refine AW.iconst (v := 4) (pc := 964) dL_law_964 (by decide) ?_
          refine AW.icmp_ne (pc := 965) (tgt := 996) dL_law_965 (by decide) (fun _ => ?_) (fun c => absurd c (by rw [e0]; decide))
          refine AW.aload (pc := 996) dL_law_996 rfl ?_
          refine AW.iconst (v := 0) (pc := 998) dL_law_998 (by decide) ?_
          refine AW.iald2 (pc := 999) (n := 8) (g := T l) (j := 0) dL_law_999 (by omega) (hB.2.2.2 l hl) (vp_lit (by decide)) (by decide) ?_
          refine AW.iconst (v := 3) (pc := 1000) dL_law_1000 (by decide) ?_
          refine AW.icmp_ne (pc := 1001) (tgt := 1034) dL_law_1001 (by decide) (fun _ => ?_) (fun c => absurd c (by rw [e0]; decide))
          refine AW.iinc (v := ((nI l) + 1)) (L' := [.ref 0, .int (nI t), .ref 1, .ref 2, .null, .int sp, .null, .null, .null, .null, .null, .null, .null, .null, .null, .null, .null, .int ((nI l) + 1), .ref (79 + l), .int (ρ (6 + a)), .int (ρ (6 + b)), .int (ρ (6 + l))]) (pc := 1034) dL_law_1034 rfl rfl (by decide) rfl rfl ?_
          rw [nI_1 l]
          refine AW.goto (pc := 1037) (tgt := 807) dL_law_1037 (by decide) ?_
          refine AW.locals (L' := [.ref 0, .int (nI t), .ref 1, .ref 2, .null, .int sp, .null, .null, .null, .null, .null, .null, .null, .null, .null, .null, .null, .int (nI (l + 1)), .null, .null, .null, .null]) (aw_fewer_same (aw_fewer_same (aw_fewer_same (aw_fewer_same (aw_fewer_null (aw_fewer_same (aw_fewer_null (aw_fewer_null (aw_fewer_null (aw_fewer_null (aw_fewer_null (aw_fewer_null (aw_fewer_null (aw_fewer_null (aw_fewer_null (aw_fewer_null (aw_fewer_null (aw_fewer_same (aw_fewer_null (aw_fewer_null (aw_fewer_null (aw_fewer_null aw_fewer_nil)))))))))))))))))))))) ?_
          exact ih (l + 1) _ _ (by omega) (by omega) (by omega)
        · obtain ⟨b, hb, e3⟩ : ∃ b : Nat, b < l ∧ T l 3 = nI b := h3
          rw [e2]
          refine AW.if_ge (pc := 829) (tgt := 836) dL_law_829 (by decide) (fun _ => ?_) (fun c => absurd (nI_le (a := 0) (by omega) (by omega)) c)
          refine AW.aload_n (pc := 836) dL_law_836 rfl rfl ?_
          refine AW.aload (pc := 837) dL_law_837 rfl ?_
          refine AW.iconst (v := 2) (pc := 839) dL_law_839 (by decide) ?_
          refine AW.iald2 (pc := 840) (n := 8) (g := T l) (j := 2) dL_law_840 (by omega) (hB.2.2.2 l hl) (vp_lit (by decide)) (by decide) ?_
          refine AW.iconst (v := 0) (pc := 841) dL_law_841 (by decide) ?_
          rw [e2]
          show AW _ _ _ _ _ _ _ 842 [.ref 0, .int (nI t), .ref 1, .ref 2, .null, .int sp, .null, .null, .null, .null, .null, .null, .null, .null, .null, .null, .null, .int (nI l), .ref (79 + l), .null, .null, .null] [.int (0 : Int32), .int (nI a), .ref 2] h k cs ss
          refine AW.callRd (pc := 842) (S' := []) dL_law_842 (l_wire0 (d := 2027) hM (by decide) (by omega)) hM.1 (by omega) (by simp [aw_ok]) ok_X4_ofWire tw_307 tw_308 tw_306 rfl rfl (by omega) rfl (Nat.le_of_ble_eq_true rfl) (by omega) (by omega) ?_
          show AW _ _ _ _ _ _ _ 845 [.ref 0, .int (nI t), .ref 1, .ref 2, .null, .int sp, .null, .null, .null, .null, .null, .null, .null, .null, .null, .null, .null, .int (nI l), .ref (79 + l), .null, .null, .null] [.int (ρ (6 + a))] h k (cs + 2) (ss + 12)
          refine AW.istore (L' := [.ref 0, .int (nI t), .ref 1, .ref 2, .null, .int sp, .null, .null, .null, .null, .null, .null, .null, .null, .null, .null, .null, .int (nI l), .ref (79 + l), .int (ρ (6 + a)), .null, .null]) (pc := 845) dL_law_845 (by decide) rfl rfl ?_
          refine AW.aload (pc := 847) dL_law_847 rfl ?_
          refine AW.iconst (v := 3) (pc := 849) dL_law_849 (by decide) ?_
          refine AW.iald2 (pc := 850) (n := 8) (g := T l) (j := 3) dL_law_850 (by omega) (hB.2.2.2 l hl) (vp_lit (by decide)) (by decide) ?_
          rw [e3]
          refine AW.if_ge (pc := 851) (tgt := 858) dL_law_851 (by decide) (fun _ => ?_) (fun c => absurd (nI_le (a := 0) (by omega) (by omega)) c)
          refine AW.aload_n (pc := 858) dL_law_858 rfl rfl ?_
          refine AW.aload (pc := 859) dL_law_859 rfl ?_
          refine AW.iconst (v := 3) (pc := 861) dL_law_861 (by decide) ?_
          refine AW.iald2 (pc := 862) (n := 8) (g := T l) (j := 3) dL_law_862 (by omega) (hB.2.2.2 l hl) (vp_lit (by decide)) (by decide) ?_
          refine AW.iconst (v := 0) (pc := 863) dL_law_863 (by decide) ?_
          rw [e3]
          show AW _ _ _ _ _ _ _ 864 [.ref 0, .int (nI t), .ref 1, .ref 2, .null, .int sp, .null, .null, .null, .null, .null, .null, .null, .null, .null, .null, .null, .int (nI l), .ref (79 + l), .int (ρ (6 + a)), .null, .null] [.int (0 : Int32), .int (nI b), .ref 2] h k (cs + 2) (ss + 12)
          refine AW.callRd (pc := 864) (S' := []) dL_law_864 (l_wire0 (d := 2027) hM (by decide) (by omega)) hM.1 (by omega) (by simp [aw_ok]) ok_X4_ofWire tw_307 tw_308 tw_306 rfl rfl (by omega) rfl (Nat.le_of_ble_eq_true rfl) (by omega) (by omega) ?_
          show AW _ _ _ _ _ _ _ 867 [.ref 0, .int (nI t), .ref 1, .ref 2, .null, .int sp, .null, .null, .null, .null, .null, .null, .null, .null, .null, .null, .null, .int (nI l), .ref (79 + l), .int (ρ (6 + a)), .null, .null] [.int (ρ (6 + b))] h k ((cs + 2) + 2) ((ss + 12) + 12)
          refine AW.istore (L' := [.ref 0, .int (nI t), .ref 1, .ref 2, .null, .int sp, .null, .null, .null, .null, .null, .null, .null, .null, .null, .null, .null, .int (nI l), .ref (79 + l), .int (ρ (6 + a)), .int (ρ (6 + b)), .null]) (pc := 867) dL_law_867 (by decide) rfl rfl ?_
          refine AW.aload_n (pc := 869) dL_law_869 rfl rfl ?_
          refine AW.aload (pc := 870) dL_law_870 rfl ?_
          refine AW.iconst (v := 1) (pc := 872) dL_law_872 (by decide) ?_
          refine AW.iald2 (pc := 873) (n := 8) (g := T l) (j := 1) dL_law_873 (by omega) (hB.2.2.2 l hl) (vp_lit (by decide)) (by decide) ?_
          refine AW.iconst (v := 0) (pc := 874) dL_law_874 (by decide) ?_
          rw [e1]
          show AW _ _ _ _ _ _ _ 875 [.ref 0, .int (nI t), .ref 1, .ref 2, .null, .int sp, .null, .null, .null, .null, .null, .null, .null, .null, .null, .null, .null, .int (nI l), .ref (79 + l), .int (ρ (6 + a)), .int (ρ (6 + b)), .null] [.int (0 : Int32), .int (nI l), .ref 2] h k ((cs + 2) + 2) ((ss + 12) + 12)
          refine AW.callRd (pc := 875) (S' := []) dL_law_875 (l_wire0 (d := 2027) hM (by decide) (by omega)) hM.1 (by omega) (by simp [aw_ok]) ok_X4_ofWire tw_307 tw_308 tw_306 rfl rfl (by omega) rfl (Nat.le_of_ble_eq_true rfl) (by omega) (by omega) ?_
          show AW _ _ _ _ _ _ _ 878 [.ref 0, .int (nI t), .ref 1, .ref 2, .null, .int sp, .null, .null, .null, .null, .null, .null, .null, .null, .null, .null, .null, .int (nI l), .ref (79 + l), .int (ρ (6 + a)), .int (ρ (6 + b)), .null] [.int (ρ (6 + l))] h k (((cs + 2) + 2) + 2) (((ss + 12) + 12) + 12)
          refine AW.istore (L' := [.ref 0, .int (nI t), .ref 1, .ref 2, .null, .int sp, .null, .null, .null, .null, .null, .null, .null, .null, .null, .null, .null, .int (nI l), .ref (79 + l), .int (ρ (6 + a)), .int (ρ (6 + b)), .int (ρ (6 + l))]) (pc := 878) dL_law_878 (by decide) rfl rfl ?_
          refine AW.aload (pc := 880) dL_law_880 rfl ?_
          refine AW.iconst (v := 0) (pc := 882) dL_law_882 (by decide) ?_
          refine AW.iald2 (pc := 883) (n := 8) (g := T l) (j := 0) dL_law_883 (by omega) (hB.2.2.2 l hl) (vp_lit (by decide)) (by decide) ?_
          refine AW.if_ne (pc := 884) (tgt := 906) dL_law_884 (by decide) (fun _ => ?_) (fun c => absurd c (by rw [e0]; decide))
          refine AW.aload (pc := 906) dL_law_906 rfl ?_
          refine AW.iconst (v := 0) (pc := 908) dL_law_908 (by decide) ?_
          refine AW.iald2 (pc := 909) (n := 8) (g := T l) (j := 0) dL_law_909 (by omega) (hB.2.2.2 l hl) (vp_lit (by decide)) (by decide) ?_
          refine AW.iconst (v := 1) (pc := 910) dL_law_910 (by decide) ?_
          refine AW.icmp_ne (pc := 911) (tgt := 921) dL_law_911 (by decide) (fun _ => ?_) (fun c => absurd c (by rw [e0]; decide))
          refine AW.aload (pc := 921) dL_law_921 rfl ?_
          refine AW.iconst (v := 0) (pc := 923) dL_law_923 (by decide) ?_
          refine AW.iald2 (pc := 924) (n := 8) (g := T l) (j := 0) dL_law_924 (by omega) (hB.2.2.2 l hl) (vp_lit (by decide)) (by decide) ?_
          refine AW.iconst (v := 2) (pc := 925) dL_law_925 (by decide) ?_
          refine AW.icmp_ne (pc := 926) (tgt := 960) dL_law_926 (by decide) (fun _ => ?_) (fun c => absurd c (by rw [e0]; decide))
          refine AW.aload (pc := 960) dL_law_960 rfl ?_
          refine AW.iconst (v := 0) (pc := 962) dL_law_962 (by decide) ?_
          refine AW.iald2 (pc := 963) (n := 8) (g := T l) (j := 0) dL_law_963 (by omega) (hB.2.2.2 l hl) (vp_lit (by decide)) (by decide) ?_
          refine AW.iconst (v := 4) (pc := 964) dL_law_964 (by decide) ?_
          refine AW.icmp_ne (pc := 965) (tgt := 996) dL_law_965 (by decide) (fun _ => ?_) (fun c => absurd c (by rw [e0]; decide))
          refine AW.aload (pc := 996) dL_law_996 rfl ?_
          refine AW.iconst (v := 0) (pc := 998) dL_law_998 (by decide) ?_
          refine AW.iald2 (pc := 999) (n := 8) (g := T l) (j := 0) dL_law_999 (by omega) (hB.2.2.2 l hl) (vp_lit (by decide)) (by decide) ?_
          refine AW.iconst (v := 3) (pc := 1000) dL_law_1000 (by decide) ?_
          refine AW.icmp_ne (pc := 1001) (tgt := 1034) dL_law_1001 (by decide) (fun _ => ?_) (fun c => absurd c (by rw [e0]; decide))
          refine AW.iinc (v := ((nI l) + 1)) (L' := [.ref 0, .int (nI t), .ref 1, .ref 2, .null, .int sp, .null, .null, .null, .null, .null, .null, .null, .null, .null, .null, .null, .int ((nI l) + 1), .ref (79 + l), .int (ρ (6 + a)), .int (ρ (6 + b)), .int (ρ (6 + l))]) (pc := 1034) dL_law_1034 rfl rfl (by decide) rfl rfl ?_
          rw [nI_1 l]
          refine AW.goto (pc := 1037) (tgt := 807) dL_law_1037 (by decide) ?_
          refine AW.locals (L' := [.ref 0, .int (nI t), .ref 1, .ref 2, .null, .int sp, .null, .null, .null, .null, .null, .null, .null, .null, .null, .null, .null, .int (nI (l + 1)), .null, .null, .null, .null]) (aw_fewer_same (aw_fewer_same (aw_fewer_same (aw_fewer_same (aw_fewer_null (aw_fewer_same (aw_fewer_null (aw_fewer_null (aw_fewer_null (aw_fewer_null (aw_fewer_null (aw_fewer_null (aw_fewer_null (aw_fewer_null (aw_fewer_null (aw_fewer_null (aw_fewer_null (aw_fewer_same (aw_fewer_null (aw_fewer_null (aw_fewer_null (aw_fewer_null aw_fewer_nil)))))))))))))))))))))) ?_
          exact ih (l + 1) _ _ (by omega) (by omega) (by omega)
        · obtain ⟨b, hb, e3⟩ : ∃ b : Nat, b < l ∧ T l 3 = nI b := h3
          rw [e2]
          refine AW.if_ge (pc := 829) (tgt := 836) dL_law_829 (by decide) (fun _ => ?_) (fun c => absurd (nI_le (a := 0) (by omega) (by omega)) c)
          refine AW.aload_n (pc := 836) dL_law_836 rfl rfl ?_
          refine AW.aload (pc := 837) dL_law_837 rfl ?_
          refine AW.iconst (v := 2) (pc := 839) dL_law_839 (by decide) ?_
          refine AW.iald2 (pc := 840) (n := 8) (g := T l) (j := 2) dL_law_840 (by omega) (hB.2.2.2 l hl) (vp_lit (by decide)) (by decide) ?_
          refine AW.iconst (v := 0) (pc := 841) dL_law_841 (by decide) ?_
          rw [e2]
          show AW _ _ _ _ _ _ _ 842 [.ref 0, .int (nI t), .ref 1, .ref 2, .null, .int sp, .null, .null, .null, .null, .null, .null, .null, .null, .null, .null, .null, .int (nI l), .ref (79 + l), .null, .null, .null] [.int (0 : Int32), .int (nI a), .ref 2] h k cs ss
          refine AW.callRd (pc := 842) (S' := []) dL_law_842 (l_wire0 (d := 2027) hM (by decide) (by omega)) hM.1 (by omega) (by simp [aw_ok]) ok_X4_ofWire tw_307 tw_308 tw_306 rfl rfl (by omega) rfl (Nat.le_of_ble_eq_true rfl) (by omega) (by omega) ?_
          show AW _ _ _ _ _ _ _ 845 [.ref 0, .int (nI t), .ref 1, .ref 2, .null, .int sp, .null, .null, .null, .null, .null, .null, .null, .null, .null, .null, .null, .int (nI l), .ref (79 + l), .null, .null, .null] [.int (ρ (6 + a))] h k (cs + 2) (ss + 12)
          refine AW.istore (L' := [.ref 0, .int (nI t), .ref 1, .ref 2, .null, .int sp, .null, .null, .null, .null, .null, .null, .null, .null, .null, .null, .null, .int (nI l), .ref (79 + l), .int (ρ (6 + a)), .null, .null]) (pc := 845) dL_law_845 (by decide) rfl rfl ?_
          refine AW.aload (pc := 847) dL_law_847 rfl ?_
          refine AW.iconst (v := 3) (pc := 849) dL_law_849 (by decide) ?_
          refine AW.iald2 (pc := 850) (n := 8) (g := T l) (j := 3) dL_law_850 (by omega) (hB.2.2.2 l hl) (vp_lit (by decide)) (by decide) ?_
          rw [e3]
          refine AW.if_ge (pc := 851) (tgt := 858) dL_law_851 (by decide) (fun _ => ?_) (fun c => absurd (nI_le (a := 0) (by omega) (by omega)) c)
          refine AW.aload_n (pc := 858) dL_law_858 rfl rfl ?_
          refine AW.aload (pc := 859) dL_law_859 rfl ?_
          refine AW.iconst (v := 3) (pc := 861) dL_law_861 (by decide) ?_
          refine AW.iald2 (pc := 862) (n := 8) (g := T l) (j := 3) dL_law_862 (by omega) (hB.2.2.2 l hl) (vp_lit (by decide)) (by decide) ?_
          refine AW.iconst (v := 0) (pc := 863) dL_law_863 (by decide) ?_
          rw [e3]
          show AW _ _ _ _ _ _ _ 864 [.ref 0, .int (nI t), .ref 1, .ref 2, .null, .int sp, .null, .null, .null, .null, .null, .null, .null, .null, .null, .null, .null, .int (nI l), .ref (79 + l), .int (ρ (6 + a)), .null, .null] [.int (0 : Int32), .int (nI b), .ref 2] h k (cs + 2) (ss + 12)
          refine AW.callRd (pc := 864) (S' := []) dL_law_864 (l_wire0 (d := 2027) hM (by decide) (by omega)) hM.1 (by omega) (by simp [aw_ok]) ok_X4_ofWire tw_307 tw_308 tw_306 rfl rfl (by omega) rfl (Nat.le_of_ble_eq_true rfl) (by omega) (by omega) ?_
          show AW _ _ _ _ _ _ _ 867 [.ref 0, .int (nI t), .ref 1, .ref 2, .null, .int sp, .null, .null, .null, .null, .null, .null, .null, .null, .null, .null, .null, .int (nI l), .ref (79 + l), .int (ρ (6 + a)), .null, .null] [.int (ρ (6 + b))] h k ((cs + 2) + 2) ((ss + 12) + 12)
          refine AW.istore (L' := [.ref 0, .int (nI t), .ref 1, .ref 2, .null, .int sp, .null, .null, .null, .null, .null, .null, .null, .null, .null, .null, .null, .int (nI l), .ref (79 + l), .int (ρ (6 + a)), .int (ρ (6 + b)), .null]) (pc := 867) dL_law_867 (by decide) rfl rfl ?_
          refine AW.aload_n (pc := 869) dL_law_869 rfl rfl ?_
          refine AW.aload (pc := 870) dL_law_870 rfl ?_
          refine AW.iconst (v := 1) (pc := 872) dL_law_872 (by decide) ?_
          refine AW.iald2 (pc := 873) (n := 8) (g := T l) (j := 1) dL_law_873 (by omega) (hB.2.2.2 l hl) (vp_lit (by decide)) (by decide) ?_
          refine AW.iconst (v := 0) (pc := 874) dL_law_874 (by decide) ?_
          rw [e1]
          show AW _ _ _ _ _ _ _ 875 [.ref 0, .int (nI t), .ref 1, .ref 2, .null, .int sp, .null, .null, .null, .null, .null, .null, .null, .null, .null, .null, .null, .int (nI l), .ref (79 + l), .int (ρ (6 + a)), .int (ρ (6 + b)), .null] [.int (0 : Int32), .int (nI l), .ref 2] h k ((cs + 2) + 2) ((ss + 12) + 12)
          refine AW.callRd (pc := 875) (S' := []) dL_law_875 (l_wire0 (d := 2027) hM (by decide) (by omega)) hM.1 (by omega) (by simp [aw_ok]) ok_X4_ofWire tw_307 tw_308 tw_306 rfl rfl (by omega) rfl (Nat.le_of_ble_eq_true rfl) (by omega) (by omega) ?_
          show AW _ _ _ _ _ _ _ 878 [.ref 0, .int (nI t), .ref 1, .ref 2, .null, .int sp, .null, .null, .null, .null, .null, .null, .null, .null, .null, .null, .null, .int (nI l), .ref (79 + l), .int (ρ (6 + a)), .int (ρ (6 + b)), .null] [.int (ρ (6 + l))] h k (((cs + 2) + 2) + 2) (((ss + 12) + 12) + 12)
          refine AW.istore (L' := [.ref 0, .int (nI t), .ref 1, .ref 2, .null, .int sp, .null, .null, .null, .null, .null, .null, .null, .null, .null, .null, .null, .int (nI l), .ref (79 + l), .int (ρ (6 + a)), .int (ρ (6 + b)), .int (ρ (6 + l))]) (pc := 878) dL_law_878 (by decide) rfl rfl ?_
          refine AW.aload (pc := 880) dL_law_880 rfl ?_
          refine AW.iconst (v := 0) (pc := 882) dL_law_882 (by decide) ?_
          refine AW.iald2 (pc := 883) (n := 8) (g := T l) (j := 0) dL_law_883 (by omega) (hB.2.2.2 l hl) (vp_lit (by decide)) (by decide) ?_
          refine AW.if_ne (pc := 884) (tgt := 906) dL_law_884 (by decide) (fun _ => ?_) (fun c => absurd c (by rw [e0]; decide))
          refine AW.aload (pc := 906) dL_law_906 rfl ?_
          refine AW.iconst (v := 0) (pc := 908) dL_law_908 (by decide) ?_
          refine AW.iald2 (pc := 909) (n := 8) (g := T l) (j := 0) dL_law_909 (by omega) (hB.2.2.2 l hl) (vp_lit (by decide)) (by decide) ?_
          refine AW.iconst (v := 1) (pc := 910) dL_law_910 (by decide) ?_
          refine AW.icmp_ne (pc := 911) (tgt := 921) dL_law_911 (by decide) (fun _ => ?_) (fun c => absurd c (by rw [e0]; decide))
          refine AW.aload (pc := 921) dL_law_921 rfl ?_
          refine AW.iconst (v := 0) (pc := 923) dL_law_923 (by decide) ?_
          refine AW.iald2 (pc := 924) (n := 8) (g := T l) (j := 0) dL_law_924 (by omega) (hB.2.2.2 l hl) (vp_lit (by decide)) (by decide) ?_
          refine AW.iconst (v := 2) (pc := 925) dL_law_925 (by decide) ?_
          refine AW.icmp_ne (pc := 926) (tgt := 960) dL_law_926 (by decide) (fun _ => ?_) (fun c => absurd c (by rw [e0]; decide))
          refine AW.aload (pc := 960) dL_law_960 rfl ?_
          refine AW.iconst (v := 0) (pc := 962) dL_law_962 (by decide) ?_
          refine AW.iald2 (pc := 963) (n := 8) (g := T l) (j := 0) dL_law_963 (by omega) (hB.2.2.2 l hl) (vp_lit (by decide)) (by decide) ?_
          refine AW.iconst (v := 4) (pc := 964) dL_law_964 (by decide) ?_
          refine AW.icmp_ne (pc := 965) (tgt := 996) dL_law_965 (by decide) (fun _ => ?_) (fun c => absurd c (by rw [e0]; decide))
          refine AW.aload (pc := 996) dL_law_996 rfl ?_
          refine AW.iconst (v := 0) (pc := 998) dL_law_998 (by decide) ?_
          refine AW.iald2 (pc := 999) (n := 8) (g := T l) (j := 0) dL_law_999 (by omega) (hB.2.2.2 l hl) (vp_lit (by decide)) (by decide) ?_
          refine AW.iconst (v := 3) (pc := 1000) dL_law_1000 (by decide) ?_
          refine AW.icmp_ne (pc := 1001) (tgt := 1034) dL_law_1001 (by decide) (fun _ => ?_) (fun c => absurd c (by rw [e0]; decide))
          refine AW.iinc (v := ((nI l) + 1)) (L' := [.ref 0, .int (nI t), .ref 1, .ref 2, .null, .int sp, .null, .null, .null, .null, .null, .null, .null, .null, .null, .null, .null, .int ((nI l) + 1), .ref (79 + l), .int (ρ (6 + a)), .int (ρ (6 + b)), .int (ρ (6 + l))]) (pc := 1034) dL_law_1034 rfl rfl (by decide) rfl rfl ?_
          rw [nI_1 l]
          refine AW.goto (pc := 1037) (tgt := 807) dL_law_1037 (by decide) ?_
          refine AW.locals (L' := [.ref 0, .int (nI t), .ref 1, .ref 2, .null, .int sp, .null, .null, .null, .null, .null, .null, .null, .null, .null, .null, .null, .int (nI (l + 1)), .null, .null, .null, .null]) (aw_fewer_same (aw_fewer_same (aw_fewer_same (aw_fewer_same (aw_fewer_null (aw_fewer_same (aw_fewer_null (aw_fewer_null (aw_fewer_null (aw_fewer_null (aw_fewer_null (aw_fewer_null (aw_fewer_null (aw_fewer_null (aw_fewer_null (aw_fewer_null (aw_fewer_null (aw_fewer_same (aw_fewer_null (aw_fewer_null (aw_fewer_null (aw_fewer_null aw_fewer_nil)))))))))))))))))))))) ?_
          exact ih (l + 1) _ _ (by omega) (by omega) (by omega)
  refine AW.iconst (v := 0) (pc := 804) dL_law_804 (by decide) ?_
  refine AW.istore (L' := [.ref 0, .int (nI t), .ref 1, .ref 2, .null, .int sp, .null, .null, .null, .null, .null, .null, .null, .null, .null, .null, .null, .int (0 : Int32), .null, .null, .null, .null]) (pc := 805) dL_law_805 (by decide) rfl rfl ?_
  exact loop n 0 _ _ (by omega) (by omega) (by omega)
end LAW
