/-! no ring, no flaw: it may run -/
abbrev mX5_isRing : Mt := (yX5_isRing, cX5_isRing, 3, (some .boolean), [])
set_option maxRecDepth 20000 in
theorem ok_X5_isRing : aw_mok mX5_isRing 1 := ⟨rfl, tw_815, tw_1, ⟨by decide, by decide⟩, by decide +kernel, by decide⟩
abbrev mX5_flaws : Mt := (yX5_flaws, cX5_flaws, 6, (some (.array .int)), [])
set_option maxRecDepth 20000 in
theorem ok_X5_flaws : aw_mok mX5_flaws 0 := ⟨rfl, tw_805, tw_1, ⟨by decide, by decide⟩, by decide +kernel, by decide⟩
abbrev mX5_mayRun : Mt := (yX5_mayRun, cX5_mayRun, 2, (some .boolean), [])
set_option maxRecDepth 20000 in
theorem ok_X5_mayRun : aw_mok mX5_mayRun 0 := ⟨rfl, tw_801, tw_1, ⟨by decide, by decide⟩, by decide +kernel, by decide⟩
set_option maxRecDepth 100000 in
set_option maxHeartbeats 4000000 in
theorem c_B_isRing {h : Hp} {x : Nat → Int32} {wi pe hz n : Nat} {T : Nat → Nat → Int32} {d k : Nat} {l : Nat} (hd : 30 ≤ d) (hT : gT T n) (hB : BN h x wi pe hz n T) (hk : 79 + n ≤ k) (hl : l < n) : AM mX5_isRing d [.ref 1, .int (nI l)] h k 3 72 (fun oc h' k' => oc = .inl (some (.int 0)) ∧ exle k h k' h') := by
  refine AM.intro (n := 1) (by decide) rfl rfl rfl ?_
  have hn := hB.2.1.2
  have key : ∀ (r c : Nat) (y : Int32) (h2 : Hp) (k2 cs2 ss2 : Nat), c + r = 5 → 2 ≤ c → y = nI c → exle k h k2 h2 → cs2 + r ≤ 3 → ss2 + 24 * r ≤ 72 → AW aw_Z0 mX5_isRing d k 3 72 (fun oc h' k' => oc = .inl (some (.int 0)) ∧ exle k h k' h') 2 [.ref 1, .int (nI l), .int y] [] h2 k2 cs2 ss2 := by
    intro r
    induction r with
    | zero =>
      intro c y h2 k2 cs2 ss2 hc hc2 hy he h1 h3
      have : c = 5 := by omega
      subst this
      subst hy
      refine AW.iload_n (pc := 2) dX5_isRing_2 rfl rfl ?_
      refine AW.iconst (v := 5) (pc := 3) dX5_isRing_3 (by decide) ?_
      refine AW.icmp_ge (pc := 4) (tgt := 53) dX5_isRing_4 (by decide) (fun _ => ?_) (fun c => absurd (by decide) c)
      refine AW.iconst (v := 0) (pc := 53) dX5_isRing_53 (by decide) ?_
      exact AW.iret (pc := 54) dX5_isRing_54 rfl (by decide) (by omega) (by omega) (⟨rfl, he⟩)
    | succ r ih =>
      intro c y h2 k2 cs2 ss2 hc hc2 hy he h1 h3
      subst hy
      have hB2 := hB.ex hk he
      have hkk := he.1
      refine AW.iload_n (pc := 2) dX5_isRing_2 rfl rfl ?_
      refine AW.iconst (v := 5) (pc := 3) dX5_isRing_3 (by decide) ?_
      refine AW.icmp_ge (pc := 4) (tgt := 53) dX5_isRing_4 (by decide) (fun c => absurd c (nI_ge (b := 5) (by omega) (by decide))) (fun _ => ?_)
      refine AW.aload_n (pc := 7) dX5_isRing_7 rfl rfl ?_
      refine AW.get (pc := 8) (i := 1) (ci := 5) (f := 4) (N := 14) (C := RX5) (T := TX5) dX5_isRing_8 tw_654 rfl (by decide) rfl (by decide) (hB2.1) rfl ?_
      refine AW.iload_n (pc := 11) dX5_isRing_11 rfl rfl ?_
      refine AW.aald (pc := 12) (n := 30) (f := lnf n) (j := 79 + l) dX5_isRing_12 (by decide) (hB2.2.2.1) (vp_in_nI (by omega) (by decide)) (lnf_at hl (by omega) rfl) ?_
      refine AW.iload_n (pc := 13) dX5_isRing_13 rfl rfl ?_
      refine AW.iald2 (pc := 14) (n := 8) (g := T l) (j := c) dX5_isRing_14 (by omega) (hB2.2.2.2 l hl) (vp_in_nI (by omega) (by decide)) (nI_clamp (by omega)) ?_
      have hk9 : c = 2 ∨ c = 3 ∨ c = 4 := by omega
      rcases hT.pin hl hk9 with hp | ⟨a, ha, hp⟩
      · refine AW.if_lt (pc := 15) (tgt := 47) dX5_isRing_15 (by decide) (fun _ => ?_) (fun c => absurd (by rw [hp]; decide) c)
        refine AW.iinc (v := ((nI c) + 1)) (L' := [.ref 1, .int (nI l), .int ((nI c) + 1)]) (pc := 47) dX5_isRing_47 rfl rfl (by decide) rfl rfl ?_
        refine AW.goto (pc := 50) (tgt := 2) dX5_isRing_50 (by decide) ?_
        exact ih (c + 1) _ _ _ _ _ (by omega) (by omega) (nI_1 c) he (by omega) (by omega)
      · refine AW.if_lt (pc := 15) (tgt := 47) dX5_isRing_15 (by decide) (fun c => absurd c (by rw [hp]; exact nI_pos (by omega))) (fun _ => ?_)
        refine AW.aload_n (pc := 18) dX5_isRing_18 rfl rfl ?_
        refine AW.aload_n (pc := 19) dX5_isRing_19 rfl rfl ?_
        refine AW.get (pc := 20) (i := 1) (ci := 5) (f := 4) (N := 14) (C := RX5) (T := TX5) dX5_isRing_20 tw_654 rfl (by decide) rfl (by decide) (hB2.1) rfl ?_
        refine AW.iload_n (pc := 23) dX5_isRing_23 rfl rfl ?_
        refine AW.aald (pc := 24) (n := 30) (f := lnf n) (j := 79 + l) dX5_isRing_24 (by decide) (hB2.2.2.1) (vp_in_nI (by omega) (by decide)) (lnf_at hl (by omega) rfl) ?_
        refine AW.iconst (v := 1) (pc := 25) dX5_isRing_25 (by decide) ?_
        refine AW.iald2 (pc := 26) (n := 8) (g := T l) (j := 1) dX5_isRing_26 (by omega) (hB2.2.2.2 l hl) (vp_lit (by decide)) (by decide) ?_
        refine AW.aload_n (pc := 27) dX5_isRing_27 rfl rfl ?_
        refine AW.get (pc := 28) (i := 1) (ci := 5) (f := 4) (N := 14) (C := RX5) (T := TX5) dX5_isRing_28 tw_654 rfl (by decide) rfl (by decide) (hB2.1) rfl ?_
        refine AW.iload_n (pc := 31) dX5_isRing_31 rfl rfl ?_
        refine AW.aald (pc := 32) (n := 30) (f := lnf n) (j := 79 + l) dX5_isRing_32 (by decide) (hB2.2.2.1) (vp_in_nI (by omega) (by decide)) (lnf_at hl (by omega) rfl) ?_
        refine AW.iload_n (pc := 33) dX5_isRing_33 rfl rfl ?_
        refine AW.iald2 (pc := 34) (n := 8) (g := T l) (j := c) dX5_isRing_34 (by omega) (hB2.2.2.2 l hl) (vp_in_nI (by omega) (by decide)) (nI_clamp (by omega)) ?_
        rw [hp, (hT.2 l hl).1]
        refine AW.bipush (v := 24) (pc := 35) dX5_isRing_35 (by decide) ?_
        refine AW.newa (ty := .boolean) (N := 24) (a0 := (24, .inl (fun _ => 0))) (pc := 37) dX5_isRing_37 rfl (Or.inr (Or.inl rfl)) tw_532 (fun _ => rfl) (by decide) (by decide) (by decide) (by omega) (by omega) ?_
        show AW _ _ _ _ _ _ _ 39 [.ref 1, .int (nI l), .int (nI c)] [.ref k2, .int (nI a), .int (nI l), .ref 1] (va_up h2 k2 (.inl (.boolean, 24, .inl (fun _ => 0)))) (k2 + 1) (cs2 + 1) (ss2 + 24)
        refine AW.callV (pc := 39) (S' := []) dX5_isRing_39 (c_B_leads (q := k2) hT 24 l _ (fun _ => 0) (d - 1) (by omega) (by omega) (by omega) (hB2.up (q := k2) (by omega) (by omega) (fun l hl => by omega)) up_same) ok_X5_leads tw_818 ts_34 tw_816 (by decide) ((hB2.up (q := k2) (c := brow 24 (fun _ => 0)) (by omega) (by omega) (fun l hl => by omega)).1) (show aw_cl[5]? = some _ from rfl) rfl rfl (by omega) rfl (Nat.le_of_ble_eq_true rfl) (by omega) (by omega) ?_ (fun E h' k' hq => by obtain ⟨hx9, -⟩ := hq; try cases hx9)
        intro v h' k' hq
        obtain ⟨hx9, rfl, g3, rfl⟩ := hq
        cases hx9
        show AW _ _ _ _ _ _ _ 42 [.ref 1, .int (nI l), .int (nI c)] [.int 0] (va_up (va_up h2 k2 (.inl (.boolean, 24, .inl (fun _ => 0)))) k2 (brow 24 g3)) (k2 + 1) (cs2 + 1) (ss2 + 24)
        rw [up_up]
        refine AW.if_eq (pc := 42) (tgt := 47) dX5_isRing_42 (by decide) (fun _ => ?_) (fun c => absurd (rfl) c)
        refine AW.iinc (v := ((nI c) + 1)) (L' := [.ref 1, .int (nI l), .int ((nI c) + 1)]) (pc := 47) dX5_isRing_47 rfl rfl (by decide) rfl rfl ?_
        refine AW.goto (pc := 50) (tgt := 2) dX5_isRing_50 (by decide) ?_
        exact ih (c + 1) _ _ _ _ _ (by omega) (by omega) (nI_1 c) (he.trans exle.push) (by omega) (by omega)
  refine AW.iconst (v := 2) (pc := 0) dX5_isRing_0 (by decide) ?_
  refine AW.istore_n (L' := [.ref 1, .int (nI l), .int (2 : Int32)]) (pc := 1) dX5_isRing_1 rfl (by decide) rfl rfl ?_
  exact key 3 2 _ _ _ _ _ (by omega) (by omega) rfl (exle.refl _ _) (by omega) (by omega)
set_option maxRecDepth 100000 in
set_option maxHeartbeats 4000000 in
theorem c_B_flaws {h : Hp} {x : Nat → Int32} {wi pe hz n : Nat} {T : Nat → Nat → Int32} {d k : Nat} (hd : 31 ≤ d) (hT : gT T n) (hB : BN h x wi pe hz n T) (hk : 79 + n ≤ k) : AM mX5_flaws d [.ref 1] h k 80 2000 (fun oc h' k' => ∃ r : Nat, oc = .inl (some (.ref r)) ∧ 0 < r ∧ exle k h k' h' ∧ ∃ g, h' r = irow 0 g) := by
  refine AM.intro (n := 5) (by decide) rfl rfl rfl ?_
  have hn := hB.2.1.2
  have hn17 := hT.1
  have hB1 := hB.up (q := k) (c := irow 120 (fun _ => 0)) (by omega) (by omega) (fun l hl => by omega)
  have keyB : ∀ (r j : Nat) (y : Int32) (h2 : Hp) (k2 cs2 ss2 : Nat), j + r = n → y = nI j → exle (k + 1) (va_up h k (irow 120 (fun _ => 0))) k2 h2 → cs2 + 3 * r ≤ 79 → ss2 + 72 * r ≤ 2000 → AW aw_Z0 mX5_flaws d k 80 2000 (fun oc h' k' => ∃ r : Nat, oc = .inl (some (.ref r)) ∧ 0 < r ∧ exle k h k' h' ∧ ∃ g, h' r = irow 0 g)  113 [.ref 1, .ref k, .int 0, .int y, .null, .null] [] h2 k2 cs2 ss2 := by
    intro r
    induction r with
    | zero =>
      intro j y h2 k2 cs2 ss2 hj hy he h1 h3
      subst hy
      have hB2 := hB1.ex (by omega) he
      have hkk := he.1
      have hm : h2 k = irow 120 (fun _ => 0) := (he.2 k (by omega)).trans up_same
      refine AW.iload_n (pc := 113) dX5_flaws_113 rfl rfl ?_
      refine AW.aload_n (pc := 114) dX5_flaws_114 rfl rfl ?_
      refine AW.get (pc := 115) (i := 1) (ci := 5) (f := 3) (N := 14) (C := RX5) (T := TX5) dX5_flaws_115 tw_653 rfl (by decide) rfl (by decide) (hB2.1) rfl ?_
      rw [hB2.2.1.1]
      refine AW.icmp_ge (pc := 118) (tgt := 160) dX5_flaws_118 (by decide) (fun _ => ?_) (fun c => absurd (nI_le (by omega) (by omega)) c)
      refine AW.iload_n (pc := 160) dX5_flaws_160 rfl rfl ?_
      refine AW.newa (ty := .int) (N := 0) (a0 := (0, .inl (fun _ => 0))) (pc := 161) dX5_flaws_161 rfl (Or.inl rfl) tw_501 (fun _ => rfl) (by decide) (by decide) (by decide) (by omega) (by omega) ?_
      show AW _ _ _ _ _ _ _ 163 [.ref 1, .ref k, .int 0, .int (nI j), .null, .null] [.ref k2] (va_up h2 k2 (.inl (.int, 0, .inl (fun _ => 0)))) (k2 + 1) (cs2 + 1) (ss2 + 0)
      refine AW.astore_n (L' := [.ref 1, .ref k, .int 0, .ref k2, .null, .null]) (pc := 163) dX5_flaws_163 rfl (by decide) rfl rfl ?_
      refine AW.aload_n (pc := 164) dX5_flaws_164 rfl rfl ?_
      refine AW.iconst (v := 0) (pc := 165) dX5_flaws_165 (by decide) ?_
      refine AW.aload_n (pc := 166) dX5_flaws_166 rfl rfl ?_
      refine AW.iconst (v := 0) (pc := 167) dX5_flaws_167 (by decide) ?_
      refine AW.iload_n (pc := 168) dX5_flaws_168 rfl rfl ?_
      refine AW.copyi (pc := 169) (i := k) (j := k2) (n0 := 120) (n1 := 0) (f := fun _ => 0) (g := fun _ => 0) dX5_flaws_169 tw_820 tw_200 tw_199 tw_8 (by omega) (by omega) ((up_ne (by omega)).trans hm) up_same (by decide) (by decide) (by decide) (by decide) (by decide) (Nat.le_of_ble_eq_true rfl) ?_
      refine AW.aload_n (pc := 172) dX5_flaws_172 rfl rfl ?_
      exact AW.aret (pc := 173) dX5_flaws_173 rfl (by omega) (by omega) (⟨k2, rfl, by omega, ((exle.push (c := irow 120 (fun _ => 0))).trans (he.trans exle.push)).at (by omega), _, up_same⟩)
    | succ r ih =>
      intro j y h2 k2 cs2 ss2 hj hy he h1 h3
      subst hy
      have hl : j < n := by omega
      have hB2 := hB1.ex (by omega) he
      have hkk := he.1
      refine AW.iload_n (pc := 113) dX5_flaws_113 rfl rfl ?_
      refine AW.aload_n (pc := 114) dX5_flaws_114 rfl rfl ?_
      refine AW.get (pc := 115) (i := 1) (ci := 5) (f := 3) (N := 14) (C := RX5) (T := TX5) dX5_flaws_115 tw_653 rfl (by decide) rfl (by decide) (hB2.1) rfl ?_
      rw [hB2.2.1.1]
      refine AW.icmp_ge (pc := 118) (tgt := 160) dX5_flaws_118 (by decide) (fun c => absurd c (nI_ge (by omega) (by omega))) (fun _ => ?_)
      refine AW.aload_n (pc := 121) dX5_flaws_121 rfl rfl ?_
      refine AW.iload_n (pc := 122) dX5_flaws_122 rfl rfl ?_
      refine AW.callV (pc := 123) (S' := []) dX5_flaws_123 (c_B_isGate (d := d - 1) hB2 hl) ok_X5_isGate tw_773 tw_774 tw_811 (by decide) (hB2.1) (show aw_cl[5]? = some _ from rfl) rfl rfl (by omega) rfl (Nat.le_of_ble_eq_true rfl) (by omega) (by omega) ?_ (fun E h' k' hq => by obtain ⟨hx9, -⟩ := hq; try cases hx9)
      intro v h' k' hq
      obtain ⟨hx9, rfl, rfl⟩ := hq
      cases hx9
      show AW _ _ _ _ _ _ _ 126 [.ref 1, .ref k, .int 0, .int (nI j), .null, .null] [.int (if T j 0 < 0 then 0 else 1)] h2 k2 cs2 ss2
      by_cases hg0 : T j 0 < 0
      · rw [if_pos hg0]
        refine AW.if_eq (pc := 126) (tgt := 154) dX5_flaws_126 (by decide) (fun _ => ?_) (fun c => absurd (rfl) c)
        refine AW.iinc (v := ((nI j) + 1)) (L' := [.ref 1, .ref k, .int 0, .int ((nI j) + 1), .null, .null]) (pc := 154) dX5_flaws_154 rfl rfl (by decide) rfl rfl ?_
        refine AW.goto (pc := 157) (tgt := 113) dX5_flaws_157 (by decide) ?_
        exact ih (j + 1) _ _ _ _ _ (by omega) (nI_1 j) he (by omega) (by omega)
      · rw [if_neg hg0]
        refine AW.if_eq (pc := 126) (tgt := 154) dX5_flaws_126 (by decide) (fun c => absurd c (by decide)) (fun _ => ?_)
        refine AW.aload_n (pc := 129) dX5_flaws_129 rfl rfl ?_
        refine AW.iload_n (pc := 130) dX5_flaws_130 rfl rfl ?_
        refine AW.callV (pc := 131) (S' := []) dX5_flaws_131 (c_B_isRing (d := d - 1) (by omega) hT hB2 (by omega) hl) ok_X5_isRing tw_813 tw_814 tw_812 (by decide) (hB2.1) (show aw_cl[5]? = some _ from rfl) rfl rfl (by omega) rfl (Nat.le_of_ble_eq_true rfl) (by omega) (by omega) ?_ (fun E h' k' hq => by obtain ⟨hx9, -⟩ := hq; try cases hx9)
        intro v h' k' hq
        obtain ⟨hx9, he3⟩ := hq
        cases hx9
        show AW _ _ _ _ _ _ _ 134 [.ref 1, .ref k, .int 0, .int (nI j), .null, .null] [.int 0] h' k' (cs2 + 3) (ss2 + 72)
        refine AW.if_ne (pc := 134) (tgt := 140) dX5_flaws_134 (by decide) (fun c => absurd (rfl) c) (fun _ => ?_)
        refine AW.goto (pc := 137) (tgt := 154) dX5_flaws_137 (by decide) ?_
        refine AW.iinc (v := ((nI j) + 1)) (L' := [.ref 1, .ref k, .int 0, .int ((nI j) + 1), .null, .null]) (pc := 154) dX5_flaws_154 rfl rfl (by decide) rfl rfl ?_
        refine AW.goto (pc := 157) (tgt := 113) dX5_flaws_157 (by decide) ?_
        exact ih (j + 1) _ _ _ _ _ (by omega) (nI_1 j) (he.trans he3) (by omega) (by omega)
  have keyA : ∀ (r w : Nat) (y : Int32), w + r = 24 → y = nI w → AW aw_Z0 mX5_flaws d k 80 2000 (fun oc h' k' => ∃ r : Nat, oc = .inl (some (.ref r)) ∧ 0 < r ∧ exle k h k' h' ∧ ∃ g, h' r = irow 0 g)  9 [.ref 1, .ref k, .int 0, .int y, .null, .null] [] (va_up h k (irow 120 (fun _ => 0))) (k + 1) 1 120 := by
    intro r
    induction r with
    | zero =>
      intro w y hw hy
      have : w = 24 := by omega
      subst this
      subst hy
      refine AW.iload_n (pc := 9) dX5_flaws_9 rfl rfl ?_
      refine AW.bipush (v := 24) (pc := 10) dX5_flaws_10 (by decide) ?_
      refine AW.icmp_ge (pc := 12) (tgt := 111) dX5_flaws_12 (by decide) (fun _ => ?_) (fun c => absurd (by decide) c)
      refine AW.iconst (v := 0) (pc := 111) dX5_flaws_111 (by decide) ?_
      refine AW.istore_n (L' := [.ref 1, .ref k, .int 0, .int (0 : Int32), .null, .null]) (pc := 112) dX5_flaws_112 rfl (by decide) rfl rfl ?_
      exact keyB n 0 _ _ _ _ _ (by omega) rfl (exle.refl _ _) (by omega) (by omega)
    | succ r ih =>
      intro w y hw hy
      subst hy
      have k105 : ∀ u v : Int32, AW aw_Z0 mX5_flaws d k 80 2000 (fun oc h' k' => ∃ r : Nat, oc = .inl (some (.ref r)) ∧ 0 < r ∧ exle k h k' h' ∧ ∃ g, h' r = irow 0 g)  105 [.ref 1, .ref k, .int 0, .int (nI w), .int u, .int v] [] (va_up h k (irow 120 (fun _ => 0))) (k + 1) 1 120 := by
        intro u v
        refine AW.iinc (v := ((nI w) + 1)) (L' := [.ref 1, .ref k, .int 0, .int ((nI w) + 1), .int u, .int v]) (pc := 105) dX5_flaws_105 rfl rfl (by decide) rfl rfl ?_
        refine AW.goto (pc := 108) (tgt := 9) dX5_flaws_108 (by decide) ?_
        refine AW.locals (L' := [.ref 1, .ref k, .int 0, .int ((nI w) + 1), .null, .null]) (aw_fewer_same (aw_fewer_same (aw_fewer_same (aw_fewer_same (aw_fewer_null (aw_fewer_null aw_fewer_nil)))))) ?_
        exact ih (w + 1) _ (by omega) (nI_1 w)
      have keyI : ∀ (r j : Nat) (y4 y5 : Int32), j + r = n → y5 = nI j → y4 = (if w < j then 1 else 0) → AW aw_Z0 mX5_flaws d k 80 2000 (fun oc h' k' => ∃ r : Nat, oc = .inl (some (.ref r)) ∧ 0 < r ∧ exle k h k' h' ∧ ∃ g, h' r = irow 0 g)  21 [.ref 1, .ref k, .int 0, .int (nI w), .int y4, .int y5] [] (va_up h k (irow 120 (fun _ => 0))) (k + 1) 1 120 := by
        intro r
        induction r with
        | zero =>
          intro j y4 y5 hj h5 h4
          have : j = n := by omega
          subst this
          subst h5
          refine AW.iload (pc := 21) dX5_flaws_21 rfl ?_
          refine AW.aload_n (pc := 23) dX5_flaws_23 rfl rfl ?_
          refine AW.get (pc := 24) (i := 1) (ci := 5) (f := 3) (N := 14) (C := RX5) (T := TX5) dX5_flaws_24 tw_653 rfl (by decide) rfl (by decide) (hB1.1) rfl ?_
          rw [hB1.2.1.1]
          refine AW.icmp_ge (pc := 27) (tgt := 59) dX5_flaws_27 (by decide) (fun _ => ?_) (fun c => absurd (nI_le (by omega) (by omega)) c)
          refine AW.iload (pc := 59) dX5_flaws_59 rfl ?_
          refine AW.iconst (v := 1) (pc := 61) dX5_flaws_61 (by decide) ?_
          by_cases hwj : w < j
          · rw [if_pos hwj] at h4
            subst h4
            refine AW.icmp_eq (pc := 62) (tgt := 105) dX5_flaws_62 (by decide) (fun _ => ?_) (fun c => absurd (rfl) c)
            exact k105 _ _
          · rw [if_neg hwj] at h4
            subst h4
            refine AW.icmp_eq (pc := 62) (tgt := 105) dX5_flaws_62 (by decide) (fun c => absurd c (by decide)) (fun _ => ?_)
            refine AW.iload (pc := 65) dX5_flaws_65 rfl ?_
            refine AW.if_ne (pc := 67) (tgt := 81) dX5_flaws_67 (by decide) (fun c => absurd (rfl) c) (fun _ => ?_)
            refine AW.aload_n (pc := 70) dX5_flaws_70 rfl rfl ?_
            refine AW.iload_n (pc := 71) dX5_flaws_71 rfl rfl ?_
            refine AW.callV (pc := 72) (S' := []) dX5_flaws_72 (c_B_users (d := d - 1) (by omega) hB1 (fun l hl e => by have := hT.uses hl (by omega) e; omega)) ok_X5_users tw_807 tw_808 tw_806 (by decide) (hB1.1) (show aw_cl[5]? = some _ from rfl) rfl rfl (by omega) rfl (Nat.le_of_ble_eq_true rfl) (by omega) (by omega) ?_ (fun E h' k' hq => by obtain ⟨hx9, -⟩ := hq; try cases hx9)
            intro v h' k' hq
            obtain ⟨hx9, rfl, rfl⟩ := hq
            cases hx9
            show AW _ _ _ _ _ _ _ 75 [.ref 1, .ref k, .int 0, .int (nI w), .int 0, .int (nI j)] [.int 0] (va_up h k (irow 120 (fun _ => 0))) (k + 1) 1 120
            refine AW.if_ne (pc := 75) (tgt := 81) dX5_flaws_75 (by decide) (fun c => absurd (rfl) c) (fun _ => ?_)
            refine AW.goto (pc := 78) (tgt := 105) dX5_flaws_78 (by decide) ?_
            exact k105 _ _
        | succ r ihI =>
          intro j y4 y5 hj h5 h4
          subst h5
          have hl : j < n := by omega
          refine AW.iload (pc := 21) dX5_flaws_21 rfl ?_
          refine AW.aload_n (pc := 23) dX5_flaws_23 rfl rfl ?_
          refine AW.get (pc := 24) (i := 1) (ci := 5) (f := 3) (N := 14) (C := RX5) (T := TX5) dX5_flaws_24 tw_653 rfl (by decide) rfl (by decide) (hB1.1) rfl ?_
          rw [hB1.2.1.1]
          refine AW.icmp_ge (pc := 27) (tgt := 59) dX5_flaws_27 (by decide) (fun c => absurd c (nI_ge (by omega) (by omega))) (fun _ => ?_)
          refine AW.iload (pc := 30) dX5_flaws_30 rfl ?_
          refine AW.aload_n (pc := 32) dX5_flaws_32 rfl rfl ?_
          refine AW.get (pc := 33) (i := 1) (ci := 5) (f := 4) (N := 14) (C := RX5) (T := TX5) dX5_flaws_33 tw_654 rfl (by decide) rfl (by decide) (hB1.1) rfl ?_
          refine AW.iload (pc := 36) dX5_flaws_36 rfl ?_
          refine AW.aald (pc := 38) (n := 30) (f := lnf n) (j := 79 + j) dX5_flaws_38 (by decide) (hB1.2.2.1) (vp_in_nI (by omega) (by decide)) (lnf_at hl (by omega) rfl) ?_
          refine AW.iconst (v := 1) (pc := 39) dX5_flaws_39 (by decide) ?_
          refine AW.iald2 (pc := 40) (n := 8) (g := T j) (j := 1) dX5_flaws_40 (by omega) (hB1.2.2.2 j hl) (vp_lit (by decide)) (by decide) ?_
          refine AW.iload_n (pc := 41) dX5_flaws_41 rfl rfl ?_
          rw [(hT.2 j hl).1]
          refine AW.icmp_ne (pc := 42) (tgt := 49) dX5_flaws_42 (by decide) (fun c => ?_) (fun c => ?_)
          · refine AW.iconst (v := 0) (pc := 49) dX5_flaws_49 (by decide) ?_
            refine AW.iadd (pc := 50) dX5_flaws_50 ?_
            refine AW.istore (L' := [.ref 1, .ref k, .int 0, .int (nI w), .int (y4 + (0 : Int32)), .int (nI j)]) (pc := 51) dX5_flaws_51 (by decide) rfl rfl ?_
            refine AW.iinc (v := ((nI j) + 1)) (L' := [.ref 1, .ref k, .int 0, .int (nI w), .int (y4 + (0 : Int32)), .int ((nI j) + 1)]) (pc := 53) dX5_flaws_53 rfl rfl (by decide) rfl rfl ?_
            refine AW.goto (pc := 56) (tgt := 21) dX5_flaws_56 (by decide) ?_
            exact ihI (j + 1) _ _ (by omega) (nI_1 j) (by have hne : ¬ j = w := fun e => c (by rw [e]); rw [h4]; by_cases q : w < j; rw [if_pos q, if_pos (by omega)]; rfl; rw [if_neg q, if_neg (by omega)]; rfl)
          · refine AW.iconst (v := 1) (pc := 45) dX5_flaws_45 (by decide) ?_
            refine AW.goto (pc := 46) (tgt := 50) dX5_flaws_46 (by decide) ?_
            refine AW.iadd (pc := 50) dX5_flaws_50 ?_
            refine AW.istore (L' := [.ref 1, .ref k, .int 0, .int (nI w), .int (y4 + (1 : Int32)), .int (nI j)]) (pc := 51) dX5_flaws_51 (by decide) rfl rfl ?_
            refine AW.iinc (v := ((nI j) + 1)) (L' := [.ref 1, .ref k, .int 0, .int (nI w), .int (y4 + (1 : Int32)), .int ((nI j) + 1)]) (pc := 53) dX5_flaws_53 rfl rfl (by decide) rfl rfl ?_
            refine AW.goto (pc := 56) (tgt := 21) dX5_flaws_56 (by decide) ?_
            exact ihI (j + 1) _ _ (by omega) (nI_1 j) (by have he : j = w := (nI_eq (by omega) (by omega)).mp c; rw [h4, if_neg (by omega), if_pos (by omega)]; rfl)
      refine AW.iload_n (pc := 9) dX5_flaws_9 rfl rfl ?_
      refine AW.bipush (v := 24) (pc := 10) dX5_flaws_10 (by decide) ?_
      refine AW.icmp_ge (pc := 12) (tgt := 111) dX5_flaws_12 (by decide) (fun c => absurd c (nI_ge (b := 24) (by omega) (by decide))) (fun _ => ?_)
      refine AW.iconst (v := 0) (pc := 15) dX5_flaws_15 (by decide) ?_
      refine AW.istore (L' := [.ref 1, .ref k, .int 0, .int (nI w), .int (0 : Int32), .null]) (pc := 16) dX5_flaws_16 (by decide) rfl rfl ?_
      refine AW.iconst (v := 0) (pc := 18) dX5_flaws_18 (by decide) ?_
      refine AW.istore (L' := [.ref 1, .ref k, .int 0, .int (nI w), .int (0 : Int32), .int (0 : Int32)]) (pc := 19) dX5_flaws_19 (by decide) rfl rfl ?_
      exact keyI n 0 _ _ (by omega) rfl (by rw [if_neg (by omega)])
  refine AW.bipush (v := 120) (pc := 0) dX5_flaws_0 (by decide) ?_
  refine AW.newa (ty := .int) (N := 120) (a0 := (120, .inl (fun _ => 0))) (pc := 2) dX5_flaws_2 rfl (Or.inl rfl) tw_501 (fun _ => rfl) (by decide) (by decide) (by decide) (by omega) (by omega) ?_
  show AW _ _ _ _ _ _ _ 4 [.ref 1, .null, .null, .null, .null, .null] [.ref k] (va_up h k (.inl (.int, 120, .inl (fun _ => 0)))) (k + 1) (0 + 1) (0 + 120)
  refine AW.astore_n (L' := [.ref 1, .ref k, .null, .null, .null, .null]) (pc := 4) dX5_flaws_4 rfl (by decide) rfl rfl ?_
  refine AW.iconst (v := 0) (pc := 5) dX5_flaws_5 (by decide) ?_
  refine AW.istore_n (L' := [.ref 1, .ref k, .int (0 : Int32), .null, .null, .null]) (pc := 6) dX5_flaws_6 rfl (by decide) rfl rfl ?_
  refine AW.iconst (v := 0) (pc := 7) dX5_flaws_7 (by decide) ?_
  refine AW.istore_n (L' := [.ref 1, .ref k, .int (0 : Int32), .int (0 : Int32), .null, .null]) (pc := 8) dX5_flaws_8 rfl (by decide) rfl rfl ?_
  exact keyA 24 0 _ (by omega) rfl
set_option maxRecDepth 100000 in
set_option maxHeartbeats 4000000 in
theorem c_B_mayRun {h : Hp} {x : Nat → Int32} {wi pe hz n : Nat} {T : Nat → Nat → Int32} {d k : Nat} (hd : 32 ≤ d) (hT : gT T n) (hB : BN h x wi pe hz n T) (hk : 79 + n ≤ k) : AM mX5_mayRun d [.ref 1] h k 80 2000 (fun oc h' k' => oc = .inl (some (.int 1)) ∧ exle k h k' h') := by
  refine AM.intro (n := 1) (by decide) rfl rfl rfl ?_
  refine AW.aload_n (pc := 0) dX5_mayRun_0 rfl rfl ?_
  refine AW.callV (pc := 1) (S' := []) dX5_mayRun_1 (c_B_flaws (d := d - 1) (by omega) hT hB hk) ok_X5_flaws tw_803 tw_804 tw_802 (by decide) (hB.1) (show aw_cl[5]? = some _ from rfl) rfl rfl (by omega) rfl (Nat.le_of_ble_eq_true rfl) (by omega) (by omega) ?_ (fun E h' k' hq => by obtain ⟨r, hx9, -⟩ := hq; try cases hx9)
  intro v h' k' hq
  obtain ⟨r, hx9, hr0, he, g, hr⟩ := hq
  cases hx9
  show AW _ _ _ _ _ _ _ 4 [.ref 1, .null] [.ref r] h' k' (0 + 80) (0 + 2000)
  refine AW.astore_n (L' := [.ref 1, .ref r]) (pc := 4) dX5_mayRun_4 rfl (by decide) rfl rfl ?_
  refine AW.aload_n (pc := 5) dX5_mayRun_5 rfl rfl ?_
  refine AW.alen (pc := 6) (n := 0) (g := g) dX5_mayRun_6 hr0 hr ?_
  refine AW.if_eq (pc := 7) (tgt := 17) dX5_mayRun_7 (by decide) (fun _ => ?_) (fun c => absurd (rfl) c)
  refine AW.iconst (v := 1) (pc := 17) dX5_mayRun_17 (by decide) ?_
  refine AW.goto (pc := 18) (tgt := 22) dX5_mayRun_18 (by decide) ?_
  exact AW.iret (pc := 22) dX5_mayRun_22 rfl (by decide) (by omega) (by omega) (⟨rfl, he⟩)
