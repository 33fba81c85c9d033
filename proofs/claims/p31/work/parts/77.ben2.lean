/-! the bench's rows as they are founded; rings and flaws: none -/
abbrev brow (n : Nat) (g : Nat → Int32) : Ce := .inl (.boolean, n, .inl g)
def gT (T : Nat → Nat → Int32) (n : Nat) : Prop := n ≤ 17 ∧ ∀ l, l < n → T l 1 = nI l ∧ T l 6 = 0 ∧ T l 7 = 0 ∧ ((l < 4 ∧ T l 0 = -1 ∧ T l 2 = -1 ∧ T l 3 = -1 ∧ T l 4 = -1 ∧ T l 5 = 0) ∨
  (4 ≤ l ∧ (∃ q : Nat, q < 5 ∧ T l 5 = nI q) ∧ (∃ a : Nat, a < l ∧ T l 2 = nI a) ∧ ((T l 0 = -2 ∧ (∃ c : Nat, c < 3 ∧ T l 3 = nI c) ∧ (T l 4 = -1 ∨ T l 4 = 3)) ∨
    (∃ q : Nat, q < 8 ∧ T l 0 = nI q ∧ (if q < 2 then T l 3 = -1 else ∃ b : Nat, b < l ∧ T l 3 = nI b) ∧ (if q < 7 then T l 4 = -1 else ∃ c : Nat, c < l ∧ T l 4 = nI c)))))
theorem m1_nI {a : Nat} (h : a < 2 ^ 31) : ¬ ((-1 : Int32) = nI a) := fun e => nI_m1 h e.symm
/-- what a line uses lies ahead of it -/
theorem gT.ahead {T : Nat → Nat → Int32} {n l u k : Nat} (h : gT T n) (hl : l < n) (hu : u < 24) (hk : k = 2 ∨ k = 3 ∨ k = 4) (e : T l k = nI u) : u < l := by
  obtain ⟨h17, h⟩ := h
  obtain ⟨-, -, -, h | ⟨h4, -, ⟨a, ha, ea⟩, h | ⟨q, hq, -, hb, hc⟩⟩⟩ := h l hl
  · rcases hk with rfl | rfl | rfl
    · exact absurd (h.2.2.1.symm.trans e) (m1_nI (by omega))
    · exact absurd (h.2.2.2.1.symm.trans e) (m1_nI (by omega))
    · exact absurd (h.2.2.2.2.1.symm.trans e) (m1_nI (by omega))
  · obtain ⟨-, ⟨c, hc, ec⟩, h5⟩ := h
    rcases hk with rfl | rfl | rfl
    · have := (nI_eq (by omega) (by omega)).mp (ea.symm.trans e); omega
    · have := (nI_eq (by omega) (by omega)).mp (ec.symm.trans e); omega
    · rcases h5 with h5 | h5
      · exact absurd (h5.symm.trans e) (m1_nI (by omega))
      · have := (nI_eq (a := 3) (by omega) (by omega)).mp (h5.symm.trans e); omega
  · rcases hk with rfl | rfl | rfl
    · have := (nI_eq (by omega) (by omega)).mp (ea.symm.trans e); omega
    · split at hb
      · exact absurd (hb.symm.trans e) (m1_nI (by omega))
      · obtain ⟨b, hb, eb⟩ := hb
        have := (nI_eq (by omega) (by omega)).mp (eb.symm.trans e); omega
    · split at hc
      · exact absurd (hc.symm.trans e) (m1_nI (by omega))
      · obtain ⟨c, hc, ec⟩ := hc
        have := (nI_eq (by omega) (by omega)).mp (ec.symm.trans e); omega
theorem gT.uses {T : Nat → Nat → Int32} {n l u : Nat} (h : gT T n) (hl : l < n) (hu : u < 24) (e : T l 2 = nI u ∨ T l 3 = nI u ∨ T l 4 = nI u) : u < l := by
  rcases e with e | e | e
  · exact h.ahead hl hu (Or.inl rfl) e
  · exact h.ahead hl hu (Or.inr (Or.inl rfl)) e
  · exact h.ahead hl hu (Or.inr (Or.inr rfl)) e
/-- a pin: none, or a wire ahead -/
theorem gT.pin {T : Nat → Nat → Int32} {n l k : Nat} (h : gT T n) (hl : l < n) (hk : k = 2 ∨ k = 3 ∨ k = 4) : T l k = -1 ∨ ∃ a : Nat, a < l ∧ T l k = nI a := by
  obtain ⟨h17, h⟩ := h
  obtain ⟨-, -, -, h | ⟨h4, -, ⟨a, ha, ea⟩, h | ⟨q, hq, -, hb, hc⟩⟩⟩ := h l hl
  · rcases hk with rfl | rfl | rfl
    · exact Or.inl h.2.2.1
    · exact Or.inl h.2.2.2.1
    · exact Or.inl h.2.2.2.2.1
  · obtain ⟨-, ⟨c, hc, ec⟩, h5⟩ := h
    rcases hk with rfl | rfl | rfl
    · exact Or.inr ⟨a, ha, ea⟩
    · exact Or.inr ⟨c, by omega, ec⟩
    · exact h5.imp id fun e => ⟨3, by omega, e⟩
  · rcases hk with rfl | rfl | rfl
    · exact Or.inr ⟨a, ha, ea⟩
    · split at hb
      · exact Or.inl hb
      · exact Or.inr hb
    · split at hc
      · exact Or.inl hc
      · exact Or.inr hc
theorem BN.up {h : Hp} {x : Nat → Int32} {wi pe hz n q : Nat} {T : Nat → Nat → Int32} {c : Ce} (hB : BN h x wi pe hz n T) (h1 : q ≠ 1) (h2 : q ≠ 48) (h3 : ∀ l, l < n → q ≠ 79 + l) : BN (va_up h q c) x wi pe hz n T :=
  ⟨by rw [up_ne (Ne.symm h1)]; exact hB.1, hB.2.1, by rw [up_ne (Ne.symm h2)]; exact hB.2.2.1, fun l hl => by rw [up_ne (Ne.symm (h3 l hl))]; exact hB.2.2.2 l hl⟩
theorem BN.ex {h h2 : Hp} {x : Nat → Int32} {wi pe hz n k k2 : Nat} {T : Nat → Nat → Int32} (hB : BN h x wi pe hz n T) (hk : 79 + n ≤ k) (he : exle k h k2 h2) : BN h2 x wi pe hz n T :=
  ⟨by rw [he.2 1 (by omega)]; exact hB.1, hB.2.1, by rw [he.2 48 (by omega)]; exact hB.2.2.1, fun l hl => by rw [he.2 (79 + l) (by omega)]; exact hB.2.2.2 l hl⟩
theorem exle.push {k : Nat} {h : Hp} {c : Ce} : exle k h (k + 1) (va_up h k c) := ⟨Nat.le_succ k, fun i hi => up_ne (by omega)⟩
theorem exle.at {k k2 q : Nat} {h h2 : Hp} {c : Ce} (he : exle k h k2 h2) (hq : k ≤ q) : exle k h k2 (va_up h2 q c) := ⟨he.1, fun i hi => by rw [up_ne (by omega)]; exact he.2 i hi⟩
theorem up_up {h : Hp} {q : Nat} {a b : Ce} : va_up (va_up h q a) q b = va_up h q b := va_up_up
abbrev mX5_leads : Mt := (yX5_leads, cX5_leads, 5, (some .boolean), [])
set_option maxRecDepth 20000 in
theorem ok_X5_leads : aw_mok mX5_leads 3 := ⟨rfl, tw_819, tw_1, ⟨by decide, by decide⟩, by decide +kernel, by decide⟩
set_option maxRecDepth 100000 in
set_option maxHeartbeats 4000000 in
theorem c_B_leads {x : Nat → Int32} {wi pe hz n t k q : Nat} {T : Nat → Nat → Int32} (hT : gT T n) : ∀ (D f : Nat) (h : Hp) (g : Nat → Int32) (d : Nat), 4 + D ≤ d → t < f ∧ f < 24 ∧ 24 ≤ f + D → 79 + n ≤ q → BN h x wi pe hz n T → h q = brow 24 g → AM mX5_leads d [.ref 1, .int (nI f), .int (nI t), .ref q] h k 0 0 (fun oc h' k' => oc = .inl (some (.int 0)) ∧ k = k' ∧ ∃ g', h' = va_up h q (brow 24 g')) := by
  intro D
  induction D with
  | zero => intro f h g d hd hf hq hB hh; omega
  | succ D ihD =>
    intro f h g d hd hf hq hB hh
    have hn := hB.2.1.2
    refine AM.intro (n := 1) (by decide) rfl rfl rfl ?_
    have key : ∀ (r j : Nat) (y : Int32) (g2 : Nat → Int32), j + r = n → y = nI j → AW aw_Z0 mX5_leads d k 0 0 (fun oc h' k' => oc = .inl (some (.int 0)) ∧ k = k' ∧ ∃ g', h' = va_up h q (brow 24 g')) 14 [.ref 1, .int (nI f), .int (nI t), .ref q, .int y] [] (va_up h q (brow 24 g2)) k 0 0 := by
      intro r
      induction r with
      | zero =>
        intro j y g2 hj hy
        subst hy
        have hB2 := hB.up (q := q) (c := brow 24 g2) (by omega) (by omega) (fun l hl => by omega)
        refine AW.iload (pc := 14) dX5_leads_14 rfl ?_
        refine AW.aload_n (pc := 16) dX5_leads_16 rfl rfl ?_
        refine AW.get (pc := 17) (i := 1) (ci := 5) (f := 3) (N := 14) (C := RX5) (T := TX5) dX5_leads_17 tw_653 rfl (by decide) rfl (by decide) (hB2.1) rfl ?_
        rw [hB2.2.1.1]
        refine AW.icmp_ge (pc := 20) (tgt := 82) dX5_leads_20 (by decide) (fun _ => ?_) (fun c => absurd (nI_le (by omega) (by omega)) c)
        refine AW.iconst (v := 0) (pc := 82) dX5_leads_82 (by decide) ?_
        exact AW.iret (pc := 83) dX5_leads_83 rfl (by decide) (by omega) (by omega) (⟨rfl, rfl, _, rfl⟩)
      | succ r ih =>
        intro j y g2 hj hy
        subst hy
        have hl : j < n := by omega
        have hB2 := hB.up (q := q) (c := brow 24 g2) (by omega) (by omega) (fun l hl => by omega)
        refine AW.iload (pc := 14) dX5_leads_14 rfl ?_
        refine AW.aload_n (pc := 16) dX5_leads_16 rfl rfl ?_
        refine AW.get (pc := 17) (i := 1) (ci := 5) (f := 3) (N := 14) (C := RX5) (T := TX5) dX5_leads_17 tw_653 rfl (by decide) rfl (by decide) (hB2.1) rfl ?_
        rw [hB2.2.1.1]
        refine AW.icmp_ge (pc := 20) (tgt := 82) dX5_leads_20 (by decide) (fun c => absurd c (nI_ge (by omega) (by omega))) (fun _ => ?_)
        refine AW.aload_n (pc := 23) dX5_leads_23 rfl rfl ?_
        refine AW.iload (pc := 24) dX5_leads_24 rfl ?_
        refine AW.callV (pc := 26) (S' := []) dX5_leads_26 (c_B_isGate (d := d - 1) hB2 hl) ok_X5_isGate tw_773 tw_774 tw_811 (by decide) (hB2.1) (show aw_cl[5]? = some _ from rfl) rfl rfl (by omega) rfl (Nat.le_of_ble_eq_true rfl) (by omega) (by omega) ?_ (fun E h' k' hq => by obtain ⟨hx9, -⟩ := hq; try cases hx9)
        intro v h' k' hq
        obtain ⟨hx9, rfl, rfl⟩ := hq
        cases hx9
        show AW _ _ _ _ _ _ _ 29 [.ref 1, .int (nI f), .int (nI t), .ref q, .int (nI j)] [.int (if T j 0 < 0 then 0 else 1)] (va_up h q (brow 24 g2)) k 0 0
        by_cases hg0 : T j 0 < 0
        · rw [if_pos hg0]
          refine AW.if_eq (pc := 29) (tgt := 76) dX5_leads_29 (by decide) (fun _ => ?_) (fun c => absurd (rfl) c)
          refine AW.iinc (v := ((nI j) + 1)) (L' := [.ref 1, .int (nI f), .int (nI t), .ref q, .int ((nI j) + 1)]) (pc := 76) dX5_leads_76 rfl rfl (by decide) rfl rfl ?_
          refine AW.goto (pc := 79) (tgt := 14) dX5_leads_79 (by decide) ?_
          exact ih (j + 1) _ _ (by omega) (nI_1 j)
        · rw [if_neg hg0]
          refine AW.if_eq (pc := 29) (tgt := 76) dX5_leads_29 (by decide) (fun c => absurd c (by decide)) (fun _ => ?_)
          refine AW.aload_n (pc := 32) dX5_leads_32 rfl rfl ?_
          refine AW.iload (pc := 33) dX5_leads_33 rfl ?_
          refine AW.iload_n (pc := 35) dX5_leads_35 rfl rfl ?_
          refine AW.callV (pc := 36) (S' := []) dX5_leads_36 (c_B_uses (d := d - 1) hB2 hl) ok_X5_uses tw_777 tw_778 tw_810 (by decide) (hB2.1) (show aw_cl[5]? = some _ from rfl) rfl rfl (by omega) rfl (Nat.le_of_ble_eq_true rfl) (by omega) (by omega) ?_ (fun E h' k' hq => by obtain ⟨hx9, -⟩ := hq; try cases hx9)
          intro v h' k' hq
          obtain ⟨hx9, rfl, rfl⟩ := hq
          cases hx9
          show AW _ _ _ _ _ _ _ 39 [.ref 1, .int (nI f), .int (nI t), .ref q, .int (nI j)] [.int (if T j 2 = nI f ∨ T j 3 = nI f ∨ T j 4 = nI f then 1 else 0)] (va_up h q (brow 24 g2)) k 0 0
          by_cases hu : T j 2 = nI f ∨ T j 3 = nI f ∨ T j 4 = nI f
          · rw [if_pos hu]
            refine AW.if_eq (pc := 39) (tgt := 76) dX5_leads_39 (by decide) (fun c => absurd c (by decide)) (fun _ => ?_)
            have hfj := hT.uses hl (by omega) hu
            have eT : T j 1 = nI j := (hT.2 j hl).1
            refine AW.aload_n (pc := 42) dX5_leads_42 rfl rfl ?_
            refine AW.aload_n (pc := 43) dX5_leads_43 rfl rfl ?_
            refine AW.get (pc := 44) (i := 1) (ci := 5) (f := 4) (N := 14) (C := RX5) (T := TX5) dX5_leads_44 tw_654 rfl (by decide) rfl (by decide) (hB2.1) rfl ?_
            refine AW.iload (pc := 47) dX5_leads_47 rfl ?_
            refine AW.aald (pc := 49) (n := 30) (f := lnf n) (j := 79 + j) dX5_leads_49 (by decide) (hB2.2.2.1) (vp_in_nI (by omega) (by decide)) (lnf_at hl (by omega) rfl) ?_
            refine AW.iconst (v := 1) (pc := 50) dX5_leads_50 (by decide) ?_
            refine AW.iald2 (pc := 51) (n := 8) (g := T j) (j := 1) dX5_leads_51 (by omega) (hB2.2.2.2 j hl) (vp_lit (by decide)) (by decide) ?_
            rw [eT]
            refine AW.zald (pc := 52) (n := 24) (g := g2) dX5_leads_52 (by omega) up_same (vp_in_nI (by omega) (by decide)) ?_
            refine AW.if_ne (pc := 53) (tgt := 76) dX5_leads_53 (by decide) (fun c => ?_) (fun c => ?_)
            · refine AW.iinc (v := ((nI j) + 1)) (L' := [.ref 1, .int (nI f), .int (nI t), .ref q, .int ((nI j) + 1)]) (pc := 76) dX5_leads_76 rfl rfl (by decide) rfl rfl ?_
              refine AW.goto (pc := 79) (tgt := 14) dX5_leads_79 (by decide) ?_
              exact ih (j + 1) _ _ (by omega) (nI_1 j)
            · refine AW.aload_n (pc := 56) dX5_leads_56 rfl rfl ?_
              refine AW.aload_n (pc := 57) dX5_leads_57 rfl rfl ?_
              refine AW.get (pc := 58) (i := 1) (ci := 5) (f := 4) (N := 14) (C := RX5) (T := TX5) dX5_leads_58 tw_654 rfl (by decide) rfl (by decide) (hB2.1) rfl ?_
              refine AW.iload (pc := 61) dX5_leads_61 rfl ?_
              refine AW.aald (pc := 63) (n := 30) (f := lnf n) (j := 79 + j) dX5_leads_63 (by decide) (hB2.2.2.1) (vp_in_nI (by omega) (by decide)) (lnf_at hl (by omega) rfl) ?_
              refine AW.iconst (v := 1) (pc := 64) dX5_leads_64 (by decide) ?_
              refine AW.iald2 (pc := 65) (n := 8) (g := T j) (j := 1) dX5_leads_65 (by omega) (hB2.2.2.2 j hl) (vp_lit (by decide)) (by decide) ?_
              refine AW.iload_n (pc := 66) dX5_leads_66 rfl rfl ?_
              refine AW.aload_n (pc := 67) dX5_leads_67 rfl rfl ?_
              rw [eT]
              refine AW.callV (pc := 68) (S' := []) dX5_leads_68 (ihD j (va_up h q (brow 24 g2)) g2 (d - 1) (by omega) (by omega) hq hB2 up_same) ok_X5_leads tw_818 ts_34 tw_816 (by decide) (hB2.1) (show aw_cl[5]? = some _ from rfl) rfl rfl (by omega) rfl (Nat.le_of_ble_eq_true rfl) (by omega) (by omega) ?_ (fun E h' k' hq => by obtain ⟨hx9, -⟩ := hq; try cases hx9)
              intro v h' k' hq
              obtain ⟨hx9, rfl, g3, rfl⟩ := hq
              cases hx9
              show AW _ _ _ _ _ _ _ 71 [.ref 1, .int (nI f), .int (nI t), .ref q, .int (nI j)] [.int 0] (va_up (va_up h q (brow 24 g2)) q (brow 24 g3)) k 0 0
              rw [up_up]
              refine AW.if_eq (pc := 71) (tgt := 76) dX5_leads_71 (by decide) (fun _ => ?_) (fun c => absurd (rfl) c)
              refine AW.iinc (v := ((nI j) + 1)) (L' := [.ref 1, .int (nI f), .int (nI t), .ref q, .int ((nI j) + 1)]) (pc := 76) dX5_leads_76 rfl rfl (by decide) rfl rfl ?_
              refine AW.goto (pc := 79) (tgt := 14) dX5_leads_79 (by decide) ?_
              exact ih (j + 1) _ _ (by omega) (nI_1 j)
          · rw [if_neg hu]
            refine AW.if_eq (pc := 39) (tgt := 76) dX5_leads_39 (by decide) (fun _ => ?_) (fun c => absurd (rfl) c)
            refine AW.iinc (v := ((nI j) + 1)) (L' := [.ref 1, .int (nI f), .int (nI t), .ref q, .int ((nI j) + 1)]) (pc := 76) dX5_leads_76 rfl rfl (by decide) rfl rfl ?_
            refine AW.goto (pc := 79) (tgt := 14) dX5_leads_79 (by decide) ?_
            exact ih (j + 1) _ _ (by omega) (nI_1 j)
    refine AW.iload_n (pc := 0) dX5_leads_0 rfl rfl ?_
    refine AW.iload_n (pc := 1) dX5_leads_1 rfl rfl ?_
    refine AW.icmp_ne (pc := 2) (tgt := 7) dX5_leads_2 (by decide) (fun _ => ?_) (fun c => absurd c (fun e => by have := (nI_eq (by omega) (by omega)).mp e; omega))
    refine AW.aload_n (pc := 7) dX5_leads_7 rfl rfl ?_
    refine AW.iload_n (pc := 8) dX5_leads_8 rfl rfl ?_
    refine AW.iconst (v := 1) (pc := 9) dX5_leads_9 (by decide) ?_
    refine AW.zast (pc := 10) dX5_leads_10 (by omega) hh (vp_in_nI (by omega) (by decide)) (by decide) ?_
    refine AW.iconst (v := 0) (pc := 11) dX5_leads_11 (by decide) ?_
    refine AW.istore (L' := [.ref 1, .int (nI f), .int (nI t), .ref q, .int (0 : Int32)]) (pc := 12) dX5_leads_12 (by decide) rfl rfl ?_
    exact key n 0 _ _ (by omega) rfl
