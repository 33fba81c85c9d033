/-! the bench finds its lines -/
theorem AMz.weaken {N : Nat} {xs : Nat → Int32} {μ : Mt} {d : Nat} {as : List Value} {h : Hp} {k mc ms : Nat} {Q Q' : Po} (hM : AMz N xs μ d as h k mc ms Q) (hQ : ∀ o h' k', Q o h' k' → Q' o h' k') : AMz N xs μ d as h k mc ms Q' := by
  intro l D cT ad sz hl p e ha hc hkk s m args below hf happ hP hK2
  obtain ⟨n, o, g1, g2, g3, g4⟩ := hM l D cT ad sz hl p e ha hc hkk s m args below hf happ hP hK2
  refine ⟨n, o, g1, g2, g3, ?_⟩
  rcases g4 with ⟨⟨⟨v, h', k', ad', rfl, hq, c⟩, hF⟩, r⟩ | ⟨q, rfl, E, ce, L, ⟨⟨h', k', ad', hq, c⟩, hF⟩, r⟩
  · exact Or.inl ⟨⟨⟨v, h', k', ad', rfl, hQ _ _ _ hq, c⟩, hF⟩, r⟩
  · exact Or.inr ⟨q, rfl, E, ce, L, ⟨⟨h', k', ad', hQ _ _ _ hq, c⟩, hF⟩, r⟩
/-- the bench and the class so far -/
def FD (h0 h : Hp) (wi pe hz q n : Nat) : Prop := ∃ (x : Nat → Int32) (T : Nat → Nat → Int32) (m g : Mem), x 2 = nI q ∧ BN h x wi pe hz n T ∧ gT T n ∧ TG T g n ∧ CLS h m ∧ Iv n m g n ∧ FB 79 h0 h
section FD
variable {Ls : Nat} {xs : Nat → Int32} {h0 h : Hp} {wi pe hz n q : Nat} {d k : Nat}
theorem FD.le (h : FD h0 h wi pe hz q n) : n ≤ 17 := by obtain ⟨x, T, m, g, -, -, hT, -⟩ := h; exact hT.1
theorem FD.draw {x : Nat → Int32} {T : Nat → Nat → Int32} {m g : Mem} (hB : BN h x wi pe hz n T) (hT : gT T n) (hG : TG T g n) (hC : CLS h m) (hI : Iv n m g n) (hF : FB 79 h0 h) : FD h0 (va_up h 1 (.inr (5, bf (upd x 2 (nI (q + 1))) wi pe hz))) wi pe hz (q + 1) n :=
  ⟨_, T, m, g, upd_same, hB.draw, hT, hG, hC.same fun i i2 _ => up_ne (by omega), hI, fun i i0 ik => (up_ne (by omega)).trans (hF i i0 ik)⟩
theorem c_F_draw {N : Nat} (hd : 1 ≤ d) (hk0 : 0 < k) (hL : Ls ≤ 260) (hF : FD h0 h wi pe hz q n) (hq : q < 2 ^ 20) (hN : 0 < N) (hN2 : N < 2 ^ 31) : AMz Ls xs mX5_draw d [.ref 1, .int (nI N)] h k 0 0 (fun oc h' k' => ∃ a, a < N ∧ oc = .inl (some (.int (nI a))) ∧ FD h0 h' wi pe hz (q + 1) n ∧ k = k') := by
  obtain ⟨x, T, m, g, e2, hB, hT, hG, hC, hI, hF⟩ := hF
  refine (c_B_draw (q := q) (d := d) (N := N) hd hk0 hL hB e2 hq hN hN2).weaken fun o h' k' hq => ?_
  obtain ⟨a, ha, e, rfl, hk⟩ := hq
  exact ⟨a, ha, e, FD.draw hB hT hG hC hI hF, hk⟩
theorem c_F_from {N : Nat} (hd : 2 ≤ d) (hk0 : 0 < k) (hL : Ls ≤ 260) (hF : FD h0 h wi pe hz q n) (hq : q < 2 ^ 20) (hN : 0 < N) (hN2 : N < 2 ^ 31) : AMz Ls xs mX5_from d [.ref 1, .int (nI N), .int 0] h k 0 0 (fun oc h' k' => ∃ a, a < N ∧ oc = .inl (some (.int (nI a))) ∧ FD h0 h' wi pe hz (q + 1) n ∧ k = k') := by
  obtain ⟨x, T, m, g, e2, hB, hT, hG, hC, hI, hF⟩ := hF
  refine (c_B_from (q := q) (d := d) (N := N) hd hk0 hL hB e2 hq hN hN2).weaken fun o h' k' hq => ?_
  obtain ⟨a, ha, e, rfl, hk⟩ := hq
  exact ⟨a, ha, e, FD.draw hB hT hG hC hI hF, hk⟩
def FQ_ (h0 : Hp) (wi pe hz q n k : Nat) : Po := fun oc h' k' => oc = .inl (some (.int 1)) ∧ k + 1 = k' ∧ FD h0 h' wi pe hz q n
theorem FD.put {x : Nat → Int32} {T : Nat → Nat → Int32} {g : Mem} {kd w a b c dl : Int32} (e2 : x 2 = nI q) (hT : gT T n) (hG : TG T g n) (hF : FB 79 h0 h) (hk : 79 ≤ k) (hn : n < 17) (hr : gR (r8 kd w a b c dl) n) : ∀ o h' k', (o = .inl (some (.int 1)) ∧ k + 1 = k' ∧ BN h' (upd (upd x 5 0) 3 (nI (n + 1))) wi pe hz (n + 1) (Tn T n (r8 kd w a b c dl)) ∧ (∃ m', CLS h' m' ∧ Iv (n + 1) m' (gadd g n kd w a b c dl) (n + 1)) ∧ FB k h h') → FQ_ h0 wi pe hz q (n + 1) k o h' k' := by
  intro o h' k' hq
  obtain ⟨e, hk2, hB, ⟨m', hC, hI⟩, hF2⟩ := hq
  exact ⟨e, hk2, _, _, m', _, (upd_ne (by decide)).trans ((upd_ne (by decide)).trans e2), hB, hT.add hn hr, hG.add, hC, hI, fun i i0 ik => (hF2 i i0 (by omega)).trans (hF i i0 ik)⟩
theorem c_F_puti (hd : 9 ≤ d) (hk : k = 79 + n) (hF : FD h0 h wi pe hz q n) (hn : n < 4) : AM mX5_put d [.ref 1, .int (-1), .int (nI n), .int (-1), .int (-1), .int (-1), .int 0] h k 7 44 (FQ_ h0 wi pe hz q (n + 1) k) := by
  obtain ⟨x, T, m, g, e2, hB, hT, hG, hC, hI, hF⟩ := hF
  exact (c_B_puti (j := n) (d := d) hd hk hB hC hI (by omega)).weaken (FD.put e2 hT hG hF (by omega) (by omega) ⟨rfl, rfl, rfl, Or.inl ⟨hn, rfl, rfl, rfl, rfl, rfl⟩⟩)
theorem c_F_putr {a b dl : Nat} {c : Int32} (hd : 9 ≤ d) (hk : k = 79 + n) (hF : FD h0 h wi pe hz q n) (hn : n < 17) (h4 : 4 ≤ n) (ha : a < n) (hb : b < 3) (hc : c = -1 ∨ c = 3) (hdl : dl < 5) : AM mX5_put d [.ref 1, .int (-2), .int (nI n), .int (nI a), .int (nI b), .int c, .int (nI dl)] h k 7 44 (FQ_ h0 wi pe hz q (n + 1) k) := by
  obtain ⟨x, T, m, g, e2, hB, hT, hG, hC, hI, hF⟩ := hF
  exact (c_B_putr (j := n) (d := d) (q := dl) ⟨a, by omega, rfl⟩ ⟨b, by omega, rfl⟩ (hc.imp id fun e => ⟨3, by decide, e⟩) (by omega) hd hk hB hC hI (by omega)).weaken (FD.put e2 hT hG hF (by omega) (by omega) ⟨rfl, rfl, rfl, Or.inr ⟨h4, ⟨dl, hdl, rfl⟩, ⟨a, ha, rfl⟩, Or.inl ⟨rfl, ⟨b, hb, rfl⟩, hc⟩⟩⟩)
theorem c_F_putg {a dl kd : Nat} {b c : Int32} (hd : 9 ≤ d) (hk : k = 79 + n) (hF : FD h0 h wi pe hz q n) (hn : n < 17) (h4 : 4 ≤ n) (hkd : kd < 8) (ha : a < n) (hb : if kd < 2 then b = -1 else ∃ y : Nat, y < n ∧ b = nI y) (hc : if kd < 7 then c = -1 else ∃ y : Nat, y < n ∧ c = nI y) (hdl : dl < 5) : AM mX5_put d [.ref 1, .int (nI kd), .int (nI n), .int (nI a), .int b, .int c, .int (nI dl)] h k 7 44 (FQ_ h0 wi pe hz q (n + 1) k) := by
  obtain ⟨x, T, m, g, e2, hB, hT, hG, hC, hI, hF⟩ := hF
  refine (c_B_putg (j := n) (d := d) (q := dl) hkd ⟨a, by omega, rfl⟩ ?_ ?_ (by omega) hd hk hB hC hI (by omega)).weaken (FD.put e2 hT hG hF (by omega) (by omega) ⟨rfl, rfl, rfl, Or.inr ⟨h4, ⟨dl, hdl, rfl⟩, ⟨a, ha, rfl⟩, Or.inr ⟨kd, hkd, rfl, hb, hc⟩⟩⟩)
  · split at hb
    · rename_i e; rw [if_pos e]; exact hb
    · rename_i e; rw [if_neg e]; obtain ⟨y, hy, e⟩ := hb; exact ⟨y, by omega, e⟩
  · split at hc
    · rename_i e; rw [if_pos e]; exact hc
    · rename_i e; rw [if_neg e]; obtain ⟨y, hy, e⟩ := hc; exact ⟨y, by omega, e⟩
end FD
abbrev mX5_found : Mt := (yX5_found, cX5_found, 7, (some .boolean), [])
set_option maxRecDepth 20000 in
theorem ok_X5_found : aw_mok mX5_found 1 := ⟨rfl, tw_709, tw_1, ⟨by decide, by decide⟩, by decide +kernel, by decide⟩
theorem FD.obj {h0 h : Hp} {wi pe hz q n : Nat} (hF : FD h0 h wi pe hz q n) : ∃ fs, h 1 = .inr (5, fs) := by
  obtain ⟨x, T, m, g, -, hB, -⟩ := hF
  exact ⟨_, hB.1⟩
set_option maxRecDepth 100000 in
set_option maxHeartbeats 4000000 in
theorem c_B_found {Ls : Nat} {xs : Nat → Int32} {h0 h : Hp} {wi pe hz q : Nat} {d : Nat} (hd : 10 ≤ d) (hL : Ls ≤ 260) (hF : FD h0 h wi pe hz q 0) (hq : q < 2 ^ 19) : AMz Ls xs mX5_found d [.ref 1, .int 0] h 79 119 748 (fun oc h' k' => oc = .inl (some (.int 1)) ∧ ∃ (n' q' : Nat), 12 ≤ n' ∧ k' = 79 + n' ∧ q' ≤ q + 200 ∧ FD h0 h' wi pe hz q' n') := by
  refine AMz.intro (n := 5) (by decide) rfl rfl rfl ?_
  have hk0 : 0 < 79 := by decide
  have K40 : ∀ mo : Nat, 12 ≤ mo → mo ≤ 17 → ∀ (n q2 : Nat) (h2 : Hp) (k cs ss : Nat), n ≤ mo → 4 ≤ n → q2 ≤ q + 1 + 8 * (n - 4) → cs = 7 * n → ss = 44 * n → FD h0 h2 wi pe hz q2 n → k = 79 + n → AW (aw_ZL Ls xs) mX5_found d 79 119 748 (fun oc h' k' => oc = .inl (some (.int 1)) ∧ ∃ (n' q' : Nat), 12 ≤ n' ∧ k' = 79 + n' ∧ q' ≤ q + 200 ∧ FD h0 h' wi pe hz q' n')  40 [.ref 1, .int 0, .int (nI mo), .int (nI n), .null, .null, .null] [] h2 k cs ss := by
    intro mo hm12 hm17
    have k40 : ∀ (r n q2 : Nat) (h2 : Hp) (k cs ss : Nat), n + r = mo → 4 ≤ n → q2 ≤ q + 1 + 8 * (n - 4) → cs = 7 * n → ss = 44 * n → FD h0 h2 wi pe hz q2 n → k = 79 + n → AW (aw_ZL Ls xs) mX5_found d 79 119 748 (fun oc h' k' => oc = .inl (some (.int 1)) ∧ ∃ (n' q' : Nat), 12 ≤ n' ∧ k' = 79 + n' ∧ q' ≤ q + 200 ∧ FD h0 h' wi pe hz q' n')  40 [.ref 1, .int 0, .int (nI mo), .int (nI n), .null, .null, .null] [] h2 k cs ss := by
      intro r
      induction r with
      | zero =>
        intro n q2 h2 k cs ss hr h4 hq2 hcs hss hF0 hk
        refine AW.iload_n (pc := 40) dX5_found_40 rfl rfl ?_
        refine AW.iload_n (pc := 41) dX5_found_41 rfl rfl ?_
        refine AW.icmp_ge (pc := 42) (tgt := 197) dX5_found_42 (by decide) (fun _ => ?_) (fun c => absurd (nI_le (by omega) (by omega)) c)
        refine AW.iconst (v := 1) (pc := 197) dX5_found_197 (by decide) ?_
        exact AW.iret (pc := 198) dX5_found_198 rfl (by decide) (by omega) (by omega) (⟨rfl, n, q2, by omega, hk, by omega, hF0⟩)
      | succ r ih =>
        intro n q2 h2 k cs ss hr h4 hq2 hcs hss hF0 hk
        refine AW.iload_n (pc := 40) dX5_found_40 rfl rfl ?_
        refine AW.iload_n (pc := 41) dX5_found_41 rfl rfl ?_
        refine AW.icmp_ge (pc := 42) (tgt := 197) dX5_found_42 (by decide) (fun c => absurd c (nI_ge (by omega) (by omega))) (fun _ => ?_)
        refine AW.aload_n (pc := 45) dX5_found_45 rfl rfl ?_
        refine AW.iconst (v := 5) (pc := 46) dX5_found_46 (by decide) ?_
        obtain ⟨fs0, hO0⟩ := hF0.obj
        refine AW.callVz (pc := 47) (S' := []) dX5_found_47 (c_F_draw (d := d - 1) (N := 5) (by omega) (by omega) hL hF0 (by omega) (by omega) (by omega)) hk0 ok_X5_draw tw_695 tw_696 tw_767 (by decide) (hO0) (show aw_cl[5]? = some _ from rfl) rfl rfl (by omega) rfl (Nat.le_of_ble_eq_true rfl) (by omega) (by omega) ?_ (fun E h' k' hq => by obtain ⟨_, _, hx9, -⟩ := hq; try cases hx9)
        intro v h' k' hq
        obtain ⟨dl, hdl, hx9, hF1, rfl⟩ := hq
        cases hx9
        show AW _ _ _ _ _ _ _ 50 [.ref 1, .int 0, .int (nI mo), .int (nI n), .null, .null, .null] [.int (nI dl)] h' k cs ss
        obtain ⟨fs1, hO1⟩ := hF1.obj
        refine AW.istore (L' := [.ref 1, .int 0, .int (nI mo), .int (nI n), .int (nI dl), .null, .null]) (pc := 50) dX5_found_50 (by decide) rfl rfl ?_
        refine AW.aload_n (pc := 52) dX5_found_52 rfl rfl ?_
        refine AW.bipush (v := 9) (pc := 53) dX5_found_53 (by decide) ?_
        refine AW.callVz (pc := 55) (S' := []) dX5_found_55 (c_F_draw (d := d - 1) (N := 9) (by omega) (by omega) hL hF1 (by omega) (by omega) (by omega)) hk0 ok_X5_draw tw_695 tw_696 tw_767 (by decide) (hO1) (show aw_cl[5]? = some _ from rfl) rfl rfl (by omega) rfl (Nat.le_of_ble_eq_true rfl) (by omega) (by omega) ?_ (fun E h' k' hq => by obtain ⟨_, _, hx9, -⟩ := hq; try cases hx9)
        intro v h' k' hq
        obtain ⟨kd, hkd, hx9, hF2, rfl⟩ := hq
        cases hx9
        show AW _ _ _ _ _ _ _ 58 [.ref 1, .int 0, .int (nI mo), .int (nI n), .int (nI dl), .null, .null] [.int (nI kd)] h' k cs ss
        obtain ⟨fs2, hO2⟩ := hF2.obj
        refine AW.istore (L' := [.ref 1, .int 0, .int (nI mo), .int (nI n), .int (nI dl), .int (nI kd), .null]) (pc := 58) dX5_found_58 (by decide) rfl rfl ?_
        refine AW.iload_n (pc := 60) dX5_found_60 rfl rfl ?_
        refine AW.if_le (pc := 61) (tgt := 81) dX5_found_61 (by decide) (fun _ => ?_) (fun c => absurd (by decide) c)
        refine AW.iload_n (pc := 81) dX5_found_81 rfl rfl ?_
        refine AW.istore (L' := [.ref 1, .int 0, .int (nI mo), .int (nI n), .int (nI dl), .int (nI kd), .int (nI n)]) (pc := 82) dX5_found_82 (by decide) rfl rfl ?_
        refine AW.iload (pc := 84) dX5_found_84 rfl ?_
        refine AW.bipush (v := 8) (pc := 86) dX5_found_86 (by decide) ?_
        by_cases h8 : kd = 8
        · subst h8
          refine AW.icmp_ne (pc := 88) (tgt := 130) dX5_found_88 (by decide) (fun c => absurd (rfl) c) (fun _ => ?_)
          refine AW.aload_n (pc := 91) dX5_found_91 rfl rfl ?_
          refine AW.bipush (v := -2) (pc := 92) dX5_found_92 (by decide) ?_
          refine AW.iload (pc := 94) dX5_found_94 rfl ?_
          refine AW.aload_n (pc := 96) dX5_found_96 rfl rfl ?_
          refine AW.iload_n (pc := 97) dX5_found_97 rfl rfl ?_
          refine AW.iload_n (pc := 98) dX5_found_98 rfl rfl ?_
          refine AW.callVz (pc := 99) (S' := [.int (nI n), .int (-2 : Int32), .ref 1]) dX5_found_99 (c_F_from (d := d - 1) (N := n) (by omega) (by omega) hL hF2 (by omega) (by omega) (by omega)) hk0 ok_X5_from tw_770 ts_33 tw_768 (by decide) (hO2) (show aw_cl[5]? = some _ from rfl) rfl rfl (by omega) rfl (Nat.le_of_ble_eq_true rfl) (by omega) (by omega) ?_ (fun E h' k' hq => by obtain ⟨_, _, hx9, -⟩ := hq; try cases hx9)
          intro v h' k' hq
          obtain ⟨a, ha, hx9, hF3, rfl⟩ := hq
          cases hx9
          show AW _ _ _ _ _ _ _ 102 [.ref 1, .int 0, .int (nI mo), .int (nI n), .int (nI dl), .int (nI 8), .int (nI n)] [.int (nI a), .int (nI n), .int (-2 : Int32), .ref 1] h' k cs ss
          obtain ⟨fs3, hO3⟩ := hF3.obj
          refine AW.aload_n (pc := 102) dX5_found_102 rfl rfl ?_
          refine AW.iconst (v := 3) (pc := 103) dX5_found_103 (by decide) ?_
          refine AW.callVz (pc := 104) (S' := [.int (nI a), .int (nI n), .int (-2 : Int32), .ref 1]) dX5_found_104 (c_F_draw (d := d - 1) (N := 3) (by omega) (by omega) hL hF3 (by omega) (by omega) (by omega)) hk0 ok_X5_draw tw_695 tw_696 tw_767 (by decide) (hO3) (show aw_cl[5]? = some _ from rfl) rfl rfl (by omega) rfl (Nat.le_of_ble_eq_true rfl) (by omega) (by omega) ?_ (fun E h' k' hq => by obtain ⟨_, _, hx9, -⟩ := hq; try cases hx9)
          intro v h' k' hq
          obtain ⟨b, hb, hx9, hF4, rfl⟩ := hq
          cases hx9
          show AW _ _ _ _ _ _ _ 107 [.ref 1, .int 0, .int (nI mo), .int (nI n), .int (nI dl), .int (nI 8), .int (nI n)] [.int (nI b), .int (nI a), .int (nI n), .int (-2 : Int32), .ref 1] h' k cs ss
          obtain ⟨fs4, hO4⟩ := hF4.obj
          refine AW.aload_n (pc := 107) dX5_found_107 rfl rfl ?_
          refine AW.iconst (v := 2) (pc := 108) dX5_found_108 (by decide) ?_
          refine AW.callVz (pc := 109) (S' := [.int (nI b), .int (nI a), .int (nI n), .int (-2 : Int32), .ref 1]) dX5_found_109 (c_F_draw (d := d - 1) (N := 2) (by omega) (by omega) hL hF4 (by omega) (by omega) (by omega)) hk0 ok_X5_draw tw_695 tw_696 tw_767 (by decide) (hO4) (show aw_cl[5]? = some _ from rfl) rfl rfl (by omega) rfl (Nat.le_of_ble_eq_true rfl) (by omega) (by omega) ?_ (fun E h' k' hq => by obtain ⟨_, _, hx9, -⟩ := hq; try cases hx9)
          intro v h' k' hq
          obtain ⟨c, hc, hx9, hF5, rfl⟩ := hq
          cases hx9
          show AW _ _ _ _ _ _ _ 112 [.ref 1, .int 0, .int (nI mo), .int (nI n), .int (nI dl), .int (nI 8), .int (nI n)] [.int (nI c), .int (nI b), .int (nI a), .int (nI n), .int (-2 : Int32), .ref 1] h' k cs ss
          obtain ⟨fs5, hO5⟩ := hF5.obj
          refine AW.if_ne (pc := 112) (tgt := 119) dX5_found_112 (by decide) (fun c0 => ?_) (fun c0 => ?_)
          · refine AW.iconst (v := 3) (pc := 119) dX5_found_119 (by decide) ?_
            refine AW.iload (pc := 120) dX5_found_120 rfl ?_
            refine AW.callV (pc := 122) (S' := []) dX5_found_122 (c_F_putr (d := d - 1) (by omega) (by omega) hF5 (by omega) (by omega) ha hb (Or.inr rfl) hdl) ok_X5_put tw_712 ts_26 tw_710 (by decide) (hO5) (show aw_cl[5]? = some _ from rfl) rfl rfl (by omega) rfl (Nat.le_of_ble_eq_true rfl) (by omega) (by omega) ?_ (fun E h' k' hq => by obtain ⟨hx9, -⟩ := hq; try cases hx9)
            intro v h' k' hq
            obtain ⟨hx9, rfl, hFz⟩ := hq
            cases hx9
            show AW _ _ _ _ _ _ _ 125 [.ref 1, .int 0, .int (nI mo), .int (nI n), .int (nI dl), .int (nI 8), .int (nI n)] [.int 1] h' (k + 1) (cs + 7) (ss + 44)
            refine AW.if_ne (pc := 125) (tgt := 130) dX5_found_125 (by decide) (fun _ => ?_) (fun c => absurd c (by decide))
            refine AW.iload (pc := 130) dX5_found_130 rfl ?_
            refine AW.bipush (v := 8) (pc := 132) dX5_found_132 (by decide) ?_
            refine AW.icmp_ge (pc := 134) (tgt := 191) dX5_found_134 (by decide) (fun _ => ?_) (fun c => absurd (by decide) c)
            refine AW.iinc (v := ((nI n) + 1)) (L' := [.ref 1, .int 0, .int (nI mo), .int ((nI n) + 1), .int (nI dl), .int (nI 8), .int (nI n)]) (pc := 191) dX5_found_191 rfl rfl (by decide) rfl rfl ?_
            rw [nI_1 n]
            refine AW.goto (pc := 194) (tgt := 40) dX5_found_194 (by decide) ?_
            refine AW.locals (L' := [.ref 1, .int 0, .int (nI mo), .int (nI (n + 1)), .null, .null, .null]) (aw_fewer_same (aw_fewer_same (aw_fewer_same (aw_fewer_same (aw_fewer_null (aw_fewer_null (aw_fewer_null aw_fewer_nil))))))) ?_
            exact ih (n + 1) _ _ _ _ _ (by omega) (by omega) (by omega) (by omega) (by omega) hFz (by omega)
          · refine AW.iconst (v := -1) (pc := 115) dX5_found_115 (by decide) ?_
            refine AW.goto (pc := 116) (tgt := 120) dX5_found_116 (by decide) ?_
            refine AW.iload (pc := 120) dX5_found_120 rfl ?_
            refine AW.callV (pc := 122) (S' := []) dX5_found_122 (c_F_putr (d := d - 1) (by omega) (by omega) hF5 (by omega) (by omega) ha hb (Or.inl rfl) hdl) ok_X5_put tw_712 ts_26 tw_710 (by decide) (hO5) (show aw_cl[5]? = some _ from rfl) rfl rfl (by omega) rfl (Nat.le_of_ble_eq_true rfl) (by omega) (by omega) ?_ (fun E h' k' hq => by obtain ⟨hx9, -⟩ := hq; try cases hx9)
            intro v h' k' hq
            obtain ⟨hx9, rfl, hFz⟩ := hq
            cases hx9
            show AW _ _ _ _ _ _ _ 125 [.ref 1, .int 0, .int (nI mo), .int (nI n), .int (nI dl), .int (nI 8), .int (nI n)] [.int 1] h' (k + 1) (cs + 7) (ss + 44)
            refine AW.if_ne (pc := 125) (tgt := 130) dX5_found_125 (by decide) (fun _ => ?_) (fun c => absurd c (by decide))
            refine AW.iload (pc := 130) dX5_found_130 rfl ?_
            refine AW.bipush (v := 8) (pc := 132) dX5_found_132 (by decide) ?_
            refine AW.icmp_ge (pc := 134) (tgt := 191) dX5_found_134 (by decide) (fun _ => ?_) (fun c => absurd (by decide) c)
            refine AW.iinc (v := ((nI n) + 1)) (L' := [.ref 1, .int 0, .int (nI mo), .int ((nI n) + 1), .int (nI dl), .int (nI 8), .int (nI n)]) (pc := 191) dX5_found_191 rfl rfl (by decide) rfl rfl ?_
            rw [nI_1 n]
            refine AW.goto (pc := 194) (tgt := 40) dX5_found_194 (by decide) ?_
            refine AW.locals (L' := [.ref 1, .int 0, .int (nI mo), .int (nI (n + 1)), .null, .null, .null]) (aw_fewer_same (aw_fewer_same (aw_fewer_same (aw_fewer_same (aw_fewer_null (aw_fewer_null (aw_fewer_null aw_fewer_nil))))))) ?_
            exact ih (n + 1) _ _ _ _ _ (by omega) (by omega) (by omega) (by omega) (by omega) hFz (by omega)
        · have hk8 : kd < 8 := by omega
          refine AW.icmp_ne (pc := 88) (tgt := 130) dX5_found_88 (by decide) (fun _ => ?_) (fun c => absurd c (fun e => h8 ((nI_eq (b := 8) (by omega) (by decide)).mp e)))
          refine AW.iload (pc := 130) dX5_found_130 rfl ?_
          refine AW.bipush (v := 8) (pc := 132) dX5_found_132 (by decide) ?_
          refine AW.icmp_ge (pc := 134) (tgt := 191) dX5_found_134 (by decide) (fun c => absurd c (nI_ge (b := 8) (by omega) (by decide))) (fun _ => ?_)
          refine AW.aload_n (pc := 137) dX5_found_137 rfl rfl ?_
          refine AW.iload (pc := 138) dX5_found_138 rfl ?_
          refine AW.iload (pc := 140) dX5_found_140 rfl ?_
          refine AW.aload_n (pc := 142) dX5_found_142 rfl rfl ?_
          refine AW.iload_n (pc := 143) dX5_found_143 rfl rfl ?_
          refine AW.iload_n (pc := 144) dX5_found_144 rfl rfl ?_
          refine AW.callVz (pc := 145) (S' := [.int (nI n), .int (nI kd), .ref 1]) dX5_found_145 (c_F_from (d := d - 1) (N := n) (by omega) (by omega) hL hF2 (by omega) (by omega) (by omega)) hk0 ok_X5_from tw_770 ts_33 tw_768 (by decide) (hO2) (show aw_cl[5]? = some _ from rfl) rfl rfl (by omega) rfl (Nat.le_of_ble_eq_true rfl) (by omega) (by omega) ?_ (fun E h' k' hq => by obtain ⟨_, _, hx9, -⟩ := hq; try cases hx9)
          intro v h' k' hq
          obtain ⟨a, ha, hx9, hF3, rfl⟩ := hq
          cases hx9
          show AW _ _ _ _ _ _ _ 148 [.ref 1, .int 0, .int (nI mo), .int (nI n), .int (nI dl), .int (nI kd), .int (nI n)] [.int (nI a), .int (nI n), .int (nI kd), .ref 1] h' k cs ss
          obtain ⟨fs3, hO3⟩ := hF3.obj
          refine AW.iload (pc := 148) dX5_found_148 rfl ?_
          refine AW.iconst (v := 2) (pc := 150) dX5_found_150 (by decide) ?_
          by_cases c2 : kd < 2
          · have h2 : kd < 2 := c2
            refine AW.icmp_ge (pc := 151) (tgt := 158) dX5_found_151 (by decide) (fun c => absurd c (fun e => absurd ((nI_leI (a := 2) (by decide) (by omega)).mp e) (by omega))) (fun _ => ?_)
            refine AW.iconst (v := -1) (pc := 154) dX5_found_154 (by decide) ?_
            refine AW.goto (pc := 155) (tgt := 164) dX5_found_155 (by decide) ?_
            refine AW.iload (pc := 164) dX5_found_164 rfl ?_
            refine AW.bipush (v := 7) (pc := 166) dX5_found_166 (by decide) ?_
            refine AW.icmp_ge (pc := 168) (tgt := 175) dX5_found_168 (by decide) (fun c => absurd c (fun e => absurd ((nI_leI (a := 7) (by decide) (by omega)).mp e) (by omega))) (fun _ => ?_)
            refine AW.iconst (v := -1) (pc := 171) dX5_found_171 (by decide) ?_
            refine AW.goto (pc := 172) (tgt := 181) dX5_found_172 (by decide) ?_
            refine AW.iload (pc := 181) dX5_found_181 rfl ?_
            refine AW.callV (pc := 183) (S' := []) dX5_found_183 (c_F_putg (d := d - 1) (by omega) (by omega) hF3 (by omega) (by omega) hk8 ha (by rw [if_pos h2]) (by rw [if_pos (by omega)]) hdl) ok_X5_put tw_712 ts_26 tw_710 (by decide) (hO3) (show aw_cl[5]? = some _ from rfl) rfl rfl (by omega) rfl (Nat.le_of_ble_eq_true rfl) (by omega) (by omega) ?_ (fun E h' k' hq => by obtain ⟨hx9, -⟩ := hq; try cases hx9)
            intro v h' k' hq
            obtain ⟨hx9, rfl, hFz⟩ := hq
            cases hx9
            show AW _ _ _ _ _ _ _ 186 [.ref 1, .int 0, .int (nI mo), .int (nI n), .int (nI dl), .int (nI kd), .int (nI n)] [.int 1] h' (k + 1) (cs + 7) (ss + 44)
            refine AW.if_ne (pc := 186) (tgt := 191) dX5_found_186 (by decide) (fun _ => ?_) (fun c => absurd c (by decide))
            refine AW.iinc (v := ((nI n) + 1)) (L' := [.ref 1, .int 0, .int (nI mo), .int ((nI n) + 1), .int (nI dl), .int (nI kd), .int (nI n)]) (pc := 191) dX5_found_191 rfl rfl (by decide) rfl rfl ?_
            rw [nI_1 n]
            refine AW.goto (pc := 194) (tgt := 40) dX5_found_194 (by decide) ?_
            refine AW.locals (L' := [.ref 1, .int 0, .int (nI mo), .int (nI (n + 1)), .null, .null, .null]) (aw_fewer_same (aw_fewer_same (aw_fewer_same (aw_fewer_same (aw_fewer_null (aw_fewer_null (aw_fewer_null aw_fewer_nil))))))) ?_
            exact ih (n + 1) _ _ _ _ _ (by omega) (by omega) (by omega) (by omega) (by omega) hFz (by omega)
          · refine AW.icmp_ge (pc := 151) (tgt := 158) dX5_found_151 (by decide) (fun _ => ?_) (fun c => absurd ((nI_leI (a := 2) (by decide) (by omega)).mpr (by omega)) c)
            refine AW.aload_n (pc := 158) dX5_found_158 rfl rfl ?_
            refine AW.iload_n (pc := 159) dX5_found_159 rfl rfl ?_
            refine AW.iload_n (pc := 160) dX5_found_160 rfl rfl ?_
            refine AW.callVz (pc := 161) (S' := [.int (nI a), .int (nI n), .int (nI kd), .ref 1]) dX5_found_161 (c_F_from (d := d - 1) (N := n) (by omega) (by omega) hL hF3 (by omega) (by omega) (by omega)) hk0 ok_X5_from tw_770 ts_33 tw_768 (by decide) (hO3) (show aw_cl[5]? = some _ from rfl) rfl rfl (by omega) rfl (Nat.le_of_ble_eq_true rfl) (by omega) (by omega) ?_ (fun E h' k' hq => by obtain ⟨_, _, hx9, -⟩ := hq; try cases hx9)
            intro v h' k' hq
            obtain ⟨b, hb, hx9, hF4, rfl⟩ := hq
            cases hx9
            show AW _ _ _ _ _ _ _ 164 [.ref 1, .int 0, .int (nI mo), .int (nI n), .int (nI dl), .int (nI kd), .int (nI n)] [.int (nI b), .int (nI a), .int (nI n), .int (nI kd), .ref 1] h' k cs ss
            obtain ⟨fs4, hO4⟩ := hF4.obj
            refine AW.iload (pc := 164) dX5_found_164 rfl ?_
            refine AW.bipush (v := 7) (pc := 166) dX5_found_166 (by decide) ?_
            by_cases c7 : kd < 7
            · refine AW.icmp_ge (pc := 168) (tgt := 175) dX5_found_168 (by decide) (fun c => absurd c (fun e => absurd ((nI_leI (a := 7) (by decide) (by omega)).mp e) (by omega))) (fun _ => ?_)
              refine AW.iconst (v := -1) (pc := 171) dX5_found_171 (by decide) ?_
              refine AW.goto (pc := 172) (tgt := 181) dX5_found_172 (by decide) ?_
              refine AW.iload (pc := 181) dX5_found_181 rfl ?_
              refine AW.callV (pc := 183) (S' := []) dX5_found_183 (c_F_putg (d := d - 1) (by omega) (by omega) hF4 (by omega) (by omega) hk8 ha (by rw [if_neg c2]; exact ⟨b, hb, rfl⟩) (by rw [if_pos c7]) hdl) ok_X5_put tw_712 ts_26 tw_710 (by decide) (hO4) (show aw_cl[5]? = some _ from rfl) rfl rfl (by omega) rfl (Nat.le_of_ble_eq_true rfl) (by omega) (by omega) ?_ (fun E h' k' hq => by obtain ⟨hx9, -⟩ := hq; try cases hx9)
              intro v h' k' hq
              obtain ⟨hx9, rfl, hFz⟩ := hq
              cases hx9
              show AW _ _ _ _ _ _ _ 186 [.ref 1, .int 0, .int (nI mo), .int (nI n), .int (nI dl), .int (nI kd), .int (nI n)] [.int 1] h' (k + 1) (cs + 7) (ss + 44)
              refine AW.if_ne (pc := 186) (tgt := 191) dX5_found_186 (by decide) (fun _ => ?_) (fun c => absurd c (by decide))
              refine AW.iinc (v := ((nI n) + 1)) (L' := [.ref 1, .int 0, .int (nI mo), .int ((nI n) + 1), .int (nI dl), .int (nI kd), .int (nI n)]) (pc := 191) dX5_found_191 rfl rfl (by decide) rfl rfl ?_
              rw [nI_1 n]
              refine AW.goto (pc := 194) (tgt := 40) dX5_found_194 (by decide) ?_
              refine AW.locals (L' := [.ref 1, .int 0, .int (nI mo), .int (nI (n + 1)), .null, .null, .null]) (aw_fewer_same (aw_fewer_same (aw_fewer_same (aw_fewer_same (aw_fewer_null (aw_fewer_null (aw_fewer_null aw_fewer_nil))))))) ?_
              exact ih (n + 1) _ _ _ _ _ (by omega) (by omega) (by omega) (by omega) (by omega) hFz (by omega)
            · refine AW.icmp_ge (pc := 168) (tgt := 175) dX5_found_168 (by decide) (fun _ => ?_) (fun c => absurd ((nI_leI (a := 7) (by decide) (by omega)).mpr (by omega)) c)
              refine AW.aload_n (pc := 175) dX5_found_175 rfl rfl ?_
              refine AW.iload_n (pc := 176) dX5_found_176 rfl rfl ?_
              refine AW.iload_n (pc := 177) dX5_found_177 rfl rfl ?_
              refine AW.callVz (pc := 178) (S' := [.int (nI b), .int (nI a), .int (nI n), .int (nI kd), .ref 1]) dX5_found_178 (c_F_from (d := d - 1) (N := n) (by omega) (by omega) hL hF4 (by omega) (by omega) (by omega)) hk0 ok_X5_from tw_770 ts_33 tw_768 (by decide) (hO4) (show aw_cl[5]? = some _ from rfl) rfl rfl (by omega) rfl (Nat.le_of_ble_eq_true rfl) (by omega) (by omega) ?_ (fun E h' k' hq => by obtain ⟨_, _, hx9, -⟩ := hq; try cases hx9)
              intro v h' k' hq
              obtain ⟨c, hc, hx9, hF5, rfl⟩ := hq
              cases hx9
              show AW _ _ _ _ _ _ _ 181 [.ref 1, .int 0, .int (nI mo), .int (nI n), .int (nI dl), .int (nI kd), .int (nI n)] [.int (nI c), .int (nI b), .int (nI a), .int (nI n), .int (nI kd), .ref 1] h' k cs ss
              obtain ⟨fs5, hO5⟩ := hF5.obj
              refine AW.iload (pc := 181) dX5_found_181 rfl ?_
              refine AW.callV (pc := 183) (S' := []) dX5_found_183 (c_F_putg (d := d - 1) (by omega) (by omega) hF5 (by omega) (by omega) hk8 ha (by rw [if_neg c2]; exact ⟨b, hb, rfl⟩) (by rw [if_neg c7]; exact ⟨c, hc, rfl⟩) hdl) ok_X5_put tw_712 ts_26 tw_710 (by decide) (hO5) (show aw_cl[5]? = some _ from rfl) rfl rfl (by omega) rfl (Nat.le_of_ble_eq_true rfl) (by omega) (by omega) ?_ (fun E h' k' hq => by obtain ⟨hx9, -⟩ := hq; try cases hx9)
              intro v h' k' hq
              obtain ⟨hx9, rfl, hFz⟩ := hq
              cases hx9
              show AW _ _ _ _ _ _ _ 186 [.ref 1, .int 0, .int (nI mo), .int (nI n), .int (nI dl), .int (nI kd), .int (nI n)] [.int 1] h' (k + 1) (cs + 7) (ss + 44)
              refine AW.if_ne (pc := 186) (tgt := 191) dX5_found_186 (by decide) (fun _ => ?_) (fun c => absurd c (by decide))
              refine AW.iinc (v := ((nI n) + 1)) (L' := [.ref 1, .int 0, .int (nI mo), .int ((nI n) + 1), .int (nI dl), .int (nI kd), .int (nI n)]) (pc := 191) dX5_found_191 rfl rfl (by decide) rfl rfl ?_
              rw [nI_1 n]
              refine AW.goto (pc := 194) (tgt := 40) dX5_found_194 (by decide) ?_
              refine AW.locals (L' := [.ref 1, .int 0, .int (nI mo), .int (nI (n + 1)), .null, .null, .null]) (aw_fewer_same (aw_fewer_same (aw_fewer_same (aw_fewer_same (aw_fewer_null (aw_fewer_null (aw_fewer_null aw_fewer_nil))))))) ?_
              exact ih (n + 1) _ _ _ _ _ (by omega) (by omega) (by omega) (by omega) (by omega) hFz (by omega)
    intro n q2 h2 k cs ss hn h4 hq2 hcs hss hF0 hk
    exact k40 (mo - n) n q2 h2 k cs ss (by omega) h4 hq2 hcs hss hF0 hk
  have k2 : ∀ (r n : Nat) (h2 : Hp) (k cs ss : Nat), n + r = 4 → cs = 7 * n → ss = 44 * n → FD h0 h2 wi pe hz q n → k = 79 + n → AW (aw_ZL Ls xs) mX5_found d 79 119 748 (fun oc h' k' => oc = .inl (some (.int 1)) ∧ ∃ (n' q' : Nat), 12 ≤ n' ∧ k' = 79 + n' ∧ q' ≤ q + 200 ∧ FD h0 h' wi pe hz q' n')  2 [.ref 1, .int 0, .int (nI n), .null, .null, .null, .null] [] h2 k cs ss := by
    intro r
    induction r with
    | zero =>
      intro n h2 k cs ss hr hcs hss hF0 hk
      refine AW.iload_n (pc := 2) dX5_found_2 rfl rfl ?_
      refine AW.iconst (v := 4) (pc := 3) dX5_found_3 (by decide) ?_
      refine AW.icmp_ge (pc := 4) (tgt := 28) dX5_found_4 (by decide) (fun _ => ?_) (fun c => absurd (nI_le (a := 4) (by omega) (by omega)) c)
      refine AW.bipush (v := 12) (pc := 28) dX5_found_28 (by decide) ?_
      refine AW.aload_n (pc := 30) dX5_found_30 rfl rfl ?_
      refine AW.bipush (v := 6) (pc := 31) dX5_found_31 (by decide) ?_
      obtain ⟨fs0, hO0⟩ := hF0.obj
      refine AW.callVz (pc := 33) (S' := [.int (12 : Int32)]) dX5_found_33 (c_F_draw (d := d - 1) (N := 6) (by omega) (by omega) hL hF0 (by omega) (by omega) (by omega)) hk0 ok_X5_draw tw_695 tw_696 tw_767 (by decide) (hO0) (show aw_cl[5]? = some _ from rfl) rfl rfl (by omega) rfl (Nat.le_of_ble_eq_true rfl) (by omega) (by omega) ?_ (fun E h' k' hq => by obtain ⟨_, _, hx9, -⟩ := hq; try cases hx9)
      intro v h' k' hq
      obtain ⟨a, ha, hx9, hF1, rfl⟩ := hq
      cases hx9
      show AW _ _ _ _ _ _ _ 36 [.ref 1, .int 0, .int (nI n), .null, .null, .null, .null] [.int (nI a), .int (12 : Int32)] h' k cs ss
      obtain ⟨fs1, hO1⟩ := hF1.obj
      refine AW.iadd (pc := 36) dX5_found_36 ?_
      rw [show (12 : Int32) + nI a = nI (12 + a) from nI_add 12 a]
      refine AW.istore_n (L' := [.ref 1, .int 0, .int (nI (12 + a)), .null, .null, .null, .null]) (pc := 37) dX5_found_37 rfl (by decide) rfl rfl ?_
      refine AW.iconst (v := 4) (pc := 38) dX5_found_38 (by decide) ?_
      refine AW.istore_n (L' := [.ref 1, .int 0, .int (nI (12 + a)), .int (4 : Int32), .null, .null, .null]) (pc := 39) dX5_found_39 rfl (by decide) rfl rfl ?_
      exact K40 (12 + a) (by omega) (by omega) 4 (q + 1) _ _ _ _ (by omega) (by omega) (by omega) (by omega) (by omega) (by rw [show n = 4 by omega] at hF1; exact hF1) (by omega)
    | succ r ih =>
      intro n h2 k cs ss hr hcs hss hF0 hk
      refine AW.iload_n (pc := 2) dX5_found_2 rfl rfl ?_
      refine AW.iconst (v := 4) (pc := 3) dX5_found_3 (by decide) ?_
      refine AW.icmp_ge (pc := 4) (tgt := 28) dX5_found_4 (by decide) (fun c => absurd c (nI_ge (b := 4) (by omega) (by decide))) (fun _ => ?_)
      refine AW.aload_n (pc := 7) dX5_found_7 rfl rfl ?_
      refine AW.iconst (v := -1) (pc := 8) dX5_found_8 (by decide) ?_
      refine AW.iload_n (pc := 9) dX5_found_9 rfl rfl ?_
      refine AW.iconst (v := -1) (pc := 10) dX5_found_10 (by decide) ?_
      refine AW.iconst (v := -1) (pc := 11) dX5_found_11 (by decide) ?_
      refine AW.iconst (v := -1) (pc := 12) dX5_found_12 (by decide) ?_
      refine AW.iconst (v := 0) (pc := 13) dX5_found_13 (by decide) ?_
      obtain ⟨fs0, hO0⟩ := hF0.obj
      refine AW.callV (pc := 14) (S' := []) dX5_found_14 (c_F_puti (d := d - 1) (by omega) hk hF0 (by omega)) ok_X5_put tw_712 ts_26 tw_710 (by decide) (hO0) (show aw_cl[5]? = some _ from rfl) rfl rfl (by omega) rfl (Nat.le_of_ble_eq_true rfl) (by omega) (by omega) ?_ (fun E h' k' hq => by obtain ⟨hx9, -⟩ := hq; try cases hx9)
      intro v h' k' hq
      obtain ⟨hx9, rfl, hFz⟩ := hq
      cases hx9
      show AW _ _ _ _ _ _ _ 17 [.ref 1, .int 0, .int (nI n), .null, .null, .null, .null] [.int 1] h' (k + 1) (cs + 7) (ss + 44)
      refine AW.if_ne (pc := 17) (tgt := 22) dX5_found_17 (by decide) (fun _ => ?_) (fun c => absurd c (by decide))
      refine AW.iinc (v := ((nI n) + 1)) (L' := [.ref 1, .int 0, .int ((nI n) + 1), .null, .null, .null, .null]) (pc := 22) dX5_found_22 rfl rfl (by decide) rfl rfl ?_
      rw [nI_1 n]
      refine AW.goto (pc := 25) (tgt := 2) dX5_found_25 (by decide) ?_
      exact ih (n + 1) _ _ _ _ (by omega) (by omega) (by omega) hFz (by omega)
  refine AW.iconst (v := 0) (pc := 0) dX5_found_0 (by decide) ?_
  refine AW.istore_n (L' := [.ref 1, .int 0, .int (0 : Int32), .null, .null, .null, .null]) (pc := 1) dX5_found_1 rfl (by decide) rfl rfl ?_
  exact k2 4 0 _ _ _ _ (by omega) (by omega) (by omega) hF (by omega)
