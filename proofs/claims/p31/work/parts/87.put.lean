/-! a line is put -/
def r8 (kd w a b c dl : Int32) : Nat → Int32 := upd (upd (upd (upd (upd (upd (upd (upd (fun _ => 0) 0 kd) 1 w) 2 a) 3 b) 4 c) 5 dl) 6 0) 7 0
def Tn (T : Nat → Nat → Int32) (n : Nat) (r : Nat → Int32) (l : Nat) : Nat → Int32 := if l = n then r else T l
/-- the class's circuit is the bench's -/
def TG (T : Nat → Nat → Int32) (g : Mem) (n : Nat) : Prop := (∀ l, l < n → g 48 l = T l 0 ∧ g 49 l = T l 1 ∧ g 50 l = T l 2 ∧ g 51 l = T l 3 ∧ g 52 l = T l 4 ∧ g 53 l = T l 5) ∧ ∀ l, l < 30 → g 54 l = 0 ∧ g 55 l = 0
theorem TG.add {T : Nat → Nat → Int32} {g : Mem} {n : Nat} {kd w a b c dl : Int32} (h : TG T g n) : TG (Tn T n (r8 kd w a b c dl)) (gadd g n kd w a b c dl) (n + 1) := by
  refine ⟨fun l hl => ?_, fun l hl => by rw [ga54, ga55]; exact h.2 l hl⟩
  rw [ga48, ga49, ga50, ga51, ga52, ga53]
  unfold Tn
  by_cases e : l = n
  · rw [if_pos e, if_pos e, if_pos e, if_pos e, if_pos e, if_pos e, if_pos e]; exact ⟨rfl, rfl, rfl, rfl, rfl, rfl⟩
  · rw [if_neg e, if_neg e, if_neg e, if_neg e, if_neg e, if_neg e, if_neg e]; exact h.1 l (by omega)
def gR (r : Nat → Int32) (l : Nat) : Prop := r 1 = nI l ∧ r 6 = 0 ∧ r 7 = 0 ∧ ((l < 4 ∧ r 0 = -1 ∧ r 2 = -1 ∧ r 3 = -1 ∧ r 4 = -1 ∧ r 5 = 0) ∨
  (4 ≤ l ∧ (∃ q : Nat, q < 5 ∧ r 5 = nI q) ∧ (∃ a : Nat, a < l ∧ r 2 = nI a) ∧ ((r 0 = -2 ∧ (∃ c : Nat, c < 3 ∧ r 3 = nI c) ∧ (r 4 = -1 ∨ r 4 = 3)) ∨
    (∃ q : Nat, q < 8 ∧ r 0 = nI q ∧ (if q < 2 then r 3 = -1 else ∃ b : Nat, b < l ∧ r 3 = nI b) ∧ (if q < 7 then r 4 = -1 else ∃ c : Nat, c < l ∧ r 4 = nI c)))))
theorem gT.add {T : Nat → Nat → Int32} {n : Nat} {r : Nat → Int32} (h : gT T n) (hn : n < 17) (hr : gR r n) : gT (Tn T n r) (n + 1) := by
  refine ⟨hn, fun l hl => ?_⟩
  unfold Tn
  by_cases e : l = n
  · rw [if_pos e, e]; exact hr
  · rw [if_neg e]; exact h.2 l (by omega)
theorem lnf_add {n : Nat} : va_up (lnf n) n (some (79 + n)) = lnf (n + 1) := by
  funext l
  unfold va_up lnf
  by_cases e : l = n
  · rw [if_pos e, if_pos (by omega), e]
  · rw [if_neg e]
    by_cases q : l < n
    · rw [if_pos q, if_pos (by omega)]
    · rw [if_neg q, if_neg (by omega)]
def FB (k : Nat) (h h' : Hp) : Prop := ∀ i, 49 ≤ i → i < k → h' i = h i
theorem FB.trans {k k2 : Nat} {a b c : Hp} (h1 : FB k a b) (h2 : FB k2 b c) (hk : k ≤ k2) : FB k a c := fun i i0 ik => (h2 i i0 (by omega)).trans (h1 i i0 ik)
theorem BN.add {h h3 : Hp} {x x2 : Nat → Int32} {wi pe hz n : Nat} {T : Nat → Nat → Int32} {r : Nat → Int32} (hB : BN h x wi pe hz n T) (hn : n < 24) (h1 : h3 1 = .inr (5, bf x2 wi pe hz)) (hx : x2 3 = nI (n + 1)) (h48 : h3 48 = qrow 30 (lnf (n + 1))) (hl : ∀ l, l < n → h3 (79 + l) = h (79 + l)) (hr : h3 (79 + n) = irow 8 r) : BN h3 x2 wi pe hz (n + 1) (Tn T n r) :=
  ⟨h1, ⟨hx, hn⟩, h48, fun l hl2 => by
    unfold Tn
    by_cases e : l = n
    · rw [if_pos e, e]; exact hr
    · rw [if_neg e]; exact (hl l (by omega)).trans (hB.2.2.2 l (by omega))⟩
abbrev mX5_put : Mt := (yX5_put, cX5_put, 9, (some .boolean), [])
set_option maxRecDepth 20000 in
theorem ok_X5_put : aw_mok mX5_put 6 := ⟨rfl, tw_713, tw_1, ⟨by decide, by decide⟩, by decide +kernel, by decide⟩
theorem nIm2 {a : Nat} (h : a < 2 ^ 31) : ¬ nI a = -2 := fun e => by
  have := congrArg Int32.toInt e
  rw [nI_toInt (by omega), show (-2 : Int32).toInt = -2 by decide] at this
  omega
set_option maxRecDepth 100000 in
set_option maxHeartbeats 4000000 in
theorem c_B_puti {h : Hp} {x : Nat → Int32} {wi pe hz n j : Nat} {T : Nat → Nat → Int32} {m g : Mem} {d k : Nat}  (hd : 9 ≤ d) (hk : k = 79 + n) (hB : BN h x wi pe hz n T) (hC : CLS h m) (hI : Iv j m g n) (hn : n < 24) : AM mX5_put d [.ref 1, .int (-1), .int (nI n), .int (-1), .int (-1), .int (-1), .int 0] h k 7 44 (fun oc h' k' => oc = .inl (some (.int 1)) ∧ k + 1 = k' ∧ BN h' (upd (upd x 5 0) 3 (nI (n + 1))) wi pe hz (n + 1) (Tn T n (r8 (-1) (nI n) (-1) (-1) (-1) 0)) ∧ (∃ m', CLS h' m' ∧ Iv (j + 1) m' (gadd g n (-1) (nI n) (-1) (-1) (-1) 0) (n + 1)) ∧ FB k h h') := by
  refine AM.intro (n := 2) (by decide) rfl rfl rfl ?_
  refine AW.bipush (v := 8) (pc := 0) dX5_put_0 (by decide) ?_
  refine AW.newa (ty := .int) (N := 8) (a0 := (8, .inl (fun _ => 0))) (pc := 2) dX5_put_2 rfl (Or.inl rfl) tw_501 (fun _ => rfl) (by decide) (by decide) (by decide) (by omega) (by omega) ?_
  show AW _ _ _ _ _ _ _ 4 [.ref 1, .int (-1), .int (nI n), .int (-1), .int (-1), .int (-1), .int 0, .null, .null] [.ref k] (va_up h k (.inl (.int, 8, .inl (fun _ => 0)))) (k + 1) (0 + 1) (0 + 8)
  refine AW.dup (pc := 4) dX5_put_4 rfl ?_
  refine AW.iconst (v := 0) (pc := 5) dX5_put_5 (by decide) ?_
  refine AW.iload_n (pc := 6) dX5_put_6 rfl rfl ?_
  refine AW.iast2 (pc := 7) (n := 8) (g := (fun _ => 0)) (j := 0) dX5_put_7 (by omega) (up_same) (vp_lit (by decide)) (by decide) ?_
  rw [up_up]
  refine AW.dup (pc := 8) dX5_put_8 rfl ?_
  refine AW.iconst (v := 1) (pc := 9) dX5_put_9 (by decide) ?_
  refine AW.iload_n (pc := 10) dX5_put_10 rfl rfl ?_
  refine AW.iast2 (pc := 11) (n := 8) (g := (upd (fun _ => 0) 0 (-1))) (j := 1) dX5_put_11 (by omega) (up_same) (vp_lit (by decide)) (by decide) ?_
  rw [up_up]
  refine AW.dup (pc := 12) dX5_put_12 rfl ?_
  refine AW.iconst (v := 2) (pc := 13) dX5_put_13 (by decide) ?_
  refine AW.iload_n (pc := 14) dX5_put_14 rfl rfl ?_
  refine AW.iast2 (pc := 15) (n := 8) (g := (upd (upd (fun _ => 0) 0 (-1)) 1 (nI n))) (j := 2) dX5_put_15 (by omega) (up_same) (vp_lit (by decide)) (by decide) ?_
  rw [up_up]
  refine AW.dup (pc := 16) dX5_put_16 rfl ?_
  refine AW.iconst (v := 3) (pc := 17) dX5_put_17 (by decide) ?_
  refine AW.iload (pc := 18) dX5_put_18 rfl ?_
  refine AW.iast2 (pc := 20) (n := 8) (g := (upd (upd (upd (fun _ => 0) 0 (-1)) 1 (nI n)) 2 (-1))) (j := 3) dX5_put_20 (by omega) (up_same) (vp_lit (by decide)) (by decide) ?_
  rw [up_up]
  refine AW.dup (pc := 21) dX5_put_21 rfl ?_
  refine AW.iconst (v := 4) (pc := 22) dX5_put_22 (by decide) ?_
  refine AW.iload (pc := 23) dX5_put_23 rfl ?_
  refine AW.iast2 (pc := 25) (n := 8) (g := (upd (upd (upd (upd (fun _ => 0) 0 (-1)) 1 (nI n)) 2 (-1)) 3 (-1))) (j := 4) dX5_put_25 (by omega) (up_same) (vp_lit (by decide)) (by decide) ?_
  rw [up_up]
  refine AW.dup (pc := 26) dX5_put_26 rfl ?_
  refine AW.iconst (v := 5) (pc := 27) dX5_put_27 (by decide) ?_
  refine AW.iload (pc := 28) dX5_put_28 rfl ?_
  refine AW.iast2 (pc := 30) (n := 8) (g := (upd (upd (upd (upd (upd (fun _ => 0) 0 (-1)) 1 (nI n)) 2 (-1)) 3 (-1)) 4 (-1))) (j := 5) dX5_put_30 (by omega) (up_same) (vp_lit (by decide)) (by decide) ?_
  rw [up_up]
  refine AW.dup (pc := 31) dX5_put_31 rfl ?_
  refine AW.bipush (v := 6) (pc := 32) dX5_put_32 (by decide) ?_
  refine AW.iconst (v := 0) (pc := 34) dX5_put_34 (by decide) ?_
  refine AW.iast2 (pc := 35) (n := 8) (g := (upd (upd (upd (upd (upd (upd (fun _ => 0) 0 (-1)) 1 (nI n)) 2 (-1)) 3 (-1)) 4 (-1)) 5 0)) (j := 6) dX5_put_35 (by omega) (up_same) (vp_lit (by decide)) (by decide) ?_
  rw [up_up]
  refine AW.dup (pc := 36) dX5_put_36 rfl ?_
  refine AW.bipush (v := 7) (pc := 37) dX5_put_37 (by decide) ?_
  refine AW.iconst (v := 0) (pc := 39) dX5_put_39 (by decide) ?_
  refine AW.iast2 (pc := 40) (n := 8) (g := (upd (upd (upd (upd (upd (upd (upd (fun _ => 0) 0 (-1)) 1 (nI n)) 2 (-1)) 3 (-1)) 4 (-1)) 5 0) 6 (0 : Int32))) (j := 7) dX5_put_40 (by omega) (up_same) (vp_lit (by decide)) (by decide) ?_
  rw [up_up]
  show AW _ _ _ _ _ _ _ 41 [.ref 1, .int (-1), .int (nI n), .int (-1), .int (-1), .int (-1), .int 0, .null, .null] [.ref k] (va_up h k (irow 8 (r8 (-1) (nI n) (-1) (-1) (-1) 0))) (k + 1) (0 + 1) (0 + 8)
  have hB1 := hB.up (q := k) (c := irow 8 (r8 (-1) (nI n) (-1) (-1) (-1) 0)) (by omega) (by omega) (fun l hl => by omega)
  refine AW.astore (L' := [.ref 1, .int (-1), .int (nI n), .int (-1), .int (-1), .int (-1), .int 0, .ref k, .null]) (pc := 41) dX5_put_41 (by decide) rfl rfl ?_
  refine AW.aload_n (pc := 43) dX5_put_43 rfl rfl ?_
  refine AW.get (pc := 44) (i := 1) (ci := 5) (f := 4) (N := 14) (C := RX5) (T := TX5) dX5_put_44 tw_654 rfl (by decide) rfl (by decide) (hB1.1) rfl ?_
  refine AW.aload_n (pc := 47) dX5_put_47 rfl rfl ?_
  refine AW.get (pc := 48) (i := 1) (ci := 5) (f := 3) (N := 14) (C := RX5) (T := TX5) dX5_put_48 tw_653 rfl (by decide) rfl (by decide) (hB1.1) rfl ?_
  refine AW.aload (pc := 51) dX5_put_51 rfl ?_
  rw [hB.2.1.1]
  refine AW.aast (pc := 53) (n := 30) (nv := 8) (f := lnf n) (gv := r8 (-1) (nI n) (-1) (-1) (-1) 0) dX5_put_53 (by decide) hB1.2.2.1 (by omega) up_same (vp_in_nI (by omega) (by decide)) ?_
  rw [nI_clamp (show n < 2 ^ 31 by omega), show k = 79 + n from hk, lnf_add, ← hk]
  show AW _ _ _ _ _ _ _ 54 [.ref 1, .int (-1), .int (nI n), .int (-1), .int (-1), .int (-1), .int 0, .ref k, .null] [] (va_up (va_up h k (irow 8 (r8 (-1) (nI n) (-1) (-1) (-1) 0))) 48 (qrow 30 (lnf (n + 1)))) (k + 1) (0 + 1) (0 + 8)
  refine AW.aload_n (pc := 54) dX5_put_54 rfl rfl ?_
  refine AW.iconst (v := 0) (pc := 55) dX5_put_55 (by decide) ?_
  refine AW.put (pc := 56) (i := 1) (ci := 5) (f := 5) (N := 14) (C := RX5) (T := TX5) (fs' := bf (upd x 5 0) wi pe hz) dX5_put_56 tw_656 rfl (by decide) rfl (by decide) ((up_ne (by decide)).trans hB1.1) (Nat.le_of_ble_eq_true rfl) rfl (fun _ => (by decide : narrow .boolean (Value.int (0 : Int32)) = Value.int (0 : Int32) ∧ fits .boolean (Value.int (0 : Int32)) = true)) rfl ?_
  show AW _ _ _ _ _ _ _ 59 [.ref 1, .int (-1), .int (nI n), .int (-1), .int (-1), .int (-1), .int 0, .ref k, .null] [] (va_up (va_up (va_up h k (irow 8 (r8 (-1) (nI n) (-1) (-1) (-1) 0))) 48 (qrow 30 (lnf (n + 1)))) 1 (.inr (5, bf (upd x 5 0) wi pe hz))) (k + 1) (0 + 1) (0 + 8)
  have hC4 : CLS (va_up (va_up (va_up h k (irow 8 (r8 (-1) (nI n) (-1) (-1) (-1) 0))) 48 (qrow 30 (lnf (n + 1)))) 1 (.inr (5, bf (upd x 5 0) wi pe hz))) m := hC.same fun i i2 i48 => by rw [up_ne (by omega), up_ne (by omega), up_ne (by omega)]
  refine AW.iload_n (pc := 59) dX5_put_59 rfl rfl ?_
  refine AW.iconst (v := -1) (pc := 60) dX5_put_60 (by decide) ?_
  refine AW.icmp_ne (pc := 61) (tgt := 75) dX5_put_61 (by decide) (fun c => absurd (rfl) c) (fun _ => ?_)
  refine AW.aload_n (pc := 64) dX5_put_64 rfl rfl ?_
  refine AW.get (pc := 65) (i := 1) (ci := 5) (f := 0) (N := 14) (C := RX5) (T := TX5) dX5_put_65 tw_648 rfl (by decide) rfl (by decide) (up_same) rfl ?_
  refine AW.iload_n (pc := 68) dX5_put_68 rfl rfl ?_
  refine AW.callAd (pc := 69) (S' := []) dX5_put_69 (k_input (d := d - 1) hI (by omega) (by omega) hn) hC4 (by omega) (by simp [aw_ok]) ok_X4_input tw_715 tw_716 tw_714 rfl rfl (by omega) rfl (Nat.le_of_ble_eq_true rfl) (by omega) (by omega) ?_
  intro m' h' hI' hC' hF'
  show AW _ _ _ _ _ _ _ 72 [.ref 1, .int (-1), .int (nI n), .int (-1), .int (-1), .int (-1), .int 0, .ref k, .null] [.int (nI n)] h' (k + 1) (0 + 1 + 2) (0 + 8 + 12)
  have e1 : h' 1 = .inr (5, bf (upd x 5 0) wi pe hz) := (hF' 1 (by decide) (by omega) (by omega)).trans up_same
  refine AW.goto (pc := 72) (tgt := 115) dX5_put_72 (by decide) ?_
  refine AW.istore (L' := [.ref 1, .int (-1), .int (nI n), .int (-1), .int (-1), .int (-1), .int 0, .ref k, .int (nI n)]) (pc := 115) dX5_put_115 (by decide) rfl rfl ?_
  refine AW.iload (pc := 117) dX5_put_117 rfl ?_
  refine AW.aload_n (pc := 119) dX5_put_119 rfl rfl ?_
  refine AW.dup (pc := 120) dX5_put_120 rfl ?_
  refine AW.get (pc := 121) (i := 1) (ci := 5) (f := 3) (N := 14) (C := RX5) (T := TX5) dX5_put_121 tw_653 rfl (by decide) rfl (by decide) (e1) rfl ?_
  refine AW.dup_x1 (pc := 124) dX5_put_124 rfl rfl ?_
  refine AW.iconst (v := 1) (pc := 125) dX5_put_125 (by decide) ?_
  refine AW.iadd (pc := 126) dX5_put_126 ?_
  rw [show (upd x 5 (0 : Int32)) 3 = nI n from (upd_ne (by decide)).trans hB.2.1.1, nI_1 n]
  show AW _ _ _ _ _ _ _ 127 [.ref 1, .int (-1), .int (nI n), .int (-1), .int (-1), .int (-1), .int 0, .ref k, .int (nI n)] [.int (nI (n + 1)), .ref 1, .int (nI n), .int (nI n)] h' (k + 1) (0 + 1 + 2) (0 + 8 + 12)
  refine AW.put (pc := 127) (i := 1) (ci := 5) (f := 3) (N := 14) (C := RX5) (T := TX5) (fs' := bf (upd (upd x 5 0) 3 (nI (n + 1))) wi pe hz) dX5_put_127 tw_653 rfl (by decide) rfl (by decide) (e1) (Nat.le_of_ble_eq_true rfl) rfl (fun _ => ⟨rfl, rfl⟩) rfl ?_
  show AW _ _ _ _ _ _ _ 130 [.ref 1, .int (-1), .int (nI n), .int (-1), .int (-1), .int (-1), .int 0, .ref k, .int (nI n)] [.int (nI n), .int (nI n)] (va_up h' 1 (.inr (5, bf (upd (upd x 5 0) 3 (nI (n + 1))) wi pe hz))) (k + 1) (0 + 1 + 2) (0 + 8 + 12)
  refine AW.icmp_ne (pc := 130) (tgt := 137) dX5_put_130 (by decide) (fun c => absurd (rfl) c) (fun _ => ?_)
  refine AW.iconst (v := 1) (pc := 133) dX5_put_133 (by decide) ?_
  refine AW.goto (pc := 134) (tgt := 138) dX5_put_134 (by decide) ?_
  have eF : ∀ i, i ≠ 1 → (i < 2 ∨ 48 ≤ i) → 0 < i → i < k + 1 → (va_up h' 1 (.inr (5, bf (upd (upd x 5 0) 3 (nI (n + 1))) wi pe hz))) i = (va_up (va_up (va_up h k (irow 8 (r8 (-1) (nI n) (-1) (-1) (-1) 0))) 48 (qrow 30 (lnf (n + 1)))) 1 (.inr (5, bf (upd x 5 0) wi pe hz))) i := fun i i1 i2 i0 ik => (up_ne i1).trans (hF' i i0 ik (by omega))
  exact AW.iret (pc := 138) dX5_put_138 rfl (by decide) (by omega) (by omega) (⟨rfl, rfl, hB.add (by omega) up_same upd_same (by rw [eF 48 (by omega) (by omega) (by omega) (by omega), up_ne (by omega), up_same]) (fun l hl => by rw [eF (79 + l) (by omega) (by omega) (by omega) (by omega), up_ne (by omega), up_ne (by omega), up_ne (by omega)]) (by rw [eF (79 + n) (by omega) (by omega) (by omega) (by omega), up_ne (by omega), up_ne (by omega), ← hk, up_same]), ⟨m', hC'.same fun i i2 i48 => up_ne (by omega), hI'⟩, fun i i0 ik => by rw [eF i (by omega) (by omega) (by omega) (by omega), up_ne (by omega), up_ne (by omega), up_ne (by omega)]⟩)
set_option maxRecDepth 100000 in
set_option maxHeartbeats 4000000 in
theorem c_B_putr {h : Hp} {x : Nat → Int32} {wi pe hz n j : Nat} {T : Nat → Nat → Int32} {m g : Mem} {d k : Nat} {a b c : Int32} {q : Nat} (ha : isW a) (hb : isW b) (hc : isW0 c) (hq : q ≤ 20) (hd : 9 ≤ d) (hk : k = 79 + n) (hB : BN h x wi pe hz n T) (hC : CLS h m) (hI : Iv j m g n) (hn : n < 24) : AM mX5_put d [.ref 1, .int (-2), .int (nI n), .int a, .int b, .int c, .int (nI q)] h k 7 44 (fun oc h' k' => oc = .inl (some (.int 1)) ∧ k + 1 = k' ∧ BN h' (upd (upd x 5 0) 3 (nI (n + 1))) wi pe hz (n + 1) (Tn T n (r8 (-2) (nI n) a b c (nI q))) ∧ (∃ m', CLS h' m' ∧ Iv (j + 1) m' (gadd g n (-2) (nI n) a b c (nI q)) (n + 1)) ∧ FB k h h') := by
  refine AM.intro (n := 2) (by decide) rfl rfl rfl ?_
  refine AW.bipush (v := 8) (pc := 0) dX5_put_0 (by decide) ?_
  refine AW.newa (ty := .int) (N := 8) (a0 := (8, .inl (fun _ => 0))) (pc := 2) dX5_put_2 rfl (Or.inl rfl) tw_501 (fun _ => rfl) (by decide) (by decide) (by decide) (by omega) (by omega) ?_
  show AW _ _ _ _ _ _ _ 4 [.ref 1, .int (-2), .int (nI n), .int a, .int b, .int c, .int (nI q), .null, .null] [.ref k] (va_up h k (.inl (.int, 8, .inl (fun _ => 0)))) (k + 1) (0 + 1) (0 + 8)
  refine AW.dup (pc := 4) dX5_put_4 rfl ?_
  refine AW.iconst (v := 0) (pc := 5) dX5_put_5 (by decide) ?_
  refine AW.iload_n (pc := 6) dX5_put_6 rfl rfl ?_
  refine AW.iast2 (pc := 7) (n := 8) (g := (fun _ => 0)) (j := 0) dX5_put_7 (by omega) (up_same) (vp_lit (by decide)) (by decide) ?_
  rw [up_up]
  refine AW.dup (pc := 8) dX5_put_8 rfl ?_
  refine AW.iconst (v := 1) (pc := 9) dX5_put_9 (by decide) ?_
  refine AW.iload_n (pc := 10) dX5_put_10 rfl rfl ?_
  refine AW.iast2 (pc := 11) (n := 8) (g := (upd (fun _ => 0) 0 (-2))) (j := 1) dX5_put_11 (by omega) (up_same) (vp_lit (by decide)) (by decide) ?_
  rw [up_up]
  refine AW.dup (pc := 12) dX5_put_12 rfl ?_
  refine AW.iconst (v := 2) (pc := 13) dX5_put_13 (by decide) ?_
  refine AW.iload_n (pc := 14) dX5_put_14 rfl rfl ?_
  refine AW.iast2 (pc := 15) (n := 8) (g := (upd (upd (fun _ => 0) 0 (-2)) 1 (nI n))) (j := 2) dX5_put_15 (by omega) (up_same) (vp_lit (by decide)) (by decide) ?_
  rw [up_up]
  refine AW.dup (pc := 16) dX5_put_16 rfl ?_
  refine AW.iconst (v := 3) (pc := 17) dX5_put_17 (by decide) ?_
  refine AW.iload (pc := 18) dX5_put_18 rfl ?_
  refine AW.iast2 (pc := 20) (n := 8) (g := (upd (upd (upd (fun _ => 0) 0 (-2)) 1 (nI n)) 2 a)) (j := 3) dX5_put_20 (by omega) (up_same) (vp_lit (by decide)) (by decide) ?_
  rw [up_up]
  refine AW.dup (pc := 21) dX5_put_21 rfl ?_
  refine AW.iconst (v := 4) (pc := 22) dX5_put_22 (by decide) ?_
  refine AW.iload (pc := 23) dX5_put_23 rfl ?_
  refine AW.iast2 (pc := 25) (n := 8) (g := (upd (upd (upd (upd (fun _ => 0) 0 (-2)) 1 (nI n)) 2 a) 3 b)) (j := 4) dX5_put_25 (by omega) (up_same) (vp_lit (by decide)) (by decide) ?_
  rw [up_up]
  refine AW.dup (pc := 26) dX5_put_26 rfl ?_
  refine AW.iconst (v := 5) (pc := 27) dX5_put_27 (by decide) ?_
  refine AW.iload (pc := 28) dX5_put_28 rfl ?_
  refine AW.iast2 (pc := 30) (n := 8) (g := (upd (upd (upd (upd (upd (fun _ => 0) 0 (-2)) 1 (nI n)) 2 a) 3 b) 4 c)) (j := 5) dX5_put_30 (by omega) (up_same) (vp_lit (by decide)) (by decide) ?_
  rw [up_up]
  refine AW.dup (pc := 31) dX5_put_31 rfl ?_
  refine AW.bipush (v := 6) (pc := 32) dX5_put_32 (by decide) ?_
  refine AW.iconst (v := 0) (pc := 34) dX5_put_34 (by decide) ?_
  refine AW.iast2 (pc := 35) (n := 8) (g := (upd (upd (upd (upd (upd (upd (fun _ => 0) 0 (-2)) 1 (nI n)) 2 a) 3 b) 4 c) 5 (nI q))) (j := 6) dX5_put_35 (by omega) (up_same) (vp_lit (by decide)) (by decide) ?_
  rw [up_up]
  refine AW.dup (pc := 36) dX5_put_36 rfl ?_
  refine AW.bipush (v := 7) (pc := 37) dX5_put_37 (by decide) ?_
  refine AW.iconst (v := 0) (pc := 39) dX5_put_39 (by decide) ?_
  refine AW.iast2 (pc := 40) (n := 8) (g := (upd (upd (upd (upd (upd (upd (upd (fun _ => 0) 0 (-2)) 1 (nI n)) 2 a) 3 b) 4 c) 5 (nI q)) 6 (0 : Int32))) (j := 7) dX5_put_40 (by omega) (up_same) (vp_lit (by decide)) (by decide) ?_
  rw [up_up]
  show AW _ _ _ _ _ _ _ 41 [.ref 1, .int (-2), .int (nI n), .int a, .int b, .int c, .int (nI q), .null, .null] [.ref k] (va_up h k (irow 8 (r8 (-2) (nI n) a b c (nI q)))) (k + 1) (0 + 1) (0 + 8)
  have hB1 := hB.up (q := k) (c := irow 8 (r8 (-2) (nI n) a b c (nI q))) (by omega) (by omega) (fun l hl => by omega)
  refine AW.astore (L' := [.ref 1, .int (-2), .int (nI n), .int a, .int b, .int c, .int (nI q), .ref k, .null]) (pc := 41) dX5_put_41 (by decide) rfl rfl ?_
  refine AW.aload_n (pc := 43) dX5_put_43 rfl rfl ?_
  refine AW.get (pc := 44) (i := 1) (ci := 5) (f := 4) (N := 14) (C := RX5) (T := TX5) dX5_put_44 tw_654 rfl (by decide) rfl (by decide) (hB1.1) rfl ?_
  refine AW.aload_n (pc := 47) dX5_put_47 rfl rfl ?_
  refine AW.get (pc := 48) (i := 1) (ci := 5) (f := 3) (N := 14) (C := RX5) (T := TX5) dX5_put_48 tw_653 rfl (by decide) rfl (by decide) (hB1.1) rfl ?_
  refine AW.aload (pc := 51) dX5_put_51 rfl ?_
  rw [hB.2.1.1]
  refine AW.aast (pc := 53) (n := 30) (nv := 8) (f := lnf n) (gv := r8 (-2) (nI n) a b c (nI q)) dX5_put_53 (by decide) hB1.2.2.1 (by omega) up_same (vp_in_nI (by omega) (by decide)) ?_
  rw [nI_clamp (show n < 2 ^ 31 by omega), show k = 79 + n from hk, lnf_add, ← hk]
  show AW _ _ _ _ _ _ _ 54 [.ref 1, .int (-2), .int (nI n), .int a, .int b, .int c, .int (nI q), .ref k, .null] [] (va_up (va_up h k (irow 8 (r8 (-2) (nI n) a b c (nI q)))) 48 (qrow 30 (lnf (n + 1)))) (k + 1) (0 + 1) (0 + 8)
  refine AW.aload_n (pc := 54) dX5_put_54 rfl rfl ?_
  refine AW.iconst (v := 0) (pc := 55) dX5_put_55 (by decide) ?_
  refine AW.put (pc := 56) (i := 1) (ci := 5) (f := 5) (N := 14) (C := RX5) (T := TX5) (fs' := bf (upd x 5 0) wi pe hz) dX5_put_56 tw_656 rfl (by decide) rfl (by decide) ((up_ne (by decide)).trans hB1.1) (Nat.le_of_ble_eq_true rfl) rfl (fun _ => (by decide : narrow .boolean (Value.int (0 : Int32)) = Value.int (0 : Int32) ∧ fits .boolean (Value.int (0 : Int32)) = true)) rfl ?_
  show AW _ _ _ _ _ _ _ 59 [.ref 1, .int (-2), .int (nI n), .int a, .int b, .int c, .int (nI q), .ref k, .null] [] (va_up (va_up (va_up h k (irow 8 (r8 (-2) (nI n) a b c (nI q)))) 48 (qrow 30 (lnf (n + 1)))) 1 (.inr (5, bf (upd x 5 0) wi pe hz))) (k + 1) (0 + 1) (0 + 8)
  have hC4 : CLS (va_up (va_up (va_up h k (irow 8 (r8 (-2) (nI n) a b c (nI q)))) 48 (qrow 30 (lnf (n + 1)))) 1 (.inr (5, bf (upd x 5 0) wi pe hz))) m := hC.same fun i i2 i48 => by rw [up_ne (by omega), up_ne (by omega), up_ne (by omega)]
  refine AW.iload_n (pc := 59) dX5_put_59 rfl rfl ?_
  refine AW.iconst (v := -1) (pc := 60) dX5_put_60 (by decide) ?_
  refine AW.icmp_ne (pc := 61) (tgt := 75) dX5_put_61 (by decide) (fun _ => ?_) (fun c => absurd c (by decide))
  refine AW.iload_n (pc := 75) dX5_put_75 rfl rfl ?_
  refine AW.bipush (v := -2) (pc := 76) dX5_put_76 (by decide) ?_
  refine AW.icmp_ne (pc := 78) (tgt := 99) dX5_put_78 (by decide) (fun c => absurd (rfl) c) (fun _ => ?_)
  refine AW.aload_n (pc := 81) dX5_put_81 rfl rfl ?_
  refine AW.get (pc := 82) (i := 1) (ci := 5) (f := 0) (N := 14) (C := RX5) (T := TX5) dX5_put_82 tw_648 rfl (by decide) rfl (by decide) (up_same) rfl ?_
  refine AW.iload_n (pc := 85) dX5_put_85 rfl rfl ?_
  refine AW.iload_n (pc := 86) dX5_put_86 rfl rfl ?_
  refine AW.iload (pc := 87) dX5_put_87 rfl ?_
  refine AW.iload (pc := 89) dX5_put_89 rfl ?_
  refine AW.iload (pc := 91) dX5_put_91 rfl ?_
  refine AW.callAd (pc := 93) (S' := []) dX5_put_93 (k_register (d := d - 1) hI (by omega) (by omega) hn ha hb hc hq) hC4 (by omega) (by simp [aw_ok]) ok_X4_register tw_759 tw_760 tw_758 rfl rfl (by omega) rfl (Nat.le_of_ble_eq_true rfl) (by omega) (by omega) ?_
  intro m' h' hI' hC' hF'
  show AW _ _ _ _ _ _ _ 96 [.ref 1, .int (-2), .int (nI n), .int a, .int b, .int c, .int (nI q), .ref k, .null] [.int (nI n)] h' (k + 1) (0 + 1 + 6) (0 + 8 + 36)
  have e1 : h' 1 = .inr (5, bf (upd x 5 0) wi pe hz) := (hF' 1 (by decide) (by omega) (by omega)).trans up_same
  refine AW.goto (pc := 96) (tgt := 115) dX5_put_96 (by decide) ?_
  refine AW.istore (L' := [.ref 1, .int (-2), .int (nI n), .int a, .int b, .int c, .int (nI q), .ref k, .int (nI n)]) (pc := 115) dX5_put_115 (by decide) rfl rfl ?_
  refine AW.iload (pc := 117) dX5_put_117 rfl ?_
  refine AW.aload_n (pc := 119) dX5_put_119 rfl rfl ?_
  refine AW.dup (pc := 120) dX5_put_120 rfl ?_
  refine AW.get (pc := 121) (i := 1) (ci := 5) (f := 3) (N := 14) (C := RX5) (T := TX5) dX5_put_121 tw_653 rfl (by decide) rfl (by decide) (e1) rfl ?_
  refine AW.dup_x1 (pc := 124) dX5_put_124 rfl rfl ?_
  refine AW.iconst (v := 1) (pc := 125) dX5_put_125 (by decide) ?_
  refine AW.iadd (pc := 126) dX5_put_126 ?_
  rw [show (upd x 5 (0 : Int32)) 3 = nI n from (upd_ne (by decide)).trans hB.2.1.1, nI_1 n]
  show AW _ _ _ _ _ _ _ 127 [.ref 1, .int (-2), .int (nI n), .int a, .int b, .int c, .int (nI q), .ref k, .int (nI n)] [.int (nI (n + 1)), .ref 1, .int (nI n), .int (nI n)] h' (k + 1) (0 + 1 + 6) (0 + 8 + 36)
  refine AW.put (pc := 127) (i := 1) (ci := 5) (f := 3) (N := 14) (C := RX5) (T := TX5) (fs' := bf (upd (upd x 5 0) 3 (nI (n + 1))) wi pe hz) dX5_put_127 tw_653 rfl (by decide) rfl (by decide) (e1) (Nat.le_of_ble_eq_true rfl) rfl (fun _ => ⟨rfl, rfl⟩) rfl ?_
  show AW _ _ _ _ _ _ _ 130 [.ref 1, .int (-2), .int (nI n), .int a, .int b, .int c, .int (nI q), .ref k, .int (nI n)] [.int (nI n), .int (nI n)] (va_up h' 1 (.inr (5, bf (upd (upd x 5 0) 3 (nI (n + 1))) wi pe hz))) (k + 1) (0 + 1 + 6) (0 + 8 + 36)
  refine AW.icmp_ne (pc := 130) (tgt := 137) dX5_put_130 (by decide) (fun c => absurd (rfl) c) (fun _ => ?_)
  refine AW.iconst (v := 1) (pc := 133) dX5_put_133 (by decide) ?_
  refine AW.goto (pc := 134) (tgt := 138) dX5_put_134 (by decide) ?_
  have eF : ∀ i, i ≠ 1 → (i < 2 ∨ 48 ≤ i) → 0 < i → i < k + 1 → (va_up h' 1 (.inr (5, bf (upd (upd x 5 0) 3 (nI (n + 1))) wi pe hz))) i = (va_up (va_up (va_up h k (irow 8 (r8 (-2) (nI n) a b c (nI q)))) 48 (qrow 30 (lnf (n + 1)))) 1 (.inr (5, bf (upd x 5 0) wi pe hz))) i := fun i i1 i2 i0 ik => (up_ne i1).trans (hF' i i0 ik (by omega))
  exact AW.iret (pc := 138) dX5_put_138 rfl (by decide) (by omega) (by omega) (⟨rfl, rfl, hB.add (by omega) up_same upd_same (by rw [eF 48 (by omega) (by omega) (by omega) (by omega), up_ne (by omega), up_same]) (fun l hl => by rw [eF (79 + l) (by omega) (by omega) (by omega) (by omega), up_ne (by omega), up_ne (by omega), up_ne (by omega)]) (by rw [eF (79 + n) (by omega) (by omega) (by omega) (by omega), up_ne (by omega), up_ne (by omega), ← hk, up_same]), ⟨m', hC'.same fun i i2 i48 => up_ne (by omega), hI'⟩, fun i i0 ik => by rw [eF i (by omega) (by omega) (by omega) (by omega), up_ne (by omega), up_ne (by omega), up_ne (by omega)]⟩)
set_option maxRecDepth 100000 in
set_option maxHeartbeats 4000000 in
theorem c_B_putg {h : Hp} {x : Nat → Int32} {wi pe hz n j : Nat} {T : Nat → Nat → Int32} {m g : Mem} {d k : Nat} {a b c : Int32} {q kd : Nat} (hkd : kd < 8) (ha : isW a) (hb : if kd < 2 then b = -1 else isW b) (hc : if kd < 7 then c = -1 else isW c) (hq : q ≤ 20) (hd : 9 ≤ d) (hk : k = 79 + n) (hB : BN h x wi pe hz n T) (hC : CLS h m) (hI : Iv j m g n) (hn : n < 24) : AM mX5_put d [.ref 1, .int (nI kd), .int (nI n), .int a, .int b, .int c, .int (nI q)] h k 7 44 (fun oc h' k' => oc = .inl (some (.int 1)) ∧ k + 1 = k' ∧ BN h' (upd (upd x 5 0) 3 (nI (n + 1))) wi pe hz (n + 1) (Tn T n (r8 (nI kd) (nI n) a b c (nI q))) ∧ (∃ m', CLS h' m' ∧ Iv (j + 1) m' (gadd g n (nI kd) (nI n) a b c (nI q)) (n + 1)) ∧ FB k h h') := by
  refine AM.intro (n := 2) (by decide) rfl rfl rfl ?_
  refine AW.bipush (v := 8) (pc := 0) dX5_put_0 (by decide) ?_
  refine AW.newa (ty := .int) (N := 8) (a0 := (8, .inl (fun _ => 0))) (pc := 2) dX5_put_2 rfl (Or.inl rfl) tw_501 (fun _ => rfl) (by decide) (by decide) (by decide) (by omega) (by omega) ?_
  show AW _ _ _ _ _ _ _ 4 [.ref 1, .int (nI kd), .int (nI n), .int a, .int b, .int c, .int (nI q), .null, .null] [.ref k] (va_up h k (.inl (.int, 8, .inl (fun _ => 0)))) (k + 1) (0 + 1) (0 + 8)
  refine AW.dup (pc := 4) dX5_put_4 rfl ?_
  refine AW.iconst (v := 0) (pc := 5) dX5_put_5 (by decide) ?_
  refine AW.iload_n (pc := 6) dX5_put_6 rfl rfl ?_
  refine AW.iast2 (pc := 7) (n := 8) (g := (fun _ => 0)) (j := 0) dX5_put_7 (by omega) (up_same) (vp_lit (by decide)) (by decide) ?_
  rw [up_up]
  refine AW.dup (pc := 8) dX5_put_8 rfl ?_
  refine AW.iconst (v := 1) (pc := 9) dX5_put_9 (by decide) ?_
  refine AW.iload_n (pc := 10) dX5_put_10 rfl rfl ?_
  refine AW.iast2 (pc := 11) (n := 8) (g := (upd (fun _ => 0) 0 (nI kd))) (j := 1) dX5_put_11 (by omega) (up_same) (vp_lit (by decide)) (by decide) ?_
  rw [up_up]
  refine AW.dup (pc := 12) dX5_put_12 rfl ?_
  refine AW.iconst (v := 2) (pc := 13) dX5_put_13 (by decide) ?_
  refine AW.iload_n (pc := 14) dX5_put_14 rfl rfl ?_
  refine AW.iast2 (pc := 15) (n := 8) (g := (upd (upd (fun _ => 0) 0 (nI kd)) 1 (nI n))) (j := 2) dX5_put_15 (by omega) (up_same) (vp_lit (by decide)) (by decide) ?_
  rw [up_up]
  refine AW.dup (pc := 16) dX5_put_16 rfl ?_
  refine AW.iconst (v := 3) (pc := 17) dX5_put_17 (by decide) ?_
  refine AW.iload (pc := 18) dX5_put_18 rfl ?_
  refine AW.iast2 (pc := 20) (n := 8) (g := (upd (upd (upd (fun _ => 0) 0 (nI kd)) 1 (nI n)) 2 a)) (j := 3) dX5_put_20 (by omega) (up_same) (vp_lit (by decide)) (by decide) ?_
  rw [up_up]
  refine AW.dup (pc := 21) dX5_put_21 rfl ?_
  refine AW.iconst (v := 4) (pc := 22) dX5_put_22 (by decide) ?_
  refine AW.iload (pc := 23) dX5_put_23 rfl ?_
  refine AW.iast2 (pc := 25) (n := 8) (g := (upd (upd (upd (upd (fun _ => 0) 0 (nI kd)) 1 (nI n)) 2 a) 3 b)) (j := 4) dX5_put_25 (by omega) (up_same) (vp_lit (by decide)) (by decide) ?_
  rw [up_up]
  refine AW.dup (pc := 26) dX5_put_26 rfl ?_
  refine AW.iconst (v := 5) (pc := 27) dX5_put_27 (by decide) ?_
  refine AW.iload (pc := 28) dX5_put_28 rfl ?_
  refine AW.iast2 (pc := 30) (n := 8) (g := (upd (upd (upd (upd (upd (fun _ => 0) 0 (nI kd)) 1 (nI n)) 2 a) 3 b) 4 c)) (j := 5) dX5_put_30 (by omega) (up_same) (vp_lit (by decide)) (by decide) ?_
  rw [up_up]
  refine AW.dup (pc := 31) dX5_put_31 rfl ?_
  refine AW.bipush (v := 6) (pc := 32) dX5_put_32 (by decide) ?_
  refine AW.iconst (v := 0) (pc := 34) dX5_put_34 (by decide) ?_
  refine AW.iast2 (pc := 35) (n := 8) (g := (upd (upd (upd (upd (upd (upd (fun _ => 0) 0 (nI kd)) 1 (nI n)) 2 a) 3 b) 4 c) 5 (nI q))) (j := 6) dX5_put_35 (by omega) (up_same) (vp_lit (by decide)) (by decide) ?_
  rw [up_up]
  refine AW.dup (pc := 36) dX5_put_36 rfl ?_
  refine AW.bipush (v := 7) (pc := 37) dX5_put_37 (by decide) ?_
  refine AW.iconst (v := 0) (pc := 39) dX5_put_39 (by decide) ?_
  refine AW.iast2 (pc := 40) (n := 8) (g := (upd (upd (upd (upd (upd (upd (upd (fun _ => 0) 0 (nI kd)) 1 (nI n)) 2 a) 3 b) 4 c) 5 (nI q)) 6 (0 : Int32))) (j := 7) dX5_put_40 (by omega) (up_same) (vp_lit (by decide)) (by decide) ?_
  rw [up_up]
  show AW _ _ _ _ _ _ _ 41 [.ref 1, .int (nI kd), .int (nI n), .int a, .int b, .int c, .int (nI q), .null, .null] [.ref k] (va_up h k (irow 8 (r8 (nI kd) (nI n) a b c (nI q)))) (k + 1) (0 + 1) (0 + 8)
  have hB1 := hB.up (q := k) (c := irow 8 (r8 (nI kd) (nI n) a b c (nI q))) (by omega) (by omega) (fun l hl => by omega)
  refine AW.astore (L' := [.ref 1, .int (nI kd), .int (nI n), .int a, .int b, .int c, .int (nI q), .ref k, .null]) (pc := 41) dX5_put_41 (by decide) rfl rfl ?_
  refine AW.aload_n (pc := 43) dX5_put_43 rfl rfl ?_
  refine AW.get (pc := 44) (i := 1) (ci := 5) (f := 4) (N := 14) (C := RX5) (T := TX5) dX5_put_44 tw_654 rfl (by decide) rfl (by decide) (hB1.1) rfl ?_
  refine AW.aload_n (pc := 47) dX5_put_47 rfl rfl ?_
  refine AW.get (pc := 48) (i := 1) (ci := 5) (f := 3) (N := 14) (C := RX5) (T := TX5) dX5_put_48 tw_653 rfl (by decide) rfl (by decide) (hB1.1) rfl ?_
  refine AW.aload (pc := 51) dX5_put_51 rfl ?_
  rw [hB.2.1.1]
  refine AW.aast (pc := 53) (n := 30) (nv := 8) (f := lnf n) (gv := r8 (nI kd) (nI n) a b c (nI q)) dX5_put_53 (by decide) hB1.2.2.1 (by omega) up_same (vp_in_nI (by omega) (by decide)) ?_
  rw [nI_clamp (show n < 2 ^ 31 by omega), show k = 79 + n from hk, lnf_add, ← hk]
  show AW _ _ _ _ _ _ _ 54 [.ref 1, .int (nI kd), .int (nI n), .int a, .int b, .int c, .int (nI q), .ref k, .null] [] (va_up (va_up h k (irow 8 (r8 (nI kd) (nI n) a b c (nI q)))) 48 (qrow 30 (lnf (n + 1)))) (k + 1) (0 + 1) (0 + 8)
  refine AW.aload_n (pc := 54) dX5_put_54 rfl rfl ?_
  refine AW.iconst (v := 0) (pc := 55) dX5_put_55 (by decide) ?_
  refine AW.put (pc := 56) (i := 1) (ci := 5) (f := 5) (N := 14) (C := RX5) (T := TX5) (fs' := bf (upd x 5 0) wi pe hz) dX5_put_56 tw_656 rfl (by decide) rfl (by decide) ((up_ne (by decide)).trans hB1.1) (Nat.le_of_ble_eq_true rfl) rfl (fun _ => (by decide : narrow .boolean (Value.int (0 : Int32)) = Value.int (0 : Int32) ∧ fits .boolean (Value.int (0 : Int32)) = true)) rfl ?_
  show AW _ _ _ _ _ _ _ 59 [.ref 1, .int (nI kd), .int (nI n), .int a, .int b, .int c, .int (nI q), .ref k, .null] [] (va_up (va_up (va_up h k (irow 8 (r8 (nI kd) (nI n) a b c (nI q)))) 48 (qrow 30 (lnf (n + 1)))) 1 (.inr (5, bf (upd x 5 0) wi pe hz))) (k + 1) (0 + 1) (0 + 8)
  have hC4 : CLS (va_up (va_up (va_up h k (irow 8 (r8 (nI kd) (nI n) a b c (nI q)))) 48 (qrow 30 (lnf (n + 1)))) 1 (.inr (5, bf (upd x 5 0) wi pe hz))) m := hC.same fun i i2 i48 => by rw [up_ne (by omega), up_ne (by omega), up_ne (by omega)]
  refine AW.iload_n (pc := 59) dX5_put_59 rfl rfl ?_
  refine AW.iconst (v := -1) (pc := 60) dX5_put_60 (by decide) ?_
  refine AW.icmp_ne (pc := 61) (tgt := 75) dX5_put_61 (by decide) (fun _ => ?_) (fun c => absurd c (nI_m1 (by omega)))
  refine AW.iload_n (pc := 75) dX5_put_75 rfl rfl ?_
  refine AW.bipush (v := -2) (pc := 76) dX5_put_76 (by decide) ?_
  refine AW.icmp_ne (pc := 78) (tgt := 99) dX5_put_78 (by decide) (fun _ => ?_) (fun c => absurd c (nIm2 (by omega)))
  refine AW.aload_n (pc := 99) dX5_put_99 rfl rfl ?_
  refine AW.get (pc := 100) (i := 1) (ci := 5) (f := 0) (N := 14) (C := RX5) (T := TX5) dX5_put_100 tw_648 rfl (by decide) rfl (by decide) (up_same) rfl ?_
  refine AW.iload_n (pc := 103) dX5_put_103 rfl rfl ?_
  refine AW.iload_n (pc := 104) dX5_put_104 rfl rfl ?_
  refine AW.iload_n (pc := 105) dX5_put_105 rfl rfl ?_
  refine AW.iload (pc := 106) dX5_put_106 rfl ?_
  refine AW.iload (pc := 108) dX5_put_108 rfl ?_
  refine AW.iload (pc := 110) dX5_put_110 rfl ?_
  refine AW.callAd (pc := 112) (S' := []) dX5_put_112 (k_gate (d := d - 1) hI (by omega) (by omega) hkd hn ha hb hc hq) hC4 (by omega) (by simp [aw_ok]) ok_X4_gate tw_763 tw_764 tw_762 rfl rfl (by omega) rfl (Nat.le_of_ble_eq_true rfl) (by omega) (by omega) ?_
  intro m' h' hI' hC' hF'
  show AW _ _ _ _ _ _ _ 115 [.ref 1, .int (nI kd), .int (nI n), .int a, .int b, .int c, .int (nI q), .ref k, .null] [.int (nI n)] h' (k + 1) (0 + 1 + 6) (0 + 8 + 36)
  have e1 : h' 1 = .inr (5, bf (upd x 5 0) wi pe hz) := (hF' 1 (by decide) (by omega) (by omega)).trans up_same
  refine AW.istore (L' := [.ref 1, .int (nI kd), .int (nI n), .int a, .int b, .int c, .int (nI q), .ref k, .int (nI n)]) (pc := 115) dX5_put_115 (by decide) rfl rfl ?_
  refine AW.iload (pc := 117) dX5_put_117 rfl ?_
  refine AW.aload_n (pc := 119) dX5_put_119 rfl rfl ?_
  refine AW.dup (pc := 120) dX5_put_120 rfl ?_
  refine AW.get (pc := 121) (i := 1) (ci := 5) (f := 3) (N := 14) (C := RX5) (T := TX5) dX5_put_121 tw_653 rfl (by decide) rfl (by decide) (e1) rfl ?_
  refine AW.dup_x1 (pc := 124) dX5_put_124 rfl rfl ?_
  refine AW.iconst (v := 1) (pc := 125) dX5_put_125 (by decide) ?_
  refine AW.iadd (pc := 126) dX5_put_126 ?_
  rw [show (upd x 5 (0 : Int32)) 3 = nI n from (upd_ne (by decide)).trans hB.2.1.1, nI_1 n]
  show AW _ _ _ _ _ _ _ 127 [.ref 1, .int (nI kd), .int (nI n), .int a, .int b, .int c, .int (nI q), .ref k, .int (nI n)] [.int (nI (n + 1)), .ref 1, .int (nI n), .int (nI n)] h' (k + 1) (0 + 1 + 6) (0 + 8 + 36)
  refine AW.put (pc := 127) (i := 1) (ci := 5) (f := 3) (N := 14) (C := RX5) (T := TX5) (fs' := bf (upd (upd x 5 0) 3 (nI (n + 1))) wi pe hz) dX5_put_127 tw_653 rfl (by decide) rfl (by decide) (e1) (Nat.le_of_ble_eq_true rfl) rfl (fun _ => ⟨rfl, rfl⟩) rfl ?_
  show AW _ _ _ _ _ _ _ 130 [.ref 1, .int (nI kd), .int (nI n), .int a, .int b, .int c, .int (nI q), .ref k, .int (nI n)] [.int (nI n), .int (nI n)] (va_up h' 1 (.inr (5, bf (upd (upd x 5 0) 3 (nI (n + 1))) wi pe hz))) (k + 1) (0 + 1 + 6) (0 + 8 + 36)
  refine AW.icmp_ne (pc := 130) (tgt := 137) dX5_put_130 (by decide) (fun c => absurd (rfl) c) (fun _ => ?_)
  refine AW.iconst (v := 1) (pc := 133) dX5_put_133 (by decide) ?_
  refine AW.goto (pc := 134) (tgt := 138) dX5_put_134 (by decide) ?_
  have eF : ∀ i, i ≠ 1 → (i < 2 ∨ 48 ≤ i) → 0 < i → i < k + 1 → (va_up h' 1 (.inr (5, bf (upd (upd x 5 0) 3 (nI (n + 1))) wi pe hz))) i = (va_up (va_up (va_up h k (irow 8 (r8 (nI kd) (nI n) a b c (nI q)))) 48 (qrow 30 (lnf (n + 1)))) 1 (.inr (5, bf (upd x 5 0) wi pe hz))) i := fun i i1 i2 i0 ik => (up_ne i1).trans (hF' i i0 ik (by omega))
  exact AW.iret (pc := 138) dX5_put_138 rfl (by decide) (by omega) (by omega) (⟨rfl, rfl, hB.add (by omega) up_same upd_same (by rw [eF 48 (by omega) (by omega) (by omega) (by omega), up_ne (by omega), up_same]) (fun l hl => by rw [eF (79 + l) (by omega) (by omega) (by omega) (by omega), up_ne (by omega), up_ne (by omega), up_ne (by omega)]) (by rw [eF (79 + n) (by omega) (by omega) (by omega) (by omega), up_ne (by omega), up_ne (by omega), ← hk, up_same]), ⟨m', hC'.same fun i i2 i48 => up_ne (by omega), hI'⟩, fun i i0 ik => by rw [eF i (by omega) (by omega) (by omega) (by omega), up_ne (by omega), up_ne (by omega), up_ne (by omega)]⟩)
