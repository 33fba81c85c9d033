/-! the bench: its cells, and the methods that only read -/
theorem AW.iald2 {Z : Gz} {μ : Mt} {d k0 mc ms : Nat} {Q : Po} {pc : Nat} {L S : List Value} {h : Hp} {k cs ss i n j : Nat} {g : Nat → Int32} {x : Int32} (hd : decode μ.2.1 pc = .ok (.iaload, 1)) (h0 : 0 < i) (hh : h i = irow n g) (hin : vp_in x n) (hj : x.toNatClampNeg = j) (K : AW Z μ d k0 mc ms Q (pc + 1) L (.int (g j) :: S) h k cs ss) : AW Z μ d k0 mc ms Q pc L (.int x :: .ref i :: S) h k cs ss := by
  subst hj
  exact AW.iald hd h0 hh hin K
def bf (x : Nat → Int32) (wi pe hz : Nat) : List Value := [.ref 2, .ref 0, .int (x 2), .int (x 3), .ref 48, .int (x 5), .int (x 6), .int (x 7), .int (x 8), .int (x 9), .ref wi, .ref pe, .ref 51, .ref hz]
/-- where the lines' rows lie -/
def lnf (n : Nat) (l : Nat) : Option Nat := if l < n then some (79 + l) else none
theorem lnf_at {n l j : Nat} (hl : l < n) (hj : j < 2 ^ 31) (e : l = j) : lnf n (nI j).toNatClampNeg = some (79 + l) := by
  subst e
  rw [nI_clamp hj, lnf, if_pos hl]
def BN (h : Hp) (x : Nat → Int32) (wi pe hz n : Nat) (T : Nat → Nat → Int32) : Prop := h 1 = .inr (5, bf x wi pe hz) ∧ (x 3 = nI n ∧ n ≤ 24) ∧ h 48 = qrow 30 (lnf n) ∧ ∀ l, l < n → h (79 + l) = irow 8 (T l)
def RO (h : Hp) (k : Nat) (v : Value) : Po := fun oc h' k' => oc = .inl (some v) ∧ h = h' ∧ k = k'
def usb (T : Nat → Nat → Int32) (l : Nat) (w : Int32) : Prop := T l 2 = w ∨ T l 3 = w ∨ T l 4 = w
theorem nI_p1 (j : Nat) : nI (j + 1) - 1 = nI j := nI_pred j
theorem i_m1 (a : Int32) : a + (-1) = a - 1 := (Int32.sub_eq_add_neg a 1).symm
abbrev mX5_isGate : Mt := (yX5_isGate, cX5_isGate, 2, (some .boolean), [])
set_option maxRecDepth 20000 in
theorem ok_X5_isGate : aw_mok mX5_isGate 1 := ⟨rfl, tw_775, tw_1, ⟨by decide, by decide⟩, by decide +kernel, by decide⟩
abbrev mX5_uses : Mt := (yX5_uses, cX5_uses, 3, (some .boolean), [])
set_option maxRecDepth 20000 in
theorem ok_X5_uses : aw_mok mX5_uses 2 := ⟨rfl, tw_779, tw_1, ⟨by decide, by decide⟩, by decide +kernel, by decide⟩
abbrev mX5_driver : Mt := (yX5_driver, cX5_driver, 4, (some .int), [])
set_option maxRecDepth 20000 in
theorem ok_X5_driver : aw_mok mX5_driver 1 := ⟨rfl, tw_783, tw_1, ⟨by decide, by decide⟩, by decide +kernel, by decide⟩
abbrev mX5_users : Mt := (yX5_users, cX5_users, 4, (some .int), [])
set_option maxRecDepth 20000 in
theorem ok_X5_users : aw_mok mX5_users 1 := ⟨rfl, tw_809, tw_1, ⟨by decide, by decide⟩, by decide +kernel, by decide⟩
abbrev mX5_value : Mt := (yX5_value, cX5_value, 2, (some .int), [])
set_option maxRecDepth 20000 in
theorem ok_X5_value : aw_mok mX5_value 1 := ⟨rfl, tw_840, tw_1, ⟨by decide, by decide⟩, by decide +kernel, by decide⟩
set_option maxRecDepth 100000 in
set_option maxHeartbeats 4000000 in
theorem c_B_isGate {h : Hp} {x : Nat → Int32} {wi pe hz n : Nat} {T : Nat → Nat → Int32} {d k : Nat} {l : Nat} (hB : BN h x wi pe hz n T) (hl : l < n) : AM mX5_isGate d [.ref 1, .int (nI l)] h k 0 0 (RO h k (.int (if T l 0 < 0 then 0 else 1))) := by
  have hn := hB.2.1.2
  refine AM.intro (n := 0) (by decide) rfl rfl rfl ?_
  refine AW.iload_n (pc := 0) dX5_isGate_0 rfl rfl ?_
  refine AW.if_lt (pc := 1) (tgt := 19) dX5_isGate_1 (by decide) (fun c => absurd c (nI_pos (by omega))) (fun _ => ?_)
  refine AW.aload_n (pc := 4) dX5_isGate_4 rfl rfl ?_
  refine AW.get (pc := 5) (i := 1) (ci := 5) (f := 4) (N := 14) (C := RX5) (T := TX5) dX5_isGate_5 tw_654 rfl (by decide) rfl (by decide) (hB.1) rfl ?_
  refine AW.iload_n (pc := 8) dX5_isGate_8 rfl rfl ?_
  refine AW.aald (pc := 9) (n := 30) (f := lnf n) (j := 79 + l) dX5_isGate_9 (by decide) (hB.2.2.1) (vp_in_nI (by omega) (by decide)) (lnf_at hl (by omega) rfl) ?_
  refine AW.iconst (v := 0) (pc := 10) dX5_isGate_10 (by decide) ?_
  refine AW.iald2 (pc := 11) (n := 8) (g := T l) (j := 0) dX5_isGate_11 (by omega) (hB.2.2.2 l hl) (vp_lit (by decide)) (by decide) ?_
  refine AW.if_lt (pc := 12) (tgt := 19) dX5_isGate_12 (by decide) (fun c => ?_) (fun c => ?_)
  · refine AW.iconst (v := 0) (pc := 19) dX5_isGate_19 (by decide) ?_
    exact AW.iret (pc := 20) dX5_isGate_20 rfl (by decide) (by omega) (by omega) (by rw [if_pos c]; exact ⟨rfl, rfl, rfl⟩)
  · refine AW.iconst (v := 1) (pc := 15) dX5_isGate_15 (by decide) ?_
    refine AW.goto (pc := 16) (tgt := 20) dX5_isGate_16 (by decide) ?_
    exact AW.iret (pc := 20) dX5_isGate_20 rfl (by decide) (by omega) (by omega) (by rw [if_neg c]; exact ⟨rfl, rfl, rfl⟩)
set_option maxRecDepth 100000 in
set_option maxHeartbeats 4000000 in
theorem c_B_isGate1 {h : Hp} {x : Nat → Int32} {wi pe hz n : Nat} {T : Nat → Nat → Int32} {d k : Nat} (hB : BN h x wi pe hz n T) : AM mX5_isGate d [.ref 1, .int (-1)] h k 0 0 (RO h k (.int 0)) := by
  refine AM.intro (n := 0) (by decide) rfl rfl rfl ?_
  refine AW.iload_n (pc := 0) dX5_isGate_0 rfl rfl ?_
  refine AW.if_lt (pc := 1) (tgt := 19) dX5_isGate_1 (by decide) (fun _ => ?_) (fun c => absurd (by decide) c)
  refine AW.iconst (v := 0) (pc := 19) dX5_isGate_19 (by decide) ?_
  exact AW.iret (pc := 20) dX5_isGate_20 rfl (by decide) (by omega) (by omega) (⟨rfl, rfl, rfl⟩)
set_option maxRecDepth 100000 in
set_option maxHeartbeats 4000000 in
theorem c_B_uses {h : Hp} {x : Nat → Int32} {wi pe hz n : Nat} {T : Nat → Nat → Int32} {d k : Nat} {l : Nat} {u : Int32} (hB : BN h x wi pe hz n T) (hl : l < n) : AM mX5_uses d [.ref 1, .int (nI l), .int u] h k 0 0 (RO h k (.int (if T l 2 = u ∨ T l 3 = u ∨ T l 4 = u then 1 else 0))) := by
  have hn := hB.2.1.2
  refine AM.intro (n := 0) (by decide) rfl rfl rfl ?_
  refine AW.aload_n (pc := 0) dX5_uses_0 rfl rfl ?_
  refine AW.get (pc := 1) (i := 1) (ci := 5) (f := 4) (N := 14) (C := RX5) (T := TX5) dX5_uses_1 tw_654 rfl (by decide) rfl (by decide) (hB.1) rfl ?_
  refine AW.iload_n (pc := 4) dX5_uses_4 rfl rfl ?_
  refine AW.aald (pc := 5) (n := 30) (f := lnf n) (j := 79 + l) dX5_uses_5 (by decide) (hB.2.2.1) (vp_in_nI (by omega) (by decide)) (lnf_at hl (by omega) rfl) ?_
  refine AW.iconst (v := 2) (pc := 6) dX5_uses_6 (by decide) ?_
  refine AW.iald2 (pc := 7) (n := 8) (g := T l) (j := 2) dX5_uses_7 (by omega) (hB.2.2.2 l hl) (vp_lit (by decide)) (by decide) ?_
  refine AW.iload_n (pc := 8) dX5_uses_8 rfl rfl ?_
  refine AW.icmp_eq (pc := 9) (tgt := 36) dX5_uses_9 (by decide) (fun c => ?_) (fun c => ?_)
  · refine AW.iconst (v := 1) (pc := 36) dX5_uses_36 (by decide) ?_
    refine AW.goto (pc := 37) (tgt := 41) dX5_uses_37 (by decide) ?_
    exact AW.iret (pc := 41) dX5_uses_41 rfl (by decide) (by omega) (by omega) (by rw [if_pos (Or.inl c)]; exact ⟨rfl, rfl, rfl⟩)
  · refine AW.aload_n (pc := 12) dX5_uses_12 rfl rfl ?_
    refine AW.get (pc := 13) (i := 1) (ci := 5) (f := 4) (N := 14) (C := RX5) (T := TX5) dX5_uses_13 tw_654 rfl (by decide) rfl (by decide) (hB.1) rfl ?_
    refine AW.iload_n (pc := 16) dX5_uses_16 rfl rfl ?_
    refine AW.aald (pc := 17) (n := 30) (f := lnf n) (j := 79 + l) dX5_uses_17 (by decide) (hB.2.2.1) (vp_in_nI (by omega) (by decide)) (lnf_at hl (by omega) rfl) ?_
    refine AW.iconst (v := 3) (pc := 18) dX5_uses_18 (by decide) ?_
    refine AW.iald2 (pc := 19) (n := 8) (g := T l) (j := 3) dX5_uses_19 (by omega) (hB.2.2.2 l hl) (vp_lit (by decide)) (by decide) ?_
    refine AW.iload_n (pc := 20) dX5_uses_20 rfl rfl ?_
    refine AW.icmp_eq (pc := 21) (tgt := 36) dX5_uses_21 (by decide) (fun c1 => ?_) (fun c1 => ?_)
    · refine AW.iconst (v := 1) (pc := 36) dX5_uses_36 (by decide) ?_
      refine AW.goto (pc := 37) (tgt := 41) dX5_uses_37 (by decide) ?_
      exact AW.iret (pc := 41) dX5_uses_41 rfl (by decide) (by omega) (by omega) (by rw [if_pos (Or.inr (Or.inl c1))]; exact ⟨rfl, rfl, rfl⟩)
    · refine AW.aload_n (pc := 24) dX5_uses_24 rfl rfl ?_
      refine AW.get (pc := 25) (i := 1) (ci := 5) (f := 4) (N := 14) (C := RX5) (T := TX5) dX5_uses_25 tw_654 rfl (by decide) rfl (by decide) (hB.1) rfl ?_
      refine AW.iload_n (pc := 28) dX5_uses_28 rfl rfl ?_
      refine AW.aald (pc := 29) (n := 30) (f := lnf n) (j := 79 + l) dX5_uses_29 (by decide) (hB.2.2.1) (vp_in_nI (by omega) (by decide)) (lnf_at hl (by omega) rfl) ?_
      refine AW.iconst (v := 4) (pc := 30) dX5_uses_30 (by decide) ?_
      refine AW.iald2 (pc := 31) (n := 8) (g := T l) (j := 4) dX5_uses_31 (by omega) (hB.2.2.2 l hl) (vp_lit (by decide)) (by decide) ?_
      refine AW.iload_n (pc := 32) dX5_uses_32 rfl rfl ?_
      refine AW.icmp_ne (pc := 33) (tgt := 40) dX5_uses_33 (by decide) (fun c2 => ?_) (fun c2 => ?_)
      · refine AW.iconst (v := 0) (pc := 40) dX5_uses_40 (by decide) ?_
        exact AW.iret (pc := 41) dX5_uses_41 rfl (by decide) (by omega) (by omega) (by rw [if_neg (fun q => q.elim c (fun q => q.elim c1 c2))]; exact ⟨rfl, rfl, rfl⟩)
      · refine AW.iconst (v := 1) (pc := 36) dX5_uses_36 (by decide) ?_
        refine AW.goto (pc := 37) (tgt := 41) dX5_uses_37 (by decide) ?_
        exact AW.iret (pc := 41) dX5_uses_41 rfl (by decide) (by omega) (by omega) (by rw [if_pos (Or.inr (Or.inr c2))]; exact ⟨rfl, rfl, rfl⟩)
set_option maxRecDepth 100000 in
set_option maxHeartbeats 4000000 in
theorem c_B_driver {h : Hp} {x : Nat → Int32} {wi pe hz n : Nat} {T : Nat → Nat → Int32} {d k : Nat} {w : Nat} (hB : BN h x wi pe hz n T) (hT : ∀ l, l < n → T l 1 = nI l) (hw : w < 24) : AM mX5_driver d [.ref 1, .int (nI w)] h k 0 0 (RO h k (.int (if w < n then nI w else -1))) := by
  refine AM.intro (n := 2) (by decide) rfl rfl rfl ?_
  have hn := hB.2.1.2
  have key : ∀ (j : Nat) (f y : Int32), j ≤ n → f = (if j ≤ w ∧ w < n then nI w else -1) → y = nI j - 1 → AW aw_Z0 mX5_driver d k 0 0 (RO h k (.int (if w < n then nI w else -1))) 9 [.ref 1, .int (nI w), .int f, .int y] [] h k 0 0 := by
    intro j
    induction j with
    | zero =>
      intro f y hj hf hy
      subst hy
      refine AW.iload_n (pc := 9) dX5_driver_9 rfl rfl ?_
      refine AW.if_lt (pc := 10) (tgt := 37) dX5_driver_10 (by decide) (fun _ => ?_) (fun c => absurd (by decide) c)
      refine AW.iload_n (pc := 37) dX5_driver_37 rfl rfl ?_
      exact AW.iret (pc := 38) dX5_driver_38 rfl rfl (by omega) (by omega) (by rw [hf]; simp only [Nat.zero_le, true_and]; exact ⟨rfl, rfl, rfl⟩)
    | succ j ih =>
      intro f y hj hf hy
      rw [nI_p1] at hy
      subst hy
      have hl : j < n := by omega
      refine AW.iload_n (pc := 9) dX5_driver_9 rfl rfl ?_
      refine AW.if_lt (pc := 10) (tgt := 37) dX5_driver_10 (by decide) (fun c => absurd c (nI_pos (by omega))) (fun _ => ?_)
      refine AW.aload_n (pc := 13) dX5_driver_13 rfl rfl ?_
      refine AW.get (pc := 14) (i := 1) (ci := 5) (f := 4) (N := 14) (C := RX5) (T := TX5) dX5_driver_14 tw_654 rfl (by decide) rfl (by decide) (hB.1) rfl ?_
      refine AW.iload_n (pc := 17) dX5_driver_17 rfl rfl ?_
      refine AW.aald (pc := 18) (n := 30) (f := lnf n) (j := 79 + j) dX5_driver_18 (by decide) (hB.2.2.1) (vp_in_nI (by omega) (by decide)) (lnf_at hl (by omega) rfl) ?_
      refine AW.iconst (v := 1) (pc := 19) dX5_driver_19 (by decide) ?_
      refine AW.iald2 (pc := 20) (n := 8) (g := T j) (j := 1) dX5_driver_20 (by omega) (hB.2.2.2 j hl) (vp_lit (by decide)) (by decide) ?_
      refine AW.iload_n (pc := 21) dX5_driver_21 rfl rfl ?_
      rw [hT j hl]
      refine AW.icmp_ne (pc := 22) (tgt := 29) dX5_driver_22 (by decide) (fun c => ?_) (fun c => ?_)
      · refine AW.iload_n (pc := 29) dX5_driver_29 rfl rfl ?_
        refine AW.istore_n (L' := [.ref 1, .int (nI w), .int f, .int (nI j)]) (pc := 30) dX5_driver_30 rfl (by decide) rfl rfl ?_
        refine AW.iinc (v := ((nI j) + (-1))) (L' := [.ref 1, .int (nI w), .int f, .int ((nI j) + (-1))]) (pc := 31) dX5_driver_31 rfl rfl (by decide) rfl rfl ?_
        refine AW.goto (pc := 34) (tgt := 9) dX5_driver_34 (by decide) ?_
        exact ih _ _ (by omega) (by have hjw : ¬ j = w := fun e => c (by rw [e]); rw [hf]; by_cases q : j + 1 ≤ w ∧ w < n; rw [if_pos q, if_pos (by omega)]; rw [if_neg q, if_neg (by omega)]) (i_m1 _)
      · refine AW.iload_n (pc := 25) dX5_driver_25 rfl rfl ?_
        refine AW.goto (pc := 26) (tgt := 30) dX5_driver_26 (by decide) ?_
        refine AW.istore_n (L' := [.ref 1, .int (nI w), .int (nI j), .int (nI j)]) (pc := 30) dX5_driver_30 rfl (by decide) rfl rfl ?_
        refine AW.iinc (v := ((nI j) + (-1))) (L' := [.ref 1, .int (nI w), .int (nI j), .int ((nI j) + (-1))]) (pc := 31) dX5_driver_31 rfl rfl (by decide) rfl rfl ?_
        refine AW.goto (pc := 34) (tgt := 9) dX5_driver_34 (by decide) ?_
        exact ih _ _ (by omega) (by have hjw : j = w := (nI_eq (by omega) (by omega)).mp c; rw [if_pos (by omega), hjw]) (i_m1 _)
  refine AW.iconst (v := -1) (pc := 0) dX5_driver_0 (by decide) ?_
  refine AW.istore_n (L' := [.ref 1, .int (nI w), .int (-1 : Int32), .null]) (pc := 1) dX5_driver_1 rfl (by decide) rfl rfl ?_
  refine AW.aload_n (pc := 2) dX5_driver_2 rfl rfl ?_
  refine AW.get (pc := 3) (i := 1) (ci := 5) (f := 3) (N := 14) (C := RX5) (T := TX5) dX5_driver_3 tw_653 rfl (by decide) rfl (by decide) (hB.1) rfl ?_
  refine AW.iconst (v := 1) (pc := 6) dX5_driver_6 (by decide) ?_
  refine AW.isub (pc := 7) dX5_driver_7 ?_
  refine AW.istore_n (L' := [.ref 1, .int (nI w), .int (-1 : Int32), .int ((x 3) - (1 : Int32))]) (pc := 8) dX5_driver_8 rfl (by decide) rfl rfl ?_
  rw [hB.2.1.1]
  exact key n _ _ (Nat.le_refl n) (by rw [if_neg (by omega)]) rfl
set_option maxRecDepth 100000 in
set_option maxHeartbeats 4000000 in
theorem c_B_users {h : Hp} {x : Nat → Int32} {wi pe hz n : Nat} {T : Nat → Nat → Int32} {d k : Nat} {u : Int32} (hd : 2 ≤ d) (hB : BN h x wi pe hz n T) (hu : ∀ l, l < n → ¬ (T l 2 = u ∨ T l 3 = u ∨ T l 4 = u)) : AM mX5_users d [.ref 1, .int u] h k 0 0 (RO h k (.int 0)) := by
  refine AM.intro (n := 2) (by decide) rfl rfl rfl ?_
  have hn := hB.2.1.2
  have key : ∀ (r j : Nat) (y : Int32), j + r = n → y = nI j → AW aw_Z0 mX5_users d k 0 0 (RO h k (.int 0)) 4 [.ref 1, .int u, .int 0, .int y] [] h k 0 0 := by
    intro r
    induction r with
    | zero =>
      intro j y hj hy
      subst hy
      refine AW.iload_n (pc := 4) dX5_users_4 rfl rfl ?_
      refine AW.aload_n (pc := 5) dX5_users_5 rfl rfl ?_
      refine AW.get (pc := 6) (i := 1) (ci := 5) (f := 3) (N := 14) (C := RX5) (T := TX5) dX5_users_6 tw_653 rfl (by decide) rfl (by decide) (hB.1) rfl ?_
      rw [hB.2.1.1]
      refine AW.icmp_ge (pc := 9) (tgt := 35) dX5_users_9 (by decide) (fun _ => ?_) (fun c => absurd (nI_le (by omega) (by omega)) c)
      refine AW.iload_n (pc := 35) dX5_users_35 rfl rfl ?_
      exact AW.iret (pc := 36) dX5_users_36 rfl rfl (by omega) (by omega) (⟨rfl, rfl, rfl⟩)
    | succ r ih =>
      intro j y hj hy
      subst hy
      have hl : j < n := by omega
      refine AW.iload_n (pc := 4) dX5_users_4 rfl rfl ?_
      refine AW.aload_n (pc := 5) dX5_users_5 rfl rfl ?_
      refine AW.get (pc := 6) (i := 1) (ci := 5) (f := 3) (N := 14) (C := RX5) (T := TX5) dX5_users_6 tw_653 rfl (by decide) rfl (by decide) (hB.1) rfl ?_
      rw [hB.2.1.1]
      refine AW.icmp_ge (pc := 9) (tgt := 35) dX5_users_9 (by decide) (fun c => absurd c (nI_ge (by omega) (by omega))) (fun _ => ?_)
      refine AW.iload_n (pc := 12) dX5_users_12 rfl rfl ?_
      refine AW.aload_n (pc := 13) dX5_users_13 rfl rfl ?_
      refine AW.iload_n (pc := 14) dX5_users_14 rfl rfl ?_
      refine AW.iload_n (pc := 15) dX5_users_15 rfl rfl ?_
      refine AW.callV (pc := 16) (S' := [.int 0]) dX5_users_16 (c_B_uses (d := d - 1) hB hl) ok_X5_uses tw_777 tw_778 tw_810 (by decide) (hB.1) (show aw_cl[5]? = some _ from rfl) rfl rfl (by omega) rfl (Nat.le_of_ble_eq_true rfl) (by omega) (by omega) ?_ (fun E h' k' hq => by obtain ⟨hx9, -⟩ := hq; try cases hx9)
      intro v h' k' hq
      obtain ⟨hx9, rfl, rfl⟩ := hq
      cases hx9
      rw [if_neg (hu j hl)]
      show AW _ _ _ _ _ _ _ 19 [.ref 1, .int u, .int 0, .int (nI j)] [.int 0, .int 0] h k 0 0
      refine AW.if_eq (pc := 19) (tgt := 26) dX5_users_19 (by decide) (fun _ => ?_) (fun c => absurd (rfl) c)
      refine AW.iconst (v := 0) (pc := 26) dX5_users_26 (by decide) ?_
      refine AW.iadd (pc := 27) dX5_users_27 ?_
      refine AW.istore_n (L' := [.ref 1, .int u, .int (0 + (0 : Int32)), .int (nI j)]) (pc := 28) dX5_users_28 rfl (by decide) rfl rfl ?_
      refine AW.iinc (v := ((nI j) + 1)) (L' := [.ref 1, .int u, .int (0 + (0 : Int32)), .int ((nI j) + 1)]) (pc := 29) dX5_users_29 rfl rfl (by decide) rfl rfl ?_
      refine AW.goto (pc := 32) (tgt := 4) dX5_users_32 (by decide) ?_
      exact ih (j + 1) _ (by omega) (nI_1 j)
  refine AW.iconst (v := 0) (pc := 0) dX5_users_0 (by decide) ?_
  refine AW.istore_n (L' := [.ref 1, .int u, .int (0 : Int32), .null]) (pc := 1) dX5_users_1 rfl (by decide) rfl rfl ?_
  refine AW.iconst (v := 0) (pc := 2) dX5_users_2 (by decide) ?_
  refine AW.istore_n (L' := [.ref 1, .int u, .int (0 : Int32), .int (0 : Int32)]) (pc := 3) dX5_users_3 rfl (by decide) rfl rfl ?_
  exact key n 0 _ (by omega) rfl
