/-! the bench is made -/
def m0 : Mem := fun i => match i with
  | 13 => jfill (fun _ => 0) 24 (-1)
  | 24 => jfill (fun _ => 0) 24 2
  | 25 => jfill (fun _ => 0) 24 (-1)
  | 26 => jfill (fun _ => 0) 24 0
  | 27 => va_cpy (jfill (fun _ => 0) 24 2) (fun _ => 0) 0 0 24
  | 28 => jfill (fun _ => 0) 30 (-1)
  | 31 => jfill (fun _ => 0) 30 (-1)
  | 36 => jfill (fun _ => 0) 24 2
  | 37 => jfill (fun _ => 0) 24 (-1)
  | 38 => jfill (fun _ => 0) 24 0
  | 39 => va_cpy (jfill (fun _ => 0) 24 2) (fun _ => 0) 0 0 24
  | 40 => jfill (fun _ => 0) 30 (-1)
  | 43 => jfill (fun _ => 0) 30 (-1)
  | _ => fun _ => 0
abbrev iX : List Ce := [.inr (4, [.ref 2, .ref 14, .ref 19, .ref 21, .ref 23, .ref 35, .int 0]), .inr (1, [.ref 3, .ref 4, .ref 5, .ref 6, .ref 7, .ref 8, .ref 9, .ref 10, .ref 11, .ref 12, .ref 13, .int 0]), .inl (.int, 30, .inl (fun _ => 0)), .inl (.int, 30, .inl (fun _ => 0)), .inl (.int, 30, .inl (fun _ => 0)), .inl (.int, 30, .inl (fun _ => 0)), .inl (.int, 30, .inl (fun _ => 0)), .inl (.int, 30, .inl (fun _ => 0)), .inl (.int, 30, .inl (fun _ => 0)), .inl (.int, 30, .inl (fun _ => 0)), .inl (.int, 24, .inl (fun _ => 0)), .inl (.int, 24, .inl (fun _ => 0)), .inl (.int, 24, .inl (jfill (fun _ => 0) 24 (-1))), .inr (2, [.ref 15, .ref 16, .ref 17, .ref 18, .int 0, .int 0]), .inl (.int, 54, .inl (fun _ => 0)), .inl (.int, 54, .inl (fun _ => 0)), .inl (.boolean, 30, .inl (fun _ => 0)), .inl (.int, 24, .inl (fun _ => 0)), .inr (0, [.ref 20]), .inl (.int, 24, .inl (fun _ => 0)), .inr (0, [.ref 22]), .inl (.int, 24, .inl (fun _ => 0)), .inr (3, [.ref 2, .ref 24, .ref 25, .ref 26, .ref 27, .ref 28, .ref 29, .ref 30, .ref 31, .ref 32, .ref 33, .ref 34, .int 0, .int 0, .int 0, .int 0, .int 0, .int 0]), .inl (.int, 24, .inl (jfill (fun _ => 0) 24 2)), .inl (.int, 24, .inl (jfill (fun _ => 0) 24 (-1))), .inl (.int, 24, .inl (jfill (fun _ => 0) 24 0)), .inl (.int, 24, .inl (va_cpy (jfill (fun _ => 0) 24 2) (fun _ => 0) 0 0 24)), .inl (.int, 30, .inl (jfill (fun _ => 0) 30 (-1))), .inl (.int, 30, .inl (fun _ => 0)), .inl (.int, 30, .inl (fun _ => 0)), .inl (.int, 30, .inl (jfill (fun _ => 0) 30 (-1))), .inl (.int, 40, .inl (fun _ => 0)), .inl (.int, 40, .inl (fun _ => 0)), .inl (.int, 40, .inl (fun _ => 0)), .inr (3, [.ref 2, .ref 36, .ref 37, .ref 38, .ref 39, .ref 40, .ref 41, .ref 42, .ref 43, .ref 44, .ref 45, .ref 46, .int 0, .int 0, .int 0, .int 0, .int 0, .int 0]), .inl (.int, 24, .inl (jfill (fun _ => 0) 24 2)), .inl (.int, 24, .inl (jfill (fun _ => 0) 24 (-1))), .inl (.int, 24, .inl (jfill (fun _ => 0) 24 0)), .inl (.int, 24, .inl (va_cpy (jfill (fun _ => 0) 24 2) (fun _ => 0) 0 0 24)), .inl (.int, 30, .inl (jfill (fun _ => 0) 30 (-1))), .inl (.int, 30, .inl (fun _ => 0)), .inl (.int, 30, .inl (fun _ => 0)), .inl (.int, 30, .inl (jfill (fun _ => 0) 30 (-1))), .inl (.int, 40, .inl (fun _ => 0)), .inl (.int, 40, .inl (fun _ => 0)), .inl (.int, 40, .inl (fun _ => 0))]
theorem m0_iv : Iv 0 (va_up m0 60 S_clear) m0 0 := by
  have e : ∀ i, i ≠ 60 → (va_up m0 60 S_clear) i = m0 i := fun i hi => up_ne hi
  have hFL : FL m0 0 = [] := rfl
  have hFLw : FLw m0 0 24 = [] := rfl
  refine ⟨?_, ?_, fun l h => absurd h (Nat.not_lt_zero l), fun l h => absurd h (Nat.not_lt_zero l), fun l hl => ?_, ?_, ?_, ?_, ?_, fun q h => absurd h (Nat.not_lt_zero q), ?_, fun w hw => ?_, 0, Nat.le_refl 0, ?_⟩
  · unfold MC
    rw [e 47 (by omega), e 48 (by omega), e 49 (by omega), e 50 (by omega), e 51 (by omega), e 52 (by omega), e 53 (by omega), e 54 (by omega), e 55 (by omega)]
    exact ⟨by omega, rfl, rfl, rfl, rfl, rfl, rfl, rfl, rfl, rfl⟩
  · refine ⟨by omega, by rw [e 2 (by omega)]; rfl, fun l h => absurd h (Nat.not_lt_zero l), fun w hw i hi => ?_, fun w hw => by rw [e 12 (by omega)]; rfl, fun w hw => ?_⟩
    · rw [e 11 (by omega)]
      have : bt (m0 11 w) i = false := bt_zero.mp rfl i hi
      rw [this]
      exact ⟨fun h => (by cases h), fun h => absurd h.1 (Nat.not_lt_zero i)⟩
    · rw [e 13 (by omega)]
      show jfill (fun _ => 0) 24 (-1) w = -1
      exact jfill_in hw
  · rw [e 9 (by omega), e 10 (by omega)]; exact ⟨rfl, rfl⟩
  · rw [up_same]; exact RW.clear
  · rw [up_same]
    refine ⟨fun w hw => ?_, fun w hw => ?_, fun w hw => ?_, fun w hw => ?_, fun l hl => ?_, fun l hl hp => ?_, fun l hl => ?_, ?_, ?_, ?_, ?_, ?_, ?_, fun q hq hlt => ?_⟩
    · rw [S_clear_at, if_pos (by omega), e _ (by omega)]; show jfill (fun _ => 0) 24 2 w = 2; exact jfill_in hw
    · rw [S_clear_at, if_neg (by omega), if_pos (by omega), e _ (by omega)]; show jfill (fun _ => 0) 24 (-1) w = -1; exact jfill_in hw
    · rw [S_clear_at, if_neg (by omega), if_neg (by omega), if_neg (by omega), if_neg (by omega), if_neg (by omega), e _ (by omega)]; show jfill (fun _ => 0) 24 0 w = 0; exact jfill_in hw
    · rw [S_clear_at, if_neg (by omega), if_neg (by omega), if_pos (by omega), e _ (by omega)]; show va_cpy (jfill (fun _ => 0) 24 2) (fun _ => 0) 0 0 24 w = 2; exact (cpy_in hw).trans (jfill_in hw)
    · rw [S_clear_at, if_neg (by omega), if_neg (by omega), if_neg (by omega), if_pos (by omega), e _ (by omega)]; show jfill (fun _ => 0) 30 (-1) l = -1; exact jfill_in hl
    · rw [S_clear_at, if_neg (by omega), if_neg (by omega), if_neg (by omega), if_pos (by omega)] at hp; exact absurd rfl hp
    · rw [S_clear_at, if_neg (by omega), if_neg (by omega), if_neg (by omega), if_neg (by omega), if_pos (by omega), e _ (by omega)]; show jfill (fun _ => 0) 30 (-1) l = -1; exact jfill_in hl
    · rw [e 23 (by omega)]; rfl
    · rw [e 23 (by omega)]; rfl
    · rw [e 23 (by omega)]; rfl
    · rw [e 23 (by omega)]; rfl
    · rw [e 23 (by omega)]; rfl
    · rw [e 23 (by omega)]; rfl
    · rw [show cl (S_clear 5) = 0 by decide] at hlt; omega
  · rw [e 1 (by omega), e 47 (by omega)]; exact ⟨rfl, Or.inl rfl⟩
  · rw [hFL]
    exact ⟨by rw [e 14 (by omega)]; rfl, fun i p hp => by cases hp⟩
  · rw [hFLw, e 14 (by omega)]; rfl
  · rw [e 20 (by omega)]
    rfl
  · rw [up_same]; rfl
theorem init_lay {h0 : Hp} : ∀ i, 0 < i → i < 47 → ov 1 iX h0 i = layC m0 i
  | 0, h, _ => absurd h (Nat.lt_irrefl 0)
  | 1, _, _ => rfl
  | 2, _, _ => rfl
  | 3, _, _ => rfl
  | 4, _, _ => rfl
  | 5, _, _ => rfl
  | 6, _, _ => rfl
  | 7, _, _ => rfl
  | 8, _, _ => rfl
  | 9, _, _ => rfl
  | 10, _, _ => rfl
  | 11, _, _ => rfl
  | 12, _, _ => rfl
  | 13, _, _ => rfl
  | 14, _, _ => rfl
  | 15, _, _ => rfl
  | 16, _, _ => rfl
  | 17, _, _ => rfl
  | 18, _, _ => rfl
  | 19, _, _ => rfl
  | 20, _, _ => rfl
  | 21, _, _ => rfl
  | 22, _, _ => rfl
  | 23, _, _ => rfl
  | 24, _, _ => rfl
  | 25, _, _ => rfl
  | 26, _, _ => rfl
  | 27, _, _ => rfl
  | 28, _, _ => rfl
  | 29, _, _ => rfl
  | 30, _, _ => rfl
  | 31, _, _ => rfl
  | 32, _, _ => rfl
  | 33, _, _ => rfl
  | 34, _, _ => rfl
  | 35, _, _ => rfl
  | 36, _, _ => rfl
  | 37, _, _ => rfl
  | 38, _, _ => rfl
  | 39, _, _ => rfl
  | 40, _, _ => rfl
  | 41, _, _ => rfl
  | 42, _, _ => rfl
  | 43, _, _ => rfl
  | 44, _, _ => rfl
  | 45, _, _ => rfl
  | 46, _, _ => rfl
  | n + 47, _, h => by omega
theorem emb_123 : emb 1 2 3 = fun r => 1 + r := by
  funext r
  unfold emb
  split <;> omega
set_option maxRecDepth 100000 in
set_option maxHeartbeats 4000000 in
theorem c_B_init {h : Hp} {q d : Nat} (hd : 6 ≤ d) (hE : h 1 = .inr (5, [.null, .null, .int 0, .int 0, .null, .int 0, .int 0, .int 0, .int 0, .int 0, .null, .null, .null, .null])) : AM mX5_init d [.ref 1, .ref 0, .int (nI q)] h 2 77 1437 (fun oc h' k' => oc = .inl none ∧ k' = 79 ∧ FD h' h' 49 53 54 q 0 ∧ h' 49 = qrow 24 (wf 55) ∧ ∃ r, h' 51 = irow 30 r) := by
  refine AM.intro (n := 0) (by decide) rfl rfl rfl ?_
  refine AW.aload_n (pc := 0) dX5_init_0 rfl rfl ?_
  refine AW.objInit (pc := 1) dX5_init_1 tw_429 tw_53 tw_54 (Nat.le_of_ble_eq_true rfl) ?_
  refine AW.aload_n (pc := 4) dX5_init_4 rfl rfl ?_
  refine AW.new (ci := 4) (N := 7) (C := RX4) (T := TX4) (fs := [.null, .null, .null, .null, .null, .null, .int 0]) (pc := 5) dX5_init_5 tw_430 tw_142 tw_2 rfl (by decide) (by simp) (by omega) (by omega) ?_
  show AW _ _ _ _ _ _ _ 8 [.ref 1, .ref 0, .int (nI q)] [.ref 2, .ref 1] (va_up h 2 (.inr (4, [.null, .null, .null, .null, .null, .null, .int 0]))) 3 (0 + 1) (0 + 7)
  refine AW.dup (pc := 8) dX5_init_8 rfl ?_
  refine AW.callI (pc := 9) (S' := [.ref 2, .ref 1]) dX5_init_9 (AM.frame (h := ov 1 [.inr (4, [.null, .null, .null, .null, .null, .null, .int 0])] (fun _ => .inr (0, []))) (k := 2) (K := 3) (b := 1) (c0_N_init_1 (d := d - 1) (by omega)) (by decide) (by decide) (fun i i0 ik => by obtain rfl : i = 1 := (by omega); exact up_same) (fun i i0 ik => by obtain rfl : i = 1 := (by omega); show ∀ v ∈ (_ : List Value), aw_ok 2 v; simp [aw_ok]) (fun v hv => by rw [List.mem_singleton] at hv; subst hv; exact Nat.one_lt_two) rfl) ok_X4_init tw_432 rfl rfl tw_431 rfl (by omega) rfl (Nat.le_of_ble_eq_true rfl) (by omega) (by omega) (fun E h' k' hq => by obtain ⟨oc, h2, k2, ⟨rfl, -⟩, -, -, hoc, -⟩ := hq; cases hoc) ?_
  intro v h' k' hq
  obtain ⟨oc, h2, k2, ⟨rfl, rfl, rfl⟩, -, hk2, hoc, g1, g2⟩ := hq
  cases Sum.inl.inj hoc
  subst hk2
  have hC0 : CLS h' m0 := fun i i0 ik => by have e := g1 i i0 ik; rw [emb_123] at e; rw [← init_lay (h0 := fun _ => .inr (0, [])) i i0 ik]; exact e
  have hE1 : h' 1 = .inr (5, [.null, .null, .int 0, .int 0, .null, .int 0, .int 0, .int 0, .int 0, .int 0, .null, .null, .null, .null]) := (g2 1 (by decide) (by decide) (Or.inl (by decide))).trans ((up_ne (by decide)).trans hE)
  clear g1 g2 hoc
  show AW _ _ _ _ _ _ _ 12 [.ref 1, .ref 0, .int (nI q)] [.ref 2, .ref 1] h' 48 (0 + 1 + 45) (0 + 7 + 1250)
  refine AW.putF (i := 1) (ci := 5) (f := 0) (N := 14) (C := RX5) (T := TX5) (fs' := [.ref 2, .null, .int 0, .int 0, .null, .int 0, .int 0, .int 0, .int 0, .int 0, .null, .null, .null, .null]) (pc := 12) dX5_init_12 tw_648 rfl (by decide) rfl (by decide) (hE1) (Nat.le_of_ble_eq_true rfl) rfl rfl rfl (fun _ => ⟨rfl, rfl⟩) rfl ?_
  show AW _ _ _ _ _ _ _ 15 [.ref 1, .ref 0, .int (nI q)] [] (va_up h' 1 (.inr (5, [.ref 2, .null, .int 0, .int 0, .null, .int 0, .int 0, .int 0, .int 0, .int 0, .null, .null, .null, .null]))) 48 (0 + 1 + 45) (0 + 7 + 1250)
  refine AW.aload_n (pc := 15) dX5_init_15 rfl rfl ?_
  refine AW.bipush (v := 30) (pc := 16) dX5_init_16 (by decide) ?_
  refine AW.newq (pc := 18) (N := 30) dX5_init_18 tw_642 (by decide) (by decide) (by decide) (by omega) (by omega) ?_
  show AW _ _ _ _ _ _ _ 21 [.ref 1, .ref 0, .int (nI q)] [.ref 48, .ref 1] (va_up (va_up h' 1 (.inr (5, [.ref 2, .null, .int 0, .int 0, .null, .int 0, .int 0, .int 0, .int 0, .int 0, .null, .null, .null, .null]))) 48 (qrow 30 (fun _ => none))) 49 ((0 + 1 + 45) + 1) ((0 + 7 + 1250) + 30)
  refine AW.putF (i := 1) (ci := 5) (f := 4) (N := 14) (C := RX5) (T := TX5) (fs' := [.ref 2, .null, .int 0, .int 0, .ref 48, .int 0, .int 0, .int 0, .int 0, .int 0, .null, .null, .null, .null]) (pc := 21) dX5_init_21 tw_654 rfl (by decide) rfl (by decide) ((up_ne (by decide)).trans up_same) (Nat.le_of_ble_eq_true rfl) rfl rfl rfl (fun _ => ⟨rfl, rfl⟩) rfl ?_
  show AW _ _ _ _ _ _ _ 24 [.ref 1, .ref 0, .int (nI q)] [] (va_up (va_up (va_up h' 1 (.inr (5, [.ref 2, .null, .int 0, .int 0, .null, .int 0, .int 0, .int 0, .int 0, .int 0, .null, .null, .null, .null]))) 48 (qrow 30 (fun _ => none))) 1 (.inr (5, [.ref 2, .null, .int 0, .int 0, .ref 48, .int 0, .int 0, .int 0, .int 0, .int 0, .null, .null, .null, .null]))) 49 ((0 + 1 + 45) + 1) ((0 + 7 + 1250) + 30)
  refine AW.aload_n (pc := 24) dX5_init_24 rfl rfl ?_
  refine AW.bipush (v := 24) (pc := 25) dX5_init_25 (by decide) ?_
  refine AW.newq (pc := 27) (N := 24) dX5_init_27 tw_642 (by decide) (by decide) (by decide) (by omega) (by omega) ?_
  show AW _ _ _ _ _ _ _ 30 [.ref 1, .ref 0, .int (nI q)] [.ref 49, .ref 1] (va_up (va_up (va_up (va_up h' 1 (.inr (5, [.ref 2, .null, .int 0, .int 0, .null, .int 0, .int 0, .int 0, .int 0, .int 0, .null, .null, .null, .null]))) 48 (qrow 30 (fun _ => none))) 1 (.inr (5, [.ref 2, .null, .int 0, .int 0, .ref 48, .int 0, .int 0, .int 0, .int 0, .int 0, .null, .null, .null, .null]))) 49 (qrow 24 (fun _ => none))) 50 (((0 + 1 + 45) + 1) + 1) (((0 + 7 + 1250) + 30) + 24)
  refine AW.put (pc := 30) (i := 1) (ci := 5) (f := 10) (N := 14) (C := RX5) (T := TX5) (fs' := [.ref 2, .null, .int 0, .int 0, .ref 48, .int 0, .int 0, .int 0, .int 0, .int 0, .ref 49, .null, .null, .null]) dX5_init_30 tw_661 rfl (by decide) rfl (by decide) ((up_ne (by decide)).trans up_same) (Nat.le_of_ble_eq_true rfl) rfl (fun _ => ⟨rfl, rfl⟩) rfl ?_
  show AW _ _ _ _ _ _ _ 33 [.ref 1, .ref 0, .int (nI q)] [] (va_up (va_up (va_up (va_up (va_up h' 1 (.inr (5, [.ref 2, .null, .int 0, .int 0, .null, .int 0, .int 0, .int 0, .int 0, .int 0, .null, .null, .null, .null]))) 48 (qrow 30 (fun _ => none))) 1 (.inr (5, [.ref 2, .null, .int 0, .int 0, .ref 48, .int 0, .int 0, .int 0, .int 0, .int 0, .null, .null, .null, .null]))) 49 (qrow 24 (fun _ => none))) 1 (.inr (5, [.ref 2, .null, .int 0, .int 0, .ref 48, .int 0, .int 0, .int 0, .int 0, .int 0, .ref 49, .null, .null, .null]))) 50 (((0 + 1 + 45) + 1) + 1) (((0 + 7 + 1250) + 30) + 24)
  refine AW.aload_n (pc := 33) dX5_init_33 rfl rfl ?_
  refine AW.iconst (v := 0) (pc := 34) dX5_init_34 (by decide) ?_
  refine AW.newq (pc := 35) (N := 0) dX5_init_35 tw_642 (by decide) (by decide) (by decide) (by omega) (by omega) ?_
  show AW _ _ _ _ _ _ _ 38 [.ref 1, .ref 0, .int (nI q)] [.ref 50, .ref 1] (va_up (va_up (va_up (va_up (va_up (va_up h' 1 (.inr (5, [.ref 2, .null, .int 0, .int 0, .null, .int 0, .int 0, .int 0, .int 0, .int 0, .null, .null, .null, .null]))) 48 (qrow 30 (fun _ => none))) 1 (.inr (5, [.ref 2, .null, .int 0, .int 0, .ref 48, .int 0, .int 0, .int 0, .int 0, .int 0, .null, .null, .null, .null]))) 49 (qrow 24 (fun _ => none))) 1 (.inr (5, [.ref 2, .null, .int 0, .int 0, .ref 48, .int 0, .int 0, .int 0, .int 0, .int 0, .ref 49, .null, .null, .null]))) 50 (qrow 0 (fun _ => none))) 51 ((((0 + 1 + 45) + 1) + 1) + 1) ((((0 + 7 + 1250) + 30) + 24) + 0)
  refine AW.put (pc := 38) (i := 1) (ci := 5) (f := 11) (N := 14) (C := RX5) (T := TX5) (fs' := [.ref 2, .null, .int 0, .int 0, .ref 48, .int 0, .int 0, .int 0, .int 0, .int 0, .ref 49, .ref 50, .null, .null]) dX5_init_38 tw_662 rfl (by decide) rfl (by decide) ((up_ne (by decide)).trans up_same) (Nat.le_of_ble_eq_true rfl) rfl (fun _ => ⟨rfl, rfl⟩) rfl ?_
  show AW _ _ _ _ _ _ _ 41 [.ref 1, .ref 0, .int (nI q)] [] (va_up (va_up (va_up (va_up (va_up (va_up (va_up h' 1 (.inr (5, [.ref 2, .null, .int 0, .int 0, .null, .int 0, .int 0, .int 0, .int 0, .int 0, .null, .null, .null, .null]))) 48 (qrow 30 (fun _ => none))) 1 (.inr (5, [.ref 2, .null, .int 0, .int 0, .ref 48, .int 0, .int 0, .int 0, .int 0, .int 0, .null, .null, .null, .null]))) 49 (qrow 24 (fun _ => none))) 1 (.inr (5, [.ref 2, .null, .int 0, .int 0, .ref 48, .int 0, .int 0, .int 0, .int 0, .int 0, .ref 49, .null, .null, .null]))) 50 (qrow 0 (fun _ => none))) 1 (.inr (5, [.ref 2, .null, .int 0, .int 0, .ref 48, .int 0, .int 0, .int 0, .int 0, .int 0, .ref 49, .ref 50, .null, .null]))) 51 ((((0 + 1 + 45) + 1) + 1) + 1) ((((0 + 7 + 1250) + 30) + 24) + 0)
  refine AW.aload_n (pc := 41) dX5_init_41 rfl rfl ?_
  refine AW.bipush (v := 30) (pc := 42) dX5_init_42 (by decide) ?_
  refine AW.newa (ty := .int) (N := 30) (a0 := (30, .inl (fun _ => 0))) (pc := 44) dX5_init_44 rfl (Or.inl rfl) tw_501 (fun _ => rfl) (by decide) (by decide) (by decide) (by omega) (by omega) ?_
  show AW _ _ _ _ _ _ _ 46 [.ref 1, .ref 0, .int (nI q)] [.ref 51, .ref 1] (va_up (va_up (va_up (va_up (va_up (va_up (va_up (va_up h' 1 (.inr (5, [.ref 2, .null, .int 0, .int 0, .null, .int 0, .int 0, .int 0, .int 0, .int 0, .null, .null, .null, .null]))) 48 (qrow 30 (fun _ => none))) 1 (.inr (5, [.ref 2, .null, .int 0, .int 0, .ref 48, .int 0, .int 0, .int 0, .int 0, .int 0, .null, .null, .null, .null]))) 49 (qrow 24 (fun _ => none))) 1 (.inr (5, [.ref 2, .null, .int 0, .int 0, .ref 48, .int 0, .int 0, .int 0, .int 0, .int 0, .ref 49, .null, .null, .null]))) 50 (qrow 0 (fun _ => none))) 1 (.inr (5, [.ref 2, .null, .int 0, .int 0, .ref 48, .int 0, .int 0, .int 0, .int 0, .int 0, .ref 49, .ref 50, .null, .null]))) 51 (.inl (.int, 30, .inl (fun _ => 0)))) 52 (((((0 + 1 + 45) + 1) + 1) + 1) + 1) (((((0 + 7 + 1250) + 30) + 24) + 0) + 30)
  refine AW.putF (i := 1) (ci := 5) (f := 12) (N := 14) (C := RX5) (T := TX5) (fs' := [.ref 2, .null, .int 0, .int 0, .ref 48, .int 0, .int 0, .int 0, .int 0, .int 0, .ref 49, .ref 50, .ref 51, .null]) (pc := 46) dX5_init_46 tw_663 rfl (by decide) rfl (by decide) ((up_ne (by decide)).trans up_same) (Nat.le_of_ble_eq_true rfl) rfl rfl rfl (fun _ => ⟨rfl, rfl⟩) rfl ?_
  show AW _ _ _ _ _ _ _ 49 [.ref 1, .ref 0, .int (nI q)] [] (va_up (va_up (va_up (va_up (va_up (va_up (va_up (va_up (va_up h' 1 (.inr (5, [.ref 2, .null, .int 0, .int 0, .null, .int 0, .int 0, .int 0, .int 0, .int 0, .null, .null, .null, .null]))) 48 (qrow 30 (fun _ => none))) 1 (.inr (5, [.ref 2, .null, .int 0, .int 0, .ref 48, .int 0, .int 0, .int 0, .int 0, .int 0, .null, .null, .null, .null]))) 49 (qrow 24 (fun _ => none))) 1 (.inr (5, [.ref 2, .null, .int 0, .int 0, .ref 48, .int 0, .int 0, .int 0, .int 0, .int 0, .ref 49, .null, .null, .null]))) 50 (qrow 0 (fun _ => none))) 1 (.inr (5, [.ref 2, .null, .int 0, .int 0, .ref 48, .int 0, .int 0, .int 0, .int 0, .int 0, .ref 49, .ref 50, .null, .null]))) 51 (.inl (.int, 30, .inl (fun _ => 0)))) 1 (.inr (5, [.ref 2, .null, .int 0, .int 0, .ref 48, .int 0, .int 0, .int 0, .int 0, .int 0, .ref 49, .ref 50, .ref 51, .null]))) 52 (((((0 + 1 + 45) + 1) + 1) + 1) + 1) (((((0 + 7 + 1250) + 30) + 24) + 0) + 30)
  refine AW.aload_n (pc := 49) dX5_init_49 rfl rfl ?_
  refine AW.iconst (v := 0) (pc := 50) dX5_init_50 (by decide) ?_
  refine AW.newq (pc := 51) (N := 0) dX5_init_51 tw_642 (by decide) (by decide) (by decide) (by omega) (by omega) ?_
  show AW _ _ _ _ _ _ _ 54 [.ref 1, .ref 0, .int (nI q)] [.ref 52, .ref 1] (va_up (va_up (va_up (va_up (va_up (va_up (va_up (va_up (va_up (va_up h' 1 (.inr (5, [.ref 2, .null, .int 0, .int 0, .null, .int 0, .int 0, .int 0, .int 0, .int 0, .null, .null, .null, .null]))) 48 (qrow 30 (fun _ => none))) 1 (.inr (5, [.ref 2, .null, .int 0, .int 0, .ref 48, .int 0, .int 0, .int 0, .int 0, .int 0, .null, .null, .null, .null]))) 49 (qrow 24 (fun _ => none))) 1 (.inr (5, [.ref 2, .null, .int 0, .int 0, .ref 48, .int 0, .int 0, .int 0, .int 0, .int 0, .ref 49, .null, .null, .null]))) 50 (qrow 0 (fun _ => none))) 1 (.inr (5, [.ref 2, .null, .int 0, .int 0, .ref 48, .int 0, .int 0, .int 0, .int 0, .int 0, .ref 49, .ref 50, .null, .null]))) 51 (.inl (.int, 30, .inl (fun _ => 0)))) 1 (.inr (5, [.ref 2, .null, .int 0, .int 0, .ref 48, .int 0, .int 0, .int 0, .int 0, .int 0, .ref 49, .ref 50, .ref 51, .null]))) 52 (qrow 0 (fun _ => none))) 53 ((((((0 + 1 + 45) + 1) + 1) + 1) + 1) + 1) ((((((0 + 7 + 1250) + 30) + 24) + 0) + 30) + 0)
  refine AW.put (pc := 54) (i := 1) (ci := 5) (f := 13) (N := 14) (C := RX5) (T := TX5) (fs' := [.ref 2, .null, .int 0, .int 0, .ref 48, .int 0, .int 0, .int 0, .int 0, .int 0, .ref 49, .ref 50, .ref 51, .ref 52]) dX5_init_54 tw_664 rfl (by decide) rfl (by decide) ((up_ne (by decide)).trans up_same) (Nat.le_of_ble_eq_true rfl) rfl (fun _ => ⟨rfl, rfl⟩) rfl ?_
  show AW _ _ _ _ _ _ _ 57 [.ref 1, .ref 0, .int (nI q)] [] (va_up (va_up (va_up (va_up (va_up (va_up (va_up (va_up (va_up (va_up (va_up h' 1 (.inr (5, [.ref 2, .null, .int 0, .int 0, .null, .int 0, .int 0, .int 0, .int 0, .int 0, .null, .null, .null, .null]))) 48 (qrow 30 (fun _ => none))) 1 (.inr (5, [.ref 2, .null, .int 0, .int 0, .ref 48, .int 0, .int 0, .int 0, .int 0, .int 0, .null, .null, .null, .null]))) 49 (qrow 24 (fun _ => none))) 1 (.inr (5, [.ref 2, .null, .int 0, .int 0, .ref 48, .int 0, .int 0, .int 0, .int 0, .int 0, .ref 49, .null, .null, .null]))) 50 (qrow 0 (fun _ => none))) 1 (.inr (5, [.ref 2, .null, .int 0, .int 0, .ref 48, .int 0, .int 0, .int 0, .int 0, .int 0, .ref 49, .ref 50, .null, .null]))) 51 (.inl (.int, 30, .inl (fun _ => 0)))) 1 (.inr (5, [.ref 2, .null, .int 0, .int 0, .ref 48, .int 0, .int 0, .int 0, .int 0, .int 0, .ref 49, .ref 50, .ref 51, .null]))) 52 (qrow 0 (fun _ => none))) 1 (.inr (5, [.ref 2, .null, .int 0, .int 0, .ref 48, .int 0, .int 0, .int 0, .int 0, .int 0, .ref 49, .ref 50, .ref 51, .ref 52]))) 53 ((((((0 + 1 + 45) + 1) + 1) + 1) + 1) + 1) ((((((0 + 7 + 1250) + 30) + 24) + 0) + 30) + 0)
  refine AW.aload_n (pc := 57) dX5_init_57 rfl rfl ?_
  refine AW.aload_n (pc := 58) dX5_init_58 rfl rfl ?_
  refine AW.putF (i := 1) (ci := 5) (f := 1) (N := 14) (C := RX5) (T := TX5) (fs' := [.ref 2, .ref 0, .int 0, .int 0, .ref 48, .int 0, .int 0, .int 0, .int 0, .int 0, .ref 49, .ref 50, .ref 51, .ref 52]) (pc := 59) dX5_init_59 tw_650 rfl (by decide) rfl (by decide) (up_same) (Nat.le_of_ble_eq_true rfl) rfl rfl rfl (fun _ => ⟨rfl, rfl⟩) rfl ?_
  show AW _ _ _ _ _ _ _ 62 [.ref 1, .ref 0, .int (nI q)] [] (va_up (va_up (va_up (va_up (va_up (va_up (va_up (va_up (va_up (va_up (va_up (va_up h' 1 (.inr (5, [.ref 2, .null, .int 0, .int 0, .null, .int 0, .int 0, .int 0, .int 0, .int 0, .null, .null, .null, .null]))) 48 (qrow 30 (fun _ => none))) 1 (.inr (5, [.ref 2, .null, .int 0, .int 0, .ref 48, .int 0, .int 0, .int 0, .int 0, .int 0, .null, .null, .null, .null]))) 49 (qrow 24 (fun _ => none))) 1 (.inr (5, [.ref 2, .null, .int 0, .int 0, .ref 48, .int 0, .int 0, .int 0, .int 0, .int 0, .ref 49, .null, .null, .null]))) 50 (qrow 0 (fun _ => none))) 1 (.inr (5, [.ref 2, .null, .int 0, .int 0, .ref 48, .int 0, .int 0, .int 0, .int 0, .int 0, .ref 49, .ref 50, .null, .null]))) 51 (.inl (.int, 30, .inl (fun _ => 0)))) 1 (.inr (5, [.ref 2, .null, .int 0, .int 0, .ref 48, .int 0, .int 0, .int 0, .int 0, .int 0, .ref 49, .ref 50, .ref 51, .null]))) 52 (qrow 0 (fun _ => none))) 1 (.inr (5, [.ref 2, .null, .int 0, .int 0, .ref 48, .int 0, .int 0, .int 0, .int 0, .int 0, .ref 49, .ref 50, .ref 51, .ref 52]))) 1 (.inr (5, [.ref 2, .ref 0, .int 0, .int 0, .ref 48, .int 0, .int 0, .int 0, .int 0, .int 0, .ref 49, .ref 50, .ref 51, .ref 52]))) 53 ((((((0 + 1 + 45) + 1) + 1) + 1) + 1) + 1) ((((((0 + 7 + 1250) + 30) + 24) + 0) + 30) + 0)
  refine AW.aload_n (pc := 62) dX5_init_62 rfl rfl ?_
  refine AW.iload_n (pc := 63) dX5_init_63 rfl rfl ?_
  refine AW.put (pc := 64) (i := 1) (ci := 5) (f := 2) (N := 14) (C := RX5) (T := TX5) (fs' := [.ref 2, .ref 0, .int (nI q), .int 0, .ref 48, .int 0, .int 0, .int 0, .int 0, .int 0, .ref 49, .ref 50, .ref 51, .ref 52]) dX5_init_64 tw_651 rfl (by decide) rfl (by decide) (up_same) (Nat.le_of_ble_eq_true rfl) rfl (fun _ => ⟨rfl, rfl⟩) rfl ?_
  show AW _ _ _ _ _ _ _ 67 [.ref 1, .ref 0, .int (nI q)] [] (va_up (va_up (va_up (va_up (va_up (va_up (va_up (va_up (va_up (va_up (va_up (va_up (va_up h' 1 (.inr (5, [.ref 2, .null, .int 0, .int 0, .null, .int 0, .int 0, .int 0, .int 0, .int 0, .null, .null, .null, .null]))) 48 (qrow 30 (fun _ => none))) 1 (.inr (5, [.ref 2, .null, .int 0, .int 0, .ref 48, .int 0, .int 0, .int 0, .int 0, .int 0, .null, .null, .null, .null]))) 49 (qrow 24 (fun _ => none))) 1 (.inr (5, [.ref 2, .null, .int 0, .int 0, .ref 48, .int 0, .int 0, .int 0, .int 0, .int 0, .ref 49, .null, .null, .null]))) 50 (qrow 0 (fun _ => none))) 1 (.inr (5, [.ref 2, .null, .int 0, .int 0, .ref 48, .int 0, .int 0, .int 0, .int 0, .int 0, .ref 49, .ref 50, .null, .null]))) 51 (.inl (.int, 30, .inl (fun _ => 0)))) 1 (.inr (5, [.ref 2, .null, .int 0, .int 0, .ref 48, .int 0, .int 0, .int 0, .int 0, .int 0, .ref 49, .ref 50, .ref 51, .null]))) 52 (qrow 0 (fun _ => none))) 1 (.inr (5, [.ref 2, .null, .int 0, .int 0, .ref 48, .int 0, .int 0, .int 0, .int 0, .int 0, .ref 49, .ref 50, .ref 51, .ref 52]))) 1 (.inr (5, [.ref 2, .ref 0, .int 0, .int 0, .ref 48, .int 0, .int 0, .int 0, .int 0, .int 0, .ref 49, .ref 50, .ref 51, .ref 52]))) 1 (.inr (5, [.ref 2, .ref 0, .int (nI q), .int 0, .ref 48, .int 0, .int 0, .int 0, .int 0, .int 0, .ref 49, .ref 50, .ref 51, .ref 52]))) 53 ((((((0 + 1 + 45) + 1) + 1) + 1) + 1) + 1) ((((((0 + 7 + 1250) + 30) + 24) + 0) + 30) + 0)
  refine AW.aload_n (pc := 67) dX5_init_67 rfl rfl ?_
  have hC1 : CLS (va_up (va_up (va_up (va_up (va_up (va_up (va_up (va_up (va_up (va_up (va_up (va_up (va_up h' 1 (.inr (5, [.ref 2, .null, .int 0, .int 0, .null, .int 0, .int 0, .int 0, .int 0, .int 0, .null, .null, .null, .null]))) 48 (qrow 30 (fun _ => none))) 1 (.inr (5, [.ref 2, .null, .int 0, .int 0, .ref 48, .int 0, .int 0, .int 0, .int 0, .int 0, .null, .null, .null, .null]))) 49 (qrow 24 (fun _ => none))) 1 (.inr (5, [.ref 2, .null, .int 0, .int 0, .ref 48, .int 0, .int 0, .int 0, .int 0, .int 0, .ref 49, .null, .null, .null]))) 50 (qrow 0 (fun _ => none))) 1 (.inr (5, [.ref 2, .null, .int 0, .int 0, .ref 48, .int 0, .int 0, .int 0, .int 0, .int 0, .ref 49, .ref 50, .null, .null]))) 51 (.inl (.int, 30, .inl (fun _ => 0)))) 1 (.inr (5, [.ref 2, .null, .int 0, .int 0, .ref 48, .int 0, .int 0, .int 0, .int 0, .int 0, .ref 49, .ref 50, .ref 51, .null]))) 52 (qrow 0 (fun _ => none))) 1 (.inr (5, [.ref 2, .null, .int 0, .int 0, .ref 48, .int 0, .int 0, .int 0, .int 0, .int 0, .ref 49, .ref 50, .ref 51, .ref 52]))) 1 (.inr (5, [.ref 2, .ref 0, .int 0, .int 0, .ref 48, .int 0, .int 0, .int 0, .int 0, .int 0, .ref 49, .ref 50, .ref 51, .ref 52]))) 1 (.inr (5, [.ref 2, .ref 0, .int (nI q), .int 0, .ref 48, .int 0, .int 0, .int 0, .int 0, .int 0, .ref 49, .ref 50, .ref 51, .ref 52]))) m0 := hC0.same fun i i2 i48 => by simp (disch := omega) only [up_ne]
  have hB1 : BN (va_up (va_up (va_up (va_up (va_up (va_up (va_up (va_up (va_up (va_up (va_up (va_up (va_up h' 1 (.inr (5, [.ref 2, .null, .int 0, .int 0, .null, .int 0, .int 0, .int 0, .int 0, .int 0, .null, .null, .null, .null]))) 48 (qrow 30 (fun _ => none))) 1 (.inr (5, [.ref 2, .null, .int 0, .int 0, .ref 48, .int 0, .int 0, .int 0, .int 0, .int 0, .null, .null, .null, .null]))) 49 (qrow 24 (fun _ => none))) 1 (.inr (5, [.ref 2, .null, .int 0, .int 0, .ref 48, .int 0, .int 0, .int 0, .int 0, .int 0, .ref 49, .null, .null, .null]))) 50 (qrow 0 (fun _ => none))) 1 (.inr (5, [.ref 2, .null, .int 0, .int 0, .ref 48, .int 0, .int 0, .int 0, .int 0, .int 0, .ref 49, .ref 50, .null, .null]))) 51 (.inl (.int, 30, .inl (fun _ => 0)))) 1 (.inr (5, [.ref 2, .null, .int 0, .int 0, .ref 48, .int 0, .int 0, .int 0, .int 0, .int 0, .ref 49, .ref 50, .ref 51, .null]))) 52 (qrow 0 (fun _ => none))) 1 (.inr (5, [.ref 2, .null, .int 0, .int 0, .ref 48, .int 0, .int 0, .int 0, .int 0, .int 0, .ref 49, .ref 50, .ref 51, .ref 52]))) 1 (.inr (5, [.ref 2, .ref 0, .int 0, .int 0, .ref 48, .int 0, .int 0, .int 0, .int 0, .int 0, .ref 49, .ref 50, .ref 51, .ref 52]))) 1 (.inr (5, [.ref 2, .ref 0, .int (nI q), .int 0, .ref 48, .int 0, .int 0, .int 0, .int 0, .int 0, .ref 49, .ref 50, .ref 51, .ref 52]))) (upd (fun _ => 0) 2 (nI q)) 49 50 52 0 (fun _ _ => 0) := ⟨up_same, ⟨rfl, by decide⟩, by simp (disch := decide) only [up_ne, up_same]; exact congrArg (qrow 30) (funext fun l => by rw [lnf, if_neg (by omega)]), fun l hl => absurd hl (Nat.not_lt_zero l)⟩
  have h49 : (va_up (va_up (va_up (va_up (va_up (va_up (va_up (va_up (va_up (va_up (va_up (va_up (va_up h' 1 (.inr (5, [.ref 2, .null, .int 0, .int 0, .null, .int 0, .int 0, .int 0, .int 0, .int 0, .null, .null, .null, .null]))) 48 (qrow 30 (fun _ => none))) 1 (.inr (5, [.ref 2, .null, .int 0, .int 0, .ref 48, .int 0, .int 0, .int 0, .int 0, .int 0, .null, .null, .null, .null]))) 49 (qrow 24 (fun _ => none))) 1 (.inr (5, [.ref 2, .null, .int 0, .int 0, .ref 48, .int 0, .int 0, .int 0, .int 0, .int 0, .ref 49, .null, .null, .null]))) 50 (qrow 0 (fun _ => none))) 1 (.inr (5, [.ref 2, .null, .int 0, .int 0, .ref 48, .int 0, .int 0, .int 0, .int 0, .int 0, .ref 49, .ref 50, .null, .null]))) 51 (.inl (.int, 30, .inl (fun _ => 0)))) 1 (.inr (5, [.ref 2, .null, .int 0, .int 0, .ref 48, .int 0, .int 0, .int 0, .int 0, .int 0, .ref 49, .ref 50, .ref 51, .null]))) 52 (qrow 0 (fun _ => none))) 1 (.inr (5, [.ref 2, .null, .int 0, .int 0, .ref 48, .int 0, .int 0, .int 0, .int 0, .int 0, .ref 49, .ref 50, .ref 51, .ref 52]))) 1 (.inr (5, [.ref 2, .ref 0, .int 0, .int 0, .ref 48, .int 0, .int 0, .int 0, .int 0, .int 0, .ref 49, .ref 50, .ref 51, .ref 52]))) 1 (.inr (5, [.ref 2, .ref 0, .int (nI q), .int 0, .ref 48, .int 0, .int 0, .int 0, .int 0, .int 0, .ref 49, .ref 50, .ref 51, .ref 52]))) 49 = qrow 24 (fun _ => none) := by simp (disch := decide) only [up_ne, up_same]
  have h51 : (va_up (va_up (va_up (va_up (va_up (va_up (va_up (va_up (va_up (va_up (va_up (va_up (va_up h' 1 (.inr (5, [.ref 2, .null, .int 0, .int 0, .null, .int 0, .int 0, .int 0, .int 0, .int 0, .null, .null, .null, .null]))) 48 (qrow 30 (fun _ => none))) 1 (.inr (5, [.ref 2, .null, .int 0, .int 0, .ref 48, .int 0, .int 0, .int 0, .int 0, .int 0, .null, .null, .null, .null]))) 49 (qrow 24 (fun _ => none))) 1 (.inr (5, [.ref 2, .null, .int 0, .int 0, .ref 48, .int 0, .int 0, .int 0, .int 0, .int 0, .ref 49, .null, .null, .null]))) 50 (qrow 0 (fun _ => none))) 1 (.inr (5, [.ref 2, .null, .int 0, .int 0, .ref 48, .int 0, .int 0, .int 0, .int 0, .int 0, .ref 49, .ref 50, .null, .null]))) 51 (.inl (.int, 30, .inl (fun _ => 0)))) 1 (.inr (5, [.ref 2, .null, .int 0, .int 0, .ref 48, .int 0, .int 0, .int 0, .int 0, .int 0, .ref 49, .ref 50, .ref 51, .null]))) 52 (qrow 0 (fun _ => none))) 1 (.inr (5, [.ref 2, .null, .int 0, .int 0, .ref 48, .int 0, .int 0, .int 0, .int 0, .int 0, .ref 49, .ref 50, .ref 51, .ref 52]))) 1 (.inr (5, [.ref 2, .ref 0, .int 0, .int 0, .ref 48, .int 0, .int 0, .int 0, .int 0, .int 0, .ref 49, .ref 50, .ref 51, .ref 52]))) 1 (.inr (5, [.ref 2, .ref 0, .int (nI q), .int 0, .ref 48, .int 0, .int 0, .int 0, .int 0, .int 0, .ref 49, .ref 50, .ref 51, .ref 52]))) 51 = irow 30 (fun _ => 0) := by simp (disch := decide) only [up_ne, up_same]
  generalize (va_up (va_up (va_up (va_up (va_up (va_up (va_up (va_up (va_up (va_up (va_up (va_up (va_up h' 1 (.inr (5, [.ref 2, .null, .int 0, .int 0, .null, .int 0, .int 0, .int 0, .int 0, .int 0, .null, .null, .null, .null]))) 48 (qrow 30 (fun _ => none))) 1 (.inr (5, [.ref 2, .null, .int 0, .int 0, .ref 48, .int 0, .int 0, .int 0, .int 0, .int 0, .null, .null, .null, .null]))) 49 (qrow 24 (fun _ => none))) 1 (.inr (5, [.ref 2, .null, .int 0, .int 0, .ref 48, .int 0, .int 0, .int 0, .int 0, .int 0, .ref 49, .null, .null, .null]))) 50 (qrow 0 (fun _ => none))) 1 (.inr (5, [.ref 2, .null, .int 0, .int 0, .ref 48, .int 0, .int 0, .int 0, .int 0, .int 0, .ref 49, .ref 50, .null, .null]))) 51 (.inl (.int, 30, .inl (fun _ => 0)))) 1 (.inr (5, [.ref 2, .null, .int 0, .int 0, .ref 48, .int 0, .int 0, .int 0, .int 0, .int 0, .ref 49, .ref 50, .ref 51, .null]))) 52 (qrow 0 (fun _ => none))) 1 (.inr (5, [.ref 2, .null, .int 0, .int 0, .ref 48, .int 0, .int 0, .int 0, .int 0, .int 0, .ref 49, .ref 50, .ref 51, .ref 52]))) 1 (.inr (5, [.ref 2, .ref 0, .int 0, .int 0, .ref 48, .int 0, .int 0, .int 0, .int 0, .int 0, .ref 49, .ref 50, .ref 51, .ref 52]))) 1 (.inr (5, [.ref 2, .ref 0, .int (nI q), .int 0, .ref 48, .int 0, .int 0, .int 0, .int 0, .int 0, .ref 49, .ref 50, .ref 51, .ref 52]))) = H at hC1 hB1 h49 h51 ⊢
  refine AW.callV (pc := 68) (S' := []) dX5_init_68 (c_B_clear (d := d - 1) hB1 ⟨by decide, Or.inl rfl⟩ h49 (fun _ _ => rfl) h51) ok_X5_clear tw_646 ts_25 tw_644 (by decide) (hB1.1) (show aw_cl[5]? = some _ from rfl) rfl rfl (by omega) rfl (Nat.le_of_ble_eq_true rfl) (by omega) (by omega) ?_ (fun E h' k' hq => by obtain ⟨hx9, -⟩ := hq; try cases hx9)
  intro v h' k' hq
  obtain ⟨hx9, rfl, hF, hB2, hW, -, h51b⟩ := hq
  cases hx9
  show AW _ _ _ _ _ _ _ 71 [.ref 1, .ref 0, .int (nI q)] [] h' (53 + 26) (((((((0 + 1 + 45) + 1) + 1) + 1) + 1) + 1) + 26) (((((((0 + 7 + 1250) + 30) + 24) + 0) + 30) + 0) + 96)
  obtain ⟨r, hr, -⟩ := h51b
  have hC2 : CLS h' (va_up m0 60 S_clear) := (hC1.same fun i i2 i48 => hF i (by omega) (by omega) (by omega) (by omega) (by omega)).mem fun i i0 ik => up_ne (by omega)
  exact AW.vret (pc := 71) dX5_init_71 rfl (by omega) (by omega) (⟨rfl, rfl, ⟨_, fun _ _ => 0, va_up m0 60 S_clear, m0, rfl, hB2, ⟨by decide, fun l hl => absurd hl (Nat.not_lt_zero l)⟩, ⟨fun l hl => absurd hl (Nat.not_lt_zero l), fun l hl => ⟨rfl, rfl⟩⟩, hC2, m0_iv, fun _ _ _ => rfl⟩, hW.1, r, hr⟩)
