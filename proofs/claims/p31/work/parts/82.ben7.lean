/-! the bench: its clearing, its start -/
abbrev mX5_clear : Mt := (yX5_clear, cX5_clear, 3, none, [])
set_option maxRecDepth 20000 in
theorem ok_X5_clear : aw_mok mX5_clear 0 := ⟨rfl, tw_647, tw_1, ⟨by decide, by decide⟩, by decide +kernel, by decide⟩
def clf (k w : Nat) (f : Nat → Option Nat) (j : Nat) : Option Nat := if j < w then some (k + 2 + j) else f j
theorem clf_s {k w : Nat} {f : Nat → Option Nat} : va_up (clf k w f) w (some (k + 2 + w)) = clf k (w + 1) f := by
  funext j
  simp only [va_up, clf]
  by_cases h : j = w
  · subst h; rw [if_pos rfl, if_pos (by omega)]
  · rw [if_neg h]
    by_cases h2 : j < w
    · rw [if_pos h2, if_pos (by omega)]
    · rw [if_neg h2, if_neg (by omega)]
theorem clf_24 {k : Nat} {f : Nat → Option Nat} (hf : ∀ j, 24 ≤ j → f j = none) : clf k 24 f = wf (k + 2) := by
  funext j
  simp only [clf, wf]
  by_cases h : j < 24
  · rw [if_pos h, if_pos h]
  · rw [if_neg h, if_neg h]; exact hf j (by omega)
def clr : Nat → Int32 := upd (upd (upd (upd (fun _ => 0) 0 (2 : Int32)) 1 (-1 : Int32)) 2 (0 : Int32)) 3 (2 : Int32)
/-- the clearing so far: w wires -/
def CLw (h h2 : Hp) (k : Nat) (x : Nat → Int32) (n : Nat) (T : Nat → Nat → Int32) (f : Nat → Option Nat) (w : Nat) : Prop :=
  BN h2 x 49 k (k + 1) n T ∧ h2 k = qrow 0 (fun _ => none) ∧ h2 51 = h 51 ∧ h2 49 = qrow 24 (clf k w f) ∧ (∀ j, j < w → h2 (k + 2 + j) = irow 4 clr) ∧ ∀ i, 0 < i → i < k → i ≠ 1 → i ≠ 49 → i ≠ 51 → h2 i = h i
theorem CLw.step {h h2 : Hp} {k n w : Nat} {x : Nat → Int32} {T : Nat → Nat → Int32} {f : Nat → Option Nat} (hk : 53 ≤ k ∧ (n = 0 ∨ 79 + n ≤ k)) (hC : CLw h h2 k x n T f w) : CLw h (va_up (va_up h2 (k + 2 + w) (irow 4 clr)) 49 (qrow 24 (va_up (clf k w f) w (some (k + 2 + w))))) k x n T f (w + 1) := by
  obtain ⟨hB, a1, a2, a3, a4, a5⟩ := hC
  have ev : ∀ i, i ≠ 49 → i ≠ k + 2 + w → (va_up (va_up h2 (k + 2 + w) (irow 4 clr)) 49 (qrow 24 (va_up (clf k w f) w (some (k + 2 + w))))) i = h2 i := fun i i1 i2 => by rw [up_ne i1, up_ne i2]
  have hn := hB.2.1.2
  refine ⟨⟨(ev 1 (by omega) (by omega)).trans hB.1, hB.2.1, (ev 48 (by omega) (by omega)).trans hB.2.2.1, fun l hl => (ev (79 + l) (by omega) (by omega)).trans (hB.2.2.2 l hl)⟩, (ev k (by omega) (by omega)).trans a1, (ev 51 (by omega) (by omega)).trans a2, by rw [up_same, clf_s], fun j hj => ?_, fun i i0 ik i1 i2 i3 => (ev i i2 (by omega)).trans (a5 i i0 ik i1 i2 i3)⟩
  by_cases q : j = w
  · subst q; rw [up_ne (by omega), up_same]
  · exact (ev _ (by omega) (by omega)).trans (a4 j (by omega))
theorem clr0 : clr 0 = 2 := rfl
set_option maxRecDepth 100000 in
set_option maxHeartbeats 4000000 in
theorem c_B_clear {h : Hp} {x : Nat → Int32} {pe hz n : Nat} {T : Nat → Nat → Int32} {d k : Nat} {f49 : Nat → Option Nat} {r51 : Nat → Int32} (hB : BN h x 49 pe hz n T) (hk : 53 ≤ k ∧ (n = 0 ∨ 79 + n ≤ k)) (h49 : h 49 = qrow 24 f49) (hf49 : ∀ j, 24 ≤ j → f49 j = none) (h51 : h 51 = irow 30 r51) : AM mX5_clear d [.ref 1] h k 26 96 (fun oc h' k' => oc = .inl none ∧ k + 26 = k' ∧ (∀ i, 0 < i → i < k → i ≠ 1 → i ≠ 49 → i ≠ 51 → h' i = h i) ∧ BN h' (upd (upd (upd (upd x 6 (0 : Int32)) 7 (0 : Int32)) 8 (0 : Int32)) 9 (0 : Int32)) 49 k (k + 1) n T ∧ WN h' (k + 2) (fun _ => 2) ∧ h' k = qrow 0 (fun _ => none) ∧ ∃ r, h' 51 = irow 30 r ∧ ∀ l, l < 30 → r l = -1000) := by
  refine AM.intro (n := 2) (by decide) rfl rfl rfl ?_
  have hn := hB.2.1.2
  have k79 : ∀ (r l : Nat) (y : Int32) (h2 : Hp) (r5 : Nat → Int32), l + r = 30 → y = nI l → BN h2 (upd (upd (upd (upd x 6 (0 : Int32)) 7 (0 : Int32)) 8 (0 : Int32)) 9 (0 : Int32)) 49 k (k + 1) n T → WN h2 (k + 2) (fun _ => 2) → h2 k = qrow 0 (fun _ => none) → h2 51 = irow 30 r5 → (∀ j, j < l → r5 j = -1000) → (∀ i, 0 < i → i < k → i ≠ 1 → i ≠ 49 → i ≠ 51 → h2 i = h i) → AW aw_Z0 mX5_clear d k 26 96 (fun oc h' k' => oc = .inl none ∧ k + 26 = k' ∧ (∀ i, 0 < i → i < k → i ≠ 1 → i ≠ 49 → i ≠ 51 → h' i = h i) ∧ BN h' (upd (upd (upd (upd x 6 (0 : Int32)) 7 (0 : Int32)) 8 (0 : Int32)) 9 (0 : Int32)) 49 k (k + 1) n T ∧ WN h' (k + 2) (fun _ => 2) ∧ h' k = qrow 0 (fun _ => none) ∧ ∃ r, h' 51 = irow 30 r ∧ ∀ l, l < 30 → r l = -1000)  79 [.ref 1, .int y, .null] [] h2 (k + 26) 26 96 := by
    intro r
    induction r with
    | zero =>
      intro l y h2 r5 hl hy hB2 hW2 hp h51 hr5 hF
      subst hy
      have : l = 30 := by omega
      subst this
      refine AW.iload_n (pc := 79) dX5_clear_79 rfl rfl ?_
      refine AW.bipush (v := 30) (pc := 80) dX5_clear_80 (by decide) ?_
      refine AW.icmp_ge (pc := 82) (tgt := 100) dX5_clear_82 (by decide) (fun _ => ?_) (fun c => absurd (by decide) c)
      exact AW.vret (pc := 100) dX5_clear_100 rfl (by omega) (by omega) (⟨rfl, rfl, hF, hB2, hW2, hp, r5, h51, hr5⟩)
    | succ r ih =>
      intro l y h2 r5 hl hy hB2 hW2 hp h51 hr5 hF
      subst hy
      refine AW.iload_n (pc := 79) dX5_clear_79 rfl rfl ?_
      refine AW.bipush (v := 30) (pc := 80) dX5_clear_80 (by decide) ?_
      refine AW.icmp_ge (pc := 82) (tgt := 100) dX5_clear_82 (by decide) (fun c => absurd c (nI_ge (b := 30) (by omega) (by decide))) (fun _ => ?_)
      refine AW.aload_n (pc := 85) dX5_clear_85 rfl rfl ?_
      refine AW.get (pc := 86) (i := 1) (ci := 5) (f := 12) (N := 14) (C := RX5) (T := TX5) dX5_clear_86 tw_663 rfl (by decide) rfl (by decide) (hB2.1) rfl ?_
      refine AW.iload_n (pc := 89) dX5_clear_89 rfl rfl ?_
      refine AW.sipush (v := -1000) (pc := 90) dX5_clear_90 (by decide) ?_
      refine AW.iast2 (pc := 93) (n := 30) (g := r5) (j := l) dX5_clear_93 (by decide) h51 (vp_in_nI (by omega) (by decide)) (nI_clamp (by omega)) ?_
      refine AW.iinc (v := ((nI l) + 1)) (L' := [.ref 1, .int ((nI l) + 1), .null]) (pc := 94) dX5_clear_94 rfl rfl (by decide) rfl rfl ?_
      refine AW.goto (pc := 97) (tgt := 79) dX5_clear_97 (by decide) ?_
      have e9 : ∀ i, i ≠ 51 → (va_up h2 51 (irow 30 (upd r5 l (-1000)))) i = h2 i := fun i hi => up_ne hi
      refine ih (l + 1) _ _ (upd r5 l (-1000)) (by omega) (nI_1 l) (hB2.up (by omega) (by omega) (fun l hl => by omega)) ⟨(e9 49 (by omega)).trans hW2.1, fun w hw => ?_⟩ ((e9 k (by omega)).trans hp) up_same (fun j hj => ?_) (fun i i0 ik i1 i2 i3 => (e9 i i3).trans (hF i i0 ik i1 i2 i3))
      · obtain ⟨u, e1, e2⟩ := hW2.2 w hw
        exact ⟨u, (e9 _ (by omega)).trans e1, e2⟩
      · by_cases q : j = l
        · subst q; exact upd_same
        · rw [upd_ne q]; exact hr5 j (by omega)
  have k38 : ∀ (r w : Nat) (y : Int32) (h2 : Hp) (k2 cs2 ss2 : Nat), w + r = 24 → y = nI w → k2 = k + 2 + w → cs2 = 2 + w → ss2 = 4 * w → CLw h h2 k (upd (upd (upd (upd x 6 (0 : Int32)) 7 (0 : Int32)) 8 (0 : Int32)) 9 (0 : Int32)) n T f49 w → AW aw_Z0 mX5_clear d k 26 96 (fun oc h' k' => oc = .inl none ∧ k + 26 = k' ∧ (∀ i, 0 < i → i < k → i ≠ 1 → i ≠ 49 → i ≠ 51 → h' i = h i) ∧ BN h' (upd (upd (upd (upd x 6 (0 : Int32)) 7 (0 : Int32)) 8 (0 : Int32)) 9 (0 : Int32)) 49 k (k + 1) n T ∧ WN h' (k + 2) (fun _ => 2) ∧ h' k = qrow 0 (fun _ => none) ∧ ∃ r, h' 51 = irow 30 r ∧ ∀ l, l < 30 → r l = -1000)  38 [.ref 1, .int y, .null] [] h2 k2 cs2 ss2 := by
    intro r
    induction r with
    | zero =>
      intro w y h2 k2 cs2 ss2 hw hy hk2 hc2 hs2 hC
      subst hy hk2 hc2 hs2
      have : w = 24 := by omega
      subst this
      obtain ⟨hB2, a1, a2, a3, a4, a5⟩ := hC
      refine AW.iload_n (pc := 38) dX5_clear_38 rfl rfl ?_
      refine AW.bipush (v := 24) (pc := 39) dX5_clear_39 (by decide) ?_
      refine AW.icmp_ge (pc := 41) (tgt := 77) dX5_clear_41 (by decide) (fun _ => ?_) (fun c => absurd (by decide) c)
      refine AW.iconst (v := 0) (pc := 77) dX5_clear_77 (by decide) ?_
      refine AW.istore_n (L' := [.ref 1, .int (0 : Int32), .null]) (pc := 78) dX5_clear_78 rfl (by decide) rfl rfl ?_
      exact k79 30 0 _ h2 r51 (by omega) rfl hB2 ⟨by rw [a3, clf_24 hf49], fun w hw => ⟨clr, a4 w hw, clr0⟩⟩ a1 (a2.trans h51) (fun j hj => absurd hj (Nat.not_lt_zero j)) a5
    | succ r ih =>
      intro w y h2 k2 cs2 ss2 hw hy hk2 hc2 hs2 hC
      subst hy hk2 hc2 hs2
      have hB2 := hC.1
      refine AW.iload_n (pc := 38) dX5_clear_38 rfl rfl ?_
      refine AW.bipush (v := 24) (pc := 39) dX5_clear_39 (by decide) ?_
      refine AW.icmp_ge (pc := 41) (tgt := 77) dX5_clear_41 (by decide) (fun c => absurd c (nI_ge (b := 24) (by omega) (by decide))) (fun _ => ?_)
      refine AW.iconst (v := 4) (pc := 44) dX5_clear_44 (by decide) ?_
      refine AW.newa (ty := .int) (N := 4) (a0 := (4, .inl (fun _ => 0))) (pc := 45) dX5_clear_45 rfl (Or.inl rfl) tw_501 (fun _ => rfl) (by decide) (by decide) (by decide) (by omega) (by omega) ?_
      show AW _ _ _ _ _ _ _ 47 [.ref 1, .int (nI w), .null] [.ref (k + 2 + w)] (va_up h2 (k + 2 + w) (.inl (.int, 4, .inl (fun _ => 0)))) ((k + 2 + w) + 1) ((2 + w) + 1) ((4 * w) + 4)
      refine AW.dup (pc := 47) dX5_clear_47 rfl ?_
      refine AW.iconst (v := 0) (pc := 48) dX5_clear_48 (by decide) ?_
      refine AW.iconst (v := 2) (pc := 49) dX5_clear_49 (by decide) ?_
      refine AW.iast2 (pc := 50) (n := 4) (g := (fun _ => 0)) (j := 0) dX5_clear_50 (by omega) (up_same) (vp_lit (by decide)) (by decide) ?_
      rw [up_up]
      show AW _ _ _ _ _ _ _ 51 [.ref 1, .int (nI w), .null] [.ref (k + 2 + w)] (va_up h2 (k + 2 + w) (irow 4 (upd (fun _ => 0) 0 (2 : Int32)))) ((k + 2 + w) + 1) ((2 + w) + 1) ((4 * w) + 4)
      refine AW.dup (pc := 51) dX5_clear_51 rfl ?_
      refine AW.iconst (v := 1) (pc := 52) dX5_clear_52 (by decide) ?_
      refine AW.iconst (v := -1) (pc := 53) dX5_clear_53 (by decide) ?_
      refine AW.iast2 (pc := 54) (n := 4) (g := (upd (fun _ => 0) 0 (2 : Int32))) (j := 1) dX5_clear_54 (by omega) (up_same) (vp_lit (by decide)) (by decide) ?_
      rw [up_up]
      show AW _ _ _ _ _ _ _ 55 [.ref 1, .int (nI w), .null] [.ref (k + 2 + w)] (va_up h2 (k + 2 + w) (irow 4 (upd (upd (fun _ => 0) 0 (2 : Int32)) 1 (-1 : Int32)))) ((k + 2 + w) + 1) ((2 + w) + 1) ((4 * w) + 4)
      refine AW.dup (pc := 55) dX5_clear_55 rfl ?_
      refine AW.iconst (v := 2) (pc := 56) dX5_clear_56 (by decide) ?_
      refine AW.iconst (v := 0) (pc := 57) dX5_clear_57 (by decide) ?_
      refine AW.iast2 (pc := 58) (n := 4) (g := (upd (upd (fun _ => 0) 0 (2 : Int32)) 1 (-1 : Int32))) (j := 2) dX5_clear_58 (by omega) (up_same) (vp_lit (by decide)) (by decide) ?_
      rw [up_up]
      show AW _ _ _ _ _ _ _ 59 [.ref 1, .int (nI w), .null] [.ref (k + 2 + w)] (va_up h2 (k + 2 + w) (irow 4 (upd (upd (upd (fun _ => 0) 0 (2 : Int32)) 1 (-1 : Int32)) 2 (0 : Int32)))) ((k + 2 + w) + 1) ((2 + w) + 1) ((4 * w) + 4)
      refine AW.dup (pc := 59) dX5_clear_59 rfl ?_
      refine AW.iconst (v := 3) (pc := 60) dX5_clear_60 (by decide) ?_
      refine AW.iconst (v := 2) (pc := 61) dX5_clear_61 (by decide) ?_
      refine AW.iast2 (pc := 62) (n := 4) (g := (upd (upd (upd (fun _ => 0) 0 (2 : Int32)) 1 (-1 : Int32)) 2 (0 : Int32))) (j := 3) dX5_clear_62 (by omega) (up_same) (vp_lit (by decide)) (by decide) ?_
      rw [up_up]
      show AW _ _ _ _ _ _ _ 63 [.ref 1, .int (nI w), .null] [.ref (k + 2 + w)] (va_up h2 (k + 2 + w) (irow 4 (upd (upd (upd (upd (fun _ => 0) 0 (2 : Int32)) 1 (-1 : Int32)) 2 (0 : Int32)) 3 (2 : Int32)))) ((k + 2 + w) + 1) ((2 + w) + 1) ((4 * w) + 4)
      have hB3 := hB2.up (q := k + 2 + w) (c := irow 4 clr) (by omega) (by omega) (fun l hl => by omega)
      show AW _ _ _ _ _ _ _ 63 [.ref 1, .int (nI w), .null] [.ref (k + 2 + w)] (va_up h2 (k + 2 + w) (irow 4 clr)) ((k + 2 + w) + 1) ((2 + w) + 1) ((4 * w) + 4)
      refine AW.astore_n (L' := [.ref 1, .int (nI w), .ref (k + 2 + w)]) (pc := 63) dX5_clear_63 rfl (by decide) rfl rfl ?_
      refine AW.aload_n (pc := 64) dX5_clear_64 rfl rfl ?_
      refine AW.get (pc := 65) (i := 1) (ci := 5) (f := 10) (N := 14) (C := RX5) (T := TX5) dX5_clear_65 tw_661 rfl (by decide) rfl (by decide) (hB3.1) rfl ?_
      refine AW.iload_n (pc := 68) dX5_clear_68 rfl rfl ?_
      refine AW.aload_n (pc := 69) dX5_clear_69 rfl rfl ?_
      refine AW.aast (pc := 70) (n := 24) (nv := 4) (f := clf k w f49) (gv := clr) dX5_clear_70 (by decide) ((up_ne (by omega)).trans hC.2.2.2.1) (by omega) up_same (vp_in_nI (by omega) (by decide)) ?_
      rw [nI_clamp (show w < 2 ^ 31 by omega)]
      refine AW.iinc (v := ((nI w) + 1)) (L' := [.ref 1, .int ((nI w) + 1), .ref (k + 2 + w)]) (pc := 71) dX5_clear_71 rfl rfl (by decide) rfl rfl ?_
      refine AW.goto (pc := 74) (tgt := 38) dX5_clear_74 (by decide) ?_
      refine AW.locals (L' := [.ref 1, .int ((nI w) + 1), .null]) (aw_fewer_same (aw_fewer_same (aw_fewer_null aw_fewer_nil))) ?_
      exact ih (w + 1) _ _ _ _ _ (by omega) (nI_1 w) (by omega) (by omega) (by omega) (hC.step hk)
  refine AW.aload_n (pc := 0) dX5_clear_0 rfl rfl ?_
  refine AW.iconst (v := 0) (pc := 1) dX5_clear_1 (by decide) ?_
  refine AW.put (pc := 2) (i := 1) (ci := 5) (f := 6) (N := 14) (C := RX5) (T := TX5) (fs' := bf (upd x 6 (0 : Int32)) 49 pe hz) dX5_clear_2 tw_657 rfl (by decide) rfl (by decide) (hB.1) (Nat.le_of_ble_eq_true rfl) rfl (fun _ => ⟨rfl, rfl⟩) rfl ?_
  show AW _ _ _ _ _ _ _ 5 [.ref 1, .null, .null] [] (va_up h 1 (.inr (5, bf (upd x 6 (0 : Int32)) 49 pe hz))) k 0 0
  show AW _ _ _ _ _ _ _ 5 [.ref 1, .null, .null] [] (va_up h 1 (.inr (5, bf (upd x 6 (0 : Int32)) 49 pe hz))) k 0 0
  refine AW.aload_n (pc := 5) dX5_clear_5 rfl rfl ?_
  refine AW.iconst (v := 0) (pc := 6) dX5_clear_6 (by decide) ?_
  refine AW.put (pc := 7) (i := 1) (ci := 5) (f := 7) (N := 14) (C := RX5) (T := TX5) (fs' := bf (upd (upd x 6 (0 : Int32)) 7 (0 : Int32)) 49 pe hz) dX5_clear_7 tw_658 rfl (by decide) rfl (by decide) (up_same) (Nat.le_of_ble_eq_true rfl) rfl (fun _ => ⟨rfl, rfl⟩) rfl ?_
  show AW _ _ _ _ _ _ _ 10 [.ref 1, .null, .null] [] (va_up (va_up h 1 (.inr (5, bf (upd x 6 (0 : Int32)) 49 pe hz))) 1 (.inr (5, bf (upd (upd x 6 (0 : Int32)) 7 (0 : Int32)) 49 pe hz))) k 0 0
  rw [up_up]
  show AW _ _ _ _ _ _ _ 10 [.ref 1, .null, .null] [] (va_up h 1 (.inr (5, bf (upd (upd x 6 (0 : Int32)) 7 (0 : Int32)) 49 pe hz))) k 0 0
  refine AW.aload_n (pc := 10) dX5_clear_10 rfl rfl ?_
  refine AW.iconst (v := 0) (pc := 11) dX5_clear_11 (by decide) ?_
  refine AW.put (pc := 12) (i := 1) (ci := 5) (f := 8) (N := 14) (C := RX5) (T := TX5) (fs' := bf (upd (upd (upd x 6 (0 : Int32)) 7 (0 : Int32)) 8 (0 : Int32)) 49 pe hz) dX5_clear_12 tw_659 rfl (by decide) rfl (by decide) (up_same) (Nat.le_of_ble_eq_true rfl) rfl (fun _ => ⟨rfl, rfl⟩) rfl ?_
  show AW _ _ _ _ _ _ _ 15 [.ref 1, .null, .null] [] (va_up (va_up h 1 (.inr (5, bf (upd (upd x 6 (0 : Int32)) 7 (0 : Int32)) 49 pe hz))) 1 (.inr (5, bf (upd (upd (upd x 6 (0 : Int32)) 7 (0 : Int32)) 8 (0 : Int32)) 49 pe hz))) k 0 0
  rw [up_up]
  show AW _ _ _ _ _ _ _ 15 [.ref 1, .null, .null] [] (va_up h 1 (.inr (5, bf (upd (upd (upd x 6 (0 : Int32)) 7 (0 : Int32)) 8 (0 : Int32)) 49 pe hz))) k 0 0
  refine AW.aload_n (pc := 15) dX5_clear_15 rfl rfl ?_
  refine AW.iconst (v := 0) (pc := 16) dX5_clear_16 (by decide) ?_
  refine AW.put (pc := 17) (i := 1) (ci := 5) (f := 9) (N := 14) (C := RX5) (T := TX5) (fs' := bf (upd (upd (upd (upd x 6 (0 : Int32)) 7 (0 : Int32)) 8 (0 : Int32)) 9 (0 : Int32)) 49 pe hz) dX5_clear_17 tw_660 rfl (by decide) rfl (by decide) (up_same) (Nat.le_of_ble_eq_true rfl) rfl (fun _ => ⟨rfl, rfl⟩) rfl ?_
  show AW _ _ _ _ _ _ _ 20 [.ref 1, .null, .null] [] (va_up (va_up h 1 (.inr (5, bf (upd (upd (upd x 6 (0 : Int32)) 7 (0 : Int32)) 8 (0 : Int32)) 49 pe hz))) 1 (.inr (5, bf (upd (upd (upd (upd x 6 (0 : Int32)) 7 (0 : Int32)) 8 (0 : Int32)) 9 (0 : Int32)) 49 pe hz))) k 0 0
  rw [up_up]
  show AW _ _ _ _ _ _ _ 20 [.ref 1, .null, .null] [] (va_up h 1 (.inr (5, bf (upd (upd (upd (upd x 6 (0 : Int32)) 7 (0 : Int32)) 8 (0 : Int32)) 9 (0 : Int32)) 49 pe hz))) k 0 0
  refine AW.aload_n (pc := 20) dX5_clear_20 rfl rfl ?_
  refine AW.iconst (v := 0) (pc := 21) dX5_clear_21 (by decide) ?_
  refine AW.newq (pc := 22) (N := 0) dX5_clear_22 tw_642 (by decide) (by decide) (by decide) (by omega) (by omega) ?_
  show AW _ _ _ _ _ _ _ 25 [.ref 1, .null, .null] [.ref k, .ref 1] (va_up (va_up h 1 (.inr (5, bf (upd (upd (upd (upd x 6 (0 : Int32)) 7 (0 : Int32)) 8 (0 : Int32)) 9 (0 : Int32)) 49 pe hz))) k (qrow (0) (fun _ => none))) (k + 1) (0 + 1) (0 + (0))
  show AW _ _ _ _ _ _ _ 25 [.ref 1, .null, .null] [.ref k, .ref 1] (va_up (va_up h 1 (.inr (5, bf (upd (upd (upd (upd x 6 (0 : Int32)) 7 (0 : Int32)) 8 (0 : Int32)) 9 (0 : Int32)) 49 pe hz))) k (qrow 0 (fun _ => none))) (k + 1) (0 + 1) (0 + (0))
  refine AW.put (pc := 25) (i := 1) (ci := 5) (f := 11) (N := 14) (C := RX5) (T := TX5) (fs' := bf (upd (upd (upd (upd x 6 (0 : Int32)) 7 (0 : Int32)) 8 (0 : Int32)) 9 (0 : Int32)) 49 k hz) dX5_clear_25 tw_662 rfl (by decide) rfl (by decide) ((up_ne (by omega)).trans up_same) (Nat.le_of_ble_eq_true rfl) rfl (fun _ => ⟨rfl, rfl⟩) rfl ?_
  show AW _ _ _ _ _ _ _ 28 [.ref 1, .null, .null] [] (va_up (va_up (va_up h 1 (.inr (5, bf (upd (upd (upd (upd x 6 (0 : Int32)) 7 (0 : Int32)) 8 (0 : Int32)) 9 (0 : Int32)) 49 pe hz))) k (qrow 0 (fun _ => none))) 1 (.inr (5, bf (upd (upd (upd (upd x 6 (0 : Int32)) 7 (0 : Int32)) 8 (0 : Int32)) 9 (0 : Int32)) 49 k hz))) (k + 1) (0 + 1) (0 + (0))
  refine AW.aload_n (pc := 28) dX5_clear_28 rfl rfl ?_
  refine AW.iconst (v := 0) (pc := 29) dX5_clear_29 (by decide) ?_
  refine AW.newq (pc := 30) (N := 0) dX5_clear_30 tw_642 (by decide) (by decide) (by decide) (by omega) (by omega) ?_
  show AW _ _ _ _ _ _ _ 33 [.ref 1, .null, .null] [.ref (k + 1), .ref 1] (va_up (va_up (va_up (va_up h 1 (.inr (5, bf (upd (upd (upd (upd x 6 (0 : Int32)) 7 (0 : Int32)) 8 (0 : Int32)) 9 (0 : Int32)) 49 pe hz))) k (qrow 0 (fun _ => none))) 1 (.inr (5, bf (upd (upd (upd (upd x 6 (0 : Int32)) 7 (0 : Int32)) 8 (0 : Int32)) 9 (0 : Int32)) 49 k hz))) (k + 1) (qrow (0) (fun _ => none))) ((k + 1) + 1) ((0 + 1) + 1) ((0 + (0)) + (0))
  show AW _ _ _ _ _ _ _ 33 [.ref 1, .null, .null] [.ref (k + 1), .ref 1] (va_up (va_up (va_up (va_up h 1 (.inr (5, bf (upd (upd (upd (upd x 6 (0 : Int32)) 7 (0 : Int32)) 8 (0 : Int32)) 9 (0 : Int32)) 49 pe hz))) k (qrow 0 (fun _ => none))) 1 (.inr (5, bf (upd (upd (upd (upd x 6 (0 : Int32)) 7 (0 : Int32)) 8 (0 : Int32)) 9 (0 : Int32)) 49 k hz))) (k + 1) (qrow 0 (fun _ => none))) ((k + 1) + 1) ((0 + 1) + 1) ((0 + (0)) + (0))
  refine AW.put (pc := 33) (i := 1) (ci := 5) (f := 13) (N := 14) (C := RX5) (T := TX5) (fs' := bf (upd (upd (upd (upd x 6 (0 : Int32)) 7 (0 : Int32)) 8 (0 : Int32)) 9 (0 : Int32)) 49 k (k + 1)) dX5_clear_33 tw_664 rfl (by decide) rfl (by decide) ((up_ne (by omega)).trans up_same) (Nat.le_of_ble_eq_true rfl) rfl (fun _ => ⟨rfl, rfl⟩) rfl ?_
  show AW _ _ _ _ _ _ _ 36 [.ref 1, .null, .null] [] (va_up (va_up (va_up (va_up (va_up h 1 (.inr (5, bf (upd (upd (upd (upd x 6 (0 : Int32)) 7 (0 : Int32)) 8 (0 : Int32)) 9 (0 : Int32)) 49 pe hz))) k (qrow 0 (fun _ => none))) 1 (.inr (5, bf (upd (upd (upd (upd x 6 (0 : Int32)) 7 (0 : Int32)) 8 (0 : Int32)) 9 (0 : Int32)) 49 k hz))) (k + 1) (qrow 0 (fun _ => none))) 1 (.inr (5, bf (upd (upd (upd (upd x 6 (0 : Int32)) 7 (0 : Int32)) 8 (0 : Int32)) 9 (0 : Int32)) 49 k (k + 1)))) ((k + 1) + 1) ((0 + 1) + 1) ((0 + (0)) + (0))
  refine AW.iconst (v := 0) (pc := 36) dX5_clear_36 (by decide) ?_
  refine AW.istore_n (L' := [.ref 1, .int (0 : Int32), .null]) (pc := 37) dX5_clear_37 rfl (by decide) rfl rfl ?_
  have e9 : ∀ i, i ≠ 1 → i ≠ k → i ≠ k + 1 → (va_up (va_up (va_up (va_up (va_up h 1 (.inr (5, bf (upd (upd (upd (upd x 6 (0 : Int32)) 7 (0 : Int32)) 8 (0 : Int32)) 9 (0 : Int32)) 49 pe hz))) k (qrow 0 (fun _ => none))) 1 (.inr (5, bf (upd (upd (upd (upd x 6 (0 : Int32)) 7 (0 : Int32)) 8 (0 : Int32)) 9 (0 : Int32)) 49 k hz))) (k + 1) (qrow 0 (fun _ => none))) 1 (.inr (5, bf (upd (upd (upd (upd x 6 (0 : Int32)) 7 (0 : Int32)) 8 (0 : Int32)) 9 (0 : Int32)) 49 k (k + 1)))) i = h i := fun i i1 i2 i3 => by rw [up_ne i1, up_ne i3, up_ne i1, up_ne i2, up_ne i1]
  exact k38 24 0 _ _ _ _ _ (by omega) rfl rfl rfl rfl ⟨⟨up_same, hB.2.1, (e9 48 (by omega) (by omega) (by omega)).trans hB.2.2.1, fun l hl => (e9 (79 + l) (by omega) (by omega) (by omega)).trans (hB.2.2.2 l hl)⟩, by rw [up_ne (by omega), up_ne (by omega), up_ne (by omega), up_same], e9 51 (by omega) (by omega) (by omega), by rw [e9 49 (by omega) (by omega) (by omega), h49]; rfl, fun j hj => absurd hj (Nat.not_lt_zero j), fun i i0 ik i1 i2 i3 => e9 i i1 (by omega) (by omega)⟩
