/-! the class with the bench: what is kept while it runs; the start -/
def LM (T : Nat → Nat → Int32) (g : Mem) (n : Nat) (h : Hp) (q : Nat) (ρ : Rw) (m : Mem) : Prop := CLS h m ∧ Iv 17 m g n ∧ m 1 6 = 1 ∧ m 60 = ρ ∧ ∃ (x : Nat → Int32) (pe hz : Nat), x 2 = nI q ∧ BN h x 49 pe hz n T
theorem RR23.same {m m' : Mem} {ρ : Rw} (h : RR 23 m ρ) (hm : ∀ i, 23 ≤ i → i ≤ 34 → m' i = m i) : RR 23 m' ρ := by
  unfold RR at *
  rw [hm (23 + 1) (by omega) (by omega), hm (23 + 2) (by omega) (by omega), hm (23 + 3) (by omega) (by omega), hm (23 + 4) (by omega) (by omega), hm (23 + 5) (by omega) (by omega), hm (23 + 6) (by omega) (by omega), hm (23 + 7) (by omega) (by omega), hm (23 + 8) (by omega) (by omega), hm (23 + 9) (by omega) (by omega), hm (23 + 10) (by omega) (by omega), hm (23 + 11) (by omega) (by omega), hm 23 (by omega) (by omega)]
  exact h
section LM
variable {T : Nat → Nat → Int32} {g m m' : Mem} {n q k : Nat} {h h' : Hp} {ρ ρ' : Rw}
theorem LM.tr (hM : LM T g n h q ρ m) (hk : 79 + n ≤ k) (hS : SM m m') (hC : CLS h' m') (hF : FO k h h') : LM T g n h' q ρ m' := by
  obtain ⟨-, hI, run, e, x, pe, hz, e2, hB⟩ := hM
  exact ⟨hC, hI.same (Nat.le_refl _) hS, by rw [hS.1 1 (by omega)]; exact run, by rw [hS.1 60 (by omega)]; exact e, x, pe, hz, e2, hB.fo hF hk⟩
theorem LM.rn (hM : LM T g n h q ρ m) (hk : 79 + n ≤ k) (hR : FR 23 m m') (hρ : RR 23 m' ρ') (hC : CLS h' m') (hF : FO k h h') (hW : RW g n ρ') (h2 : ∃ k : Nat, k ≤ 17 ∧ ρ' 2 = nI k) : LM T g n h' q ρ' (va_up m' 60 ρ') := by
  obtain ⟨-, hI, run, e, x, pe, hz, e2, hB⟩ := hM
  have lo : ∀ i, (i < 23 ∨ 34 < i) → i ≠ 60 → (va_up m' 60 ρ') i = m i := fun i hi h60 => (up_ne h60).trans (hR i (by omega))
  refine ⟨hC.mem fun i i0 ik => up_ne (by omega), hI.go (fun i hi => lo i (by omega) (by omega)) (by rw [lo 47 (by omega) (by omega)]) ?_ ?_ (by rw [up_same]; exact hW) (by rw [up_same]; exact h2), by rw [lo 1 (by omega) (by omega)]; exact run, up_same, x, pe, hz, e2, hB.fo hF hk⟩
  · rw [lo 1 (by omega) (by omega), lo 47 (by omega) (by omega)]; exact hI.2.2.2.2.2.2.2.1
  · rw [up_same]; exact RR23.same hρ fun i h1 h2 => up_ne (by omega)
theorem LM.draw {x : Nat → Int32} {pe hz : Nat} (hM : LM T g n h q ρ m) (hB : BN h x 49 pe hz n T) : LM T g n (va_up h 1 (.inr (5, bf (upd x 2 (nI (q + 1))) 49 pe hz))) (q + 1) ρ m := by
  obtain ⟨hC, hI, run, e, -⟩ := hM
  exact ⟨hC.same fun i i2 _ => up_ne (by omega), hI, run, e, _, pe, hz, upd_same, hB.draw⟩
end LM
abbrev mX5_start : Mt := (yX5_start, cX5_start, 2, (some .boolean), [(0, 28, 29, 179)])
set_option maxRecDepth 20000 in
theorem ok_X5_start : aw_mokH mX5_start 0 := ⟨rfl, tw_787, tw_1, ⟨by decide, by decide⟩, by decide +kernel, by decide⟩
theorem PN.startL {g : Mem} {n : Nat} (hwf : ∀ l, l < n → WFl g l) : ∀ (r l : Nat) (ρ : Rw), l + r = n → PN n ρ → PN n (S_startL g n r l ρ)
  | 0, _, _, _, h => h
  | r + 1, l, ρ, hr, h => by
    unfold S_startL
    refine PN.startL hwf r (l + 1) _ (by omega) ?_
    split
    · exact h.change (hwf l (by omega)).1.cl.2
    · exact h
theorem PN_startL {g : Mem} {n : Nat} (hwf : ∀ l, l < n → WFl g l) : PN n (S_startL g n n 0 S_clear) := PN.startL hwf n 0 _ (by omega) (RW.clear (g := g) (n := n)).2.2
set_option maxRecDepth 100000 in
set_option maxHeartbeats 4000000 in
theorem c_B_start {h : Hp} {x : Nat → Int32} {pe hz n q j : Nat} {T : Nat → Nat → Int32} {m g : Mem} {r51 : Nat → Int32} {d k : Nat} (hd : 33 ≤ d) (hk : 79 + n ≤ k) (hG : GD g n) (hT : gT T n) (hTG : TG T g n) (hB : BN h x 49 pe hz n T) (e2 : x 2 = nI q) (hC : CLS h m) (hI : Iv j m g n) (h49 : h 49 = qrow 24 (wf 55)) (h51 : h 51 = irow 30 r51) : AM mX5_start d [.ref 1] h k 881 15006 (fun oc h' k' => oc = .inl (some (.int 1)) ∧ k ≤ k' ∧ ∃ m', LM T g n h' q (S_startL g n n 0 S_clear) m') := by
  refine AM.introH (n := 1) (by decide) rfl rfl rfl ?_
  refine AW.aload_n (pc := 0) dX5_start_0 rfl rfl ?_
  refine AW.get (pc := 1) (i := 1) (ci := 5) (f := 0) (N := 14) (C := RX5) (T := TX5) dX5_start_1 tw_648 rfl (by decide) rfl (by decide) (hB.1) rfl ?_
  refine AW.callRn (pc := 4) (S' := []) dX5_start_4 (k_start (d := d - 1) hI (by omega) (hG.may hI)) hC (by omega) (by simp [aw_ok]) ok_X4_start tw_790 tw_791 tw_789 rfl rfl (by omega) rfl (Nat.le_of_ble_eq_true rfl) (by omega) (by omega) ?_
  intro m1 h1 hR1 hρ1 hC1 hF1
  show AW _ _ _ _ _ _ _ 7 [.ref 1, .null] [.int (nI (S_cnt (S_startL g n n 0 S_clear) n 0))] h1 k (0 + 1) (0 + 6)
  have hB1 := hB.fo hF1 (by omega)
  refine AW.istore_n (L' := [.ref 1, .int (nI (S_cnt (S_startL g n n 0 S_clear) n 0))]) (pc := 7) dX5_start_7 rfl (by decide) rfl rfl ?_
  refine AW.aload_n (pc := 8) dX5_start_8 rfl rfl ?_
  refine AW.callV (pc := 9) (S' := []) dX5_start_9 (c_B_mayRun (d := d - 1) (by omega) hT hB1 hk) ok_X5_mayRun tw_799 tw_800 tw_798 (by decide) (hB1.1) (show aw_cl[5]? = some _ from rfl) rfl rfl (by omega) rfl (Nat.le_of_ble_eq_true rfl) (by omega) (by omega) ?_ (fun E h' k' hq => by obtain ⟨hx9, -⟩ := hq; try cases hx9)
  intro v h' k' hq
  obtain ⟨hx9, he2⟩ := hq
  cases hx9
  show AW _ _ _ _ _ _ _ 12 [.ref 1, .int (nI (S_cnt (S_startL g n n 0 S_clear) n 0))] [.int 1] h' k' (0 + 1 + 80) (0 + 6 + 2000)
  refine AW.if_eq (pc := 12) (tgt := 27) dX5_start_12 (by decide) (fun c => absurd c (by decide)) (fun _ => ?_)
  have hB2 := hB1.ex hk he2
  have hk2 := he2.1
  have h49b : h' 49 = qrow 24 (wf 55) := by rw [he2.2 49 (by omega), hF1 49 (by omega) (by omega) (by omega)]; exact h49
  have h51b : h' 51 = irow 30 r51 := by rw [he2.2 51 (by omega), hF1 51 (by omega) (by omega) (by omega)]; exact h51
  have hC2 : CLS h' m1 := hC1.same fun i i2 i48 => he2.2 i (by omega)
  refine AW.aload_n (pc := 15) dX5_start_15 rfl rfl ?_
  generalize h' = h2 at *
  generalize k' = k2 at *
  show AW _ _ _ _ _ _ _ 16 [.ref 1, .int (nI (S_cnt (S_startL g n n 0 S_clear) n 0))] [.ref 1] h2 k2 (0 + 1 + 80) (0 + 6 + 2000)
  refine AW.callV (pc := 16) (S' := []) dX5_start_16 (c_B_started (d := d - 1) (by omega) hT hG.1.1 hB2 (by omega) h49b (fun j hj => if_neg (by omega)) h51b) ok_X5_started tw_822 tw_823 tw_821 (by decide) (hB2.1) (show aw_cl[5]? = some _ from rfl) rfl rfl (by omega) rfl (Nat.le_of_ble_eq_true rfl) (by omega) (by omega) ?_ (fun E h' k' hq => by obtain ⟨hx9, -⟩ := hq; try cases hx9)
  intro v h' k' hq
  obtain ⟨hx9, hk3, hF3, x3, pe3, ex3, hB3⟩ := hq
  cases hx9
  show AW _ _ _ _ _ _ _ 19 [.ref 1, .int (nI (S_cnt (S_startL g n n 0 S_clear) n 0))] [.int (nI (cntB (fun l => decide (¬ pmf T V0 l = -1)) n))] h' k' (0 + 1 + 80 + 800) (0 + 6 + 2000 + 13000)
  refine AW.iload_n (pc := 19) dX5_start_19 rfl rfl ?_
  refine AW.icmp_ne (pc := 20) (tgt := 27) dX5_start_20 (by decide) (fun c => absurd (congrArg nI (start_cnt hG hTG hT).symm) c) (fun _ => ?_)
  refine AW.iconst (v := 1) (pc := 23) dX5_start_23 (by decide) ?_
  refine AW.goto (pc := 24) (tgt := 28) dX5_start_24 (by decide) ?_
  obtain ⟨s1, s2, s3, s4⟩ := start_ok hG
  have lo : ∀ i, (i < 23 ∨ 34 < i) → i ≠ 1 → m1 i = m i := fun i hi h1 => (hR1 i (by omega)).trans (up2_ne h1)
  have e16 : m1 1 6 = 1 := by rw [hR1 1 (by omega), up2_at, if_pos rfl]
  have hC3 : CLS h' m1 := hC2.same fun i i2 i48 => hF3 i (by omega) (by omega) (by omega) (by omega) (by omega)
  have hI3 : Iv 17 (va_up (up2 m1 47 11 1) 60 (S_startL g n n 0 S_clear)) g n := by
    have lo2 : ∀ i, i ≠ 47 → i ≠ 60 → (va_up (up2 m1 47 11 1) 60 (S_startL g n n 0 S_clear)) i = m1 i := fun i h47 h60 => (up_ne h60).trans (up2_ne h47)
    refine hI.go (fun i hi => (lo2 i (by omega) (by omega)).trans (lo i (by omega) (by omega))) ?_ ⟨?_, Or.inr ?_⟩ ?_ ?_ ⟨0, by omega, by rw [up_same]; exact s1.1.2⟩
    · rw [up_ne (by omega), up2_at, if_neg (by omega), lo 47 (by omega) (by omega)]
    · rw [lo2 1 (by omega) (by omega), e16, up_ne (by omega), up2_at, if_pos rfl]
    · rw [up_ne (by omega), up2_at, if_pos rfl]
    · rw [up_same]; exact RR23.same hρ1 fun i h1 h2 => lo2 i (by omega) (by omega)
    · rw [up_same]; exact ⟨S_startL_hz _ _ S_clear_hz, s1.2.2.2.2.2.2.2, fun l h1 h2 => by have := hI.2.2.2.2.2.1; exact PN_startL hG.wf l h1 h2⟩
  exact AW.iret (pc := 28) dX5_start_28 rfl (by decide) (by omega) (by omega) (⟨rfl, by omega, _, hC3.mem fun i i0 ik => (up_ne (by omega)).trans (up2_ne (by omega)), hI3, (by rw [up_ne (by omega), up2_ne (by omega)]; exact e16), up_same, x3, pe3, _, ex3.trans e2, hB3⟩)
