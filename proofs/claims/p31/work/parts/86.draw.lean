/-! calls of the class, one rule a kind of answer; draws -/
def FO (k : Nat) (h h' : Hp) : Prop := ∀ i, 0 < i → i < k → (i ≤ 1 ∨ 48 ≤ i) → h' i = h i
theorem FO.refl (k : Nat) (h : Hp) : FO k h h := fun _ _ _ _ => rfl
theorem FO.trans {k : Nat} {a b c : Hp} (h1 : FO k a b) (h2 : FO k b c) : FO k a c := fun i i0 ik hi => (h2 i i0 ik hi).trans (h1 i i0 ik hi)
section CALLS
variable {Z : Gz} {μ μ' : Mt} {d k0 mc ms : Nat} {Q : Po} {pc : Nat} {L S as S' : List Value} {h : Hp} {k cs ss d' mc' ms' index n : Nat} {m : Mem}
theorem AW.callRd {r : Int32} (hd : decode μ.2.1 pc = .ok (.invokevirtual index, 3)) (hM : AM μ' d' (.ref 1 :: as) (layC m) 47 mc' ms' (CE (RD r m))) (hcls : CLS h m) (hk : 48 ≤ k) (hnr : ∀ v ∈ as, aw_ok 0 v)
    (hm : aw_mok μ' n) (hin : Cond.instanceMethod μ'.1 ∈ lw_tbl) (hsel : Cond.selects μ'.1.cls μ'.1 μ'.1 ∈ lw_tbl) (hlink : Cond.methodLink μ.1.cls index μ'.1 ∈ lw_tbl) (hq : RX4 = μ'.1.cls) (hn : as.length = n) (hd' : d' + 1 ≤ d) (hS2 : S = as.reverse ++ .ref 2 :: S') (hcat : (S'.map fun v => v.category).sum ≤ 8) (hcs : cs + mc' ≤ mc) (hss : ss + ms' ≤ ms)
    (K : AW Z μ d k0 mc ms Q (pc + 3) L (.int r :: S') h k (cs + mc') (ss + ms')) : AW Z μ d k0 mc ms Q pc L S h k cs ss := by
  refine AW.callC hd hM hcls hk hnr hm hin hsel hlink hq hn hd' hS2 hcat hcs hss fun v m' h' hP hc hF => ?_
  obtain ⟨x, rfl, rfl, rfl⟩ := hP
  refine AW.junk (h' := h) (fun i i0 ik => ?_) K
  by_cases q : i ≤ 1 ∨ 48 ≤ i
  · exact hF i i0 ik q
  · have e : i = 1 + (i - 1) := by omega
    rw [e, hc (i - 1) (by omega) (by omega), hcls (i - 1) (by omega) (by omega)]
theorem AW.callTr {r : Int32} (hd : decode μ.2.1 pc = .ok (.invokevirtual index, 3)) (hM : AM μ' d' (.ref 1 :: as) (layC m) 47 mc' ms' (CE (TR_ r m))) (hcls : CLS h m) (hk : 48 ≤ k) (hnr : ∀ v ∈ as, aw_ok 0 v)
    (hm : aw_mok μ' n) (hin : Cond.instanceMethod μ'.1 ∈ lw_tbl) (hsel : Cond.selects μ'.1.cls μ'.1 μ'.1 ∈ lw_tbl) (hlink : Cond.methodLink μ.1.cls index μ'.1 ∈ lw_tbl) (hq : RX4 = μ'.1.cls) (hn : as.length = n) (hd' : d' + 1 ≤ d) (hS2 : S = as.reverse ++ .ref 2 :: S') (hcat : (S'.map fun v => v.category).sum ≤ 8) (hcs : cs + mc' ≤ mc) (hss : ss + ms' ≤ ms)
    (K : ∀ (m' : Mem) (h' : Hp), SM m m' → CLS h' m' → FO k h h' → AW Z μ d k0 mc ms Q (pc + 3) L (.int r :: S') h' k (cs + mc') (ss + ms')) : AW Z μ d k0 mc ms Q pc L S h k cs ss := by
  refine AW.callC hd hM hcls hk hnr hm hin hsel hlink hq hn hd' hS2 hcat hcs hss fun v m' h' hP hc hF => ?_
  obtain ⟨x, rfl, rfl, hs⟩ := hP
  exact K m' h' hs hc hF
theorem AW.callTl {r : Int64} (hd : decode μ.2.1 pc = .ok (.invokevirtual index, 3)) (hM : AM μ' d' (.ref 1 :: as) (layC m) 47 mc' ms' (CE (TL r m))) (hcls : CLS h m) (hk : 48 ≤ k) (hnr : ∀ v ∈ as, aw_ok 0 v)
    (hm : aw_mok μ' n) (hin : Cond.instanceMethod μ'.1 ∈ lw_tbl) (hsel : Cond.selects μ'.1.cls μ'.1 μ'.1 ∈ lw_tbl) (hlink : Cond.methodLink μ.1.cls index μ'.1 ∈ lw_tbl) (hq : RX4 = μ'.1.cls) (hn : as.length = n) (hd' : d' + 1 ≤ d) (hS2 : S = as.reverse ++ .ref 2 :: S') (hcat : (S'.map fun v => v.category).sum ≤ 8) (hcs : cs + mc' ≤ mc) (hss : ss + ms' ≤ ms)
    (K : ∀ (m' : Mem) (h' : Hp), SM m m' → CLS h' m' → FO k h h' → AW Z μ d k0 mc ms Q (pc + 3) L (.long r :: S') h' k (cs + mc') (ss + ms')) : AW Z μ d k0 mc ms Q pc L S h k cs ss := by
  refine AW.callC hd hM hcls hk hnr hm hin hsel hlink hq hn hd' hS2 hcat hcs hss fun v m' h' hP hc hF => ?_
  obtain ⟨x, rfl, rfl, hs⟩ := hP
  exact K m' h' hs hc hF
theorem AW.callRn {r : Int32} {ρ : Rw} (hd : decode μ.2.1 pc = .ok (.invokevirtual index, 3)) {m1 : Mem} (hM : AM μ' d' (.ref 1 :: as) (layC m) 47 mc' ms' (CE (RN r m1 ρ))) (hcls : CLS h m) (hk : 48 ≤ k) (hnr : ∀ v ∈ as, aw_ok 0 v)
    (hm : aw_mok μ' n) (hin : Cond.instanceMethod μ'.1 ∈ lw_tbl) (hsel : Cond.selects μ'.1.cls μ'.1 μ'.1 ∈ lw_tbl) (hlink : Cond.methodLink μ.1.cls index μ'.1 ∈ lw_tbl) (hq : RX4 = μ'.1.cls) (hn : as.length = n) (hd' : d' + 1 ≤ d) (hS2 : S = as.reverse ++ .ref 2 :: S') (hcat : (S'.map fun v => v.category).sum ≤ 8) (hcs : cs + mc' ≤ mc) (hss : ss + ms' ≤ ms)
    (K : ∀ (m' : Mem) (h' : Hp), FR 23 m1 m' → RR 23 m' ρ → CLS h' m' → FO k h h' → AW Z μ d k0 mc ms Q (pc + 3) L (.int r :: S') h' k (cs + mc') (ss + ms')) : AW Z μ d k0 mc ms Q pc L S h k cs ss := by
  refine AW.callC hd hM hcls hk hnr hm hin hsel hlink hq hn hd' hS2 hcat hcs hss fun v m' h' hP hc hF => ?_
  obtain ⟨x, rfl, rfl, hs, hr⟩ := hP
  exact K m' h' hs hr hc hF
theorem AW.callAd {j n2 : Nat} {G : Mem} (hd : decode μ.2.1 pc = .ok (.invokevirtual index, 3)) (hM : AM μ' d' (.ref 1 :: as) (layC m) 47 mc' ms' (CE (AD j n2 G))) (hcls : CLS h m) (hk : 48 ≤ k) (hnr : ∀ v ∈ as, aw_ok 0 v)
    (hm : aw_mok μ' n) (hin : Cond.instanceMethod μ'.1 ∈ lw_tbl) (hsel : Cond.selects μ'.1.cls μ'.1 μ'.1 ∈ lw_tbl) (hlink : Cond.methodLink μ.1.cls index μ'.1 ∈ lw_tbl) (hq : RX4 = μ'.1.cls) (hn : as.length = n) (hd' : d' + 1 ≤ d) (hS2 : S = as.reverse ++ .ref 2 :: S') (hcat : (S'.map fun v => v.category).sum ≤ 8) (hcs : cs + mc' ≤ mc) (hss : ss + ms' ≤ ms)
    (K : ∀ (m' : Mem) (h' : Hp), Iv (j + 1) m' G (n2 + 1) → CLS h' m' → FO k h h' → AW Z μ d k0 mc ms Q (pc + 3) L (.int (nI n2) :: S') h' k (cs + mc') (ss + ms')) : AW Z μ d k0 mc ms Q pc L S h k cs ss := by
  refine AW.callC hd hM hcls hk hnr hm hin hsel hlink hq hn hd' hS2 hcat hcs hss fun v m' h' hP hc hF => ?_
  obtain ⟨x, rfl, rfl, m2, hm2, hi⟩ := hP
  exact K m2 h' hi (hc.mem hm2) hF
end CALLS
theorem mx_and (v : Int32) : ∃ a : Nat, a < 2 ^ 31 ∧ v &&& 2147483647 = nI a := by
  refine ⟨v.toBitVec.toNat % 2 ^ 31, Nat.mod_lt _ (by decide), Int32.toBitVec_inj.mp ?_⟩
  rw [Int32.toBitVec_and]
  apply BitVec.eq_of_toNat_eq
  rw [BitVec.toNat_and]
  show v.toBitVec.toNat &&& (2 ^ 31 - 1) = (BitVec.ofNat 32 (v.toBitVec.toNat % 2 ^ 31)).toNat
  rw [BitVec.toNat_ofNat, Nat.and_two_pow_sub_one_eq_mod]
  omega
theorem BN.fo {h h' : Hp} {x : Nat → Int32} {wi pe hz n k : Nat} {T : Nat → Nat → Int32} (hB : BN h x wi pe hz n T) (hF : FO k h h') (hk : 79 + n ≤ k) : BN h' x wi pe hz n T :=
  ⟨(hF 1 (by omega) (by omega) (by omega)).trans hB.1, hB.2.1, (hF 48 (by omega) (by omega) (by omega)).trans hB.2.2.1, fun l hl => (hF (79 + l) (by omega) (by omega) (by omega)).trans (hB.2.2.2 l hl)⟩
abbrev mL_cell : Mt := (yL_cell, cL_cell, 2, (some .int), [])
set_option maxRecDepth 20000 in
theorem ok_L_cell : aw_mok mL_cell 2 := ⟨rfl, tw_700, tw_0, ⟨by decide, by decide⟩, by decide +kernel, by decide⟩
abbrev mL_below : Mt := (yL_below, cL_below, 2, (some .int), [])
set_option maxRecDepth 20000 in
theorem ok_L_below : aw_mok mL_below 2 := ⟨rfl, tw_704, tw_0, ⟨by decide, by decide⟩, by decide +kernel, by decide⟩
abbrev mX5_draw : Mt := (yX5_draw, cX5_draw, 3, (some .int), [])
set_option maxRecDepth 20000 in
theorem ok_X5_draw : aw_mok mX5_draw 1 := ⟨rfl, tw_697, tw_1, ⟨by decide, by decide⟩, by decide +kernel, by decide⟩
abbrev mX5_from : Mt := (yX5_from, cX5_from, 3, (some .int), [])
set_option maxRecDepth 20000 in
theorem ok_X5_from : aw_mok mX5_from 2 := ⟨rfl, tw_771, tw_1, ⟨by decide, by decide⟩, by decide +kernel, by decide⟩
set_option maxRecDepth 100000 in
set_option maxHeartbeats 4000000 in
theorem c_L_below {h : Hp} {v : Int32} {N d k : Nat} (hN : 0 < N) (hN2 : N < 2 ^ 31) : AM mL_below d [.int v, .int (nI N)] h k 0 0 (fun oc h' k' => ∃ q, q < N ∧ oc = .inl (some (.int (nI q))) ∧ h = h' ∧ k = k') := by
  refine AM.intro (n := 0) (by decide) rfl rfl rfl ?_
  refine AW.iload_n (pc := 0) dL_below_0 rfl rfl ?_
  refine AW.ldc (pc := 1) dL_below_1 tw_705 ?_
  refine AW.iand (pc := 3) dL_below_3 ?_
  obtain ⟨a, ha, ea⟩ := mx_and v
  rw [ea]
  refine AW.iload_n (pc := 4) dL_below_4 rfl rfl ?_
  refine AW.irem (pc := 5) dL_below_5 (nI_ne0 hN hN2) ?_
  rw [pk_rem ha hN hN2]
  exact AW.iret (pc := 6) dL_below_6 rfl rfl (by omega) (by omega) (⟨a % N, Nat.mod_lt _ hN, rfl, rfl, rfl⟩)
set_option maxRecDepth 100000 in
set_option maxHeartbeats 4000000 in
theorem c_L_cell {Ls : Nat} {xs : Nat → Int32} {h : Hp} {q d k : Nat} (hk0 : 0 < k) (hL : Ls ≤ 260) (hq : q < 2 ^ 31) : AMz Ls xs mL_cell d [.ref 0, .int (nI q)] h k 0 0 (fun oc h' k' => ∃ r : Int32, oc = .inl (some (.int r)) ∧ h = h' ∧ k = k') := by
  refine AMz.intro (n := 0) (by decide) rfl rfl rfl ?_
  refine AW.iload_n (pc := 0) dL_cell_0 rfl rfl ?_
  refine AW.aload_n (pc := 1) dL_cell_1 rfl rfl ?_
  refine AW.slen (pc := 2) dL_cell_2 hk0 ?_
  refine AW.icmp_ge (pc := 3) (tgt := 12) dL_cell_3 (by decide) (fun c => ?_) (fun c => ?_)
  · refine AW.ldc (pc := 12) dL_cell_12 tw_701 ?_
    refine AW.iload_n (pc := 14) dL_cell_14 rfl rfl ?_
    refine AW.iconst (v := 3) (pc := 15) dL_cell_15 (by decide) ?_
    refine AW.iadd (pc := 16) dL_cell_16 ?_
    refine AW.imul (pc := 17) dL_cell_17 ?_
    exact AW.iret (pc := 18) dL_cell_18 rfl rfl (by omega) (by omega) (⟨_, rfl, rfl, rfl⟩)
  · refine AW.aload_n (pc := 6) dL_cell_6 rfl rfl ?_
    refine AW.iload_n (pc := 7) dL_cell_7 rfl rfl ?_
    refine AW.sld (pc := 8) dL_cell_8 hk0 (vp_in_nI (Decidable.byContradiction fun e => c (nI_le (by omega) (by omega))) (by omega)) rfl ?_
    refine AW.goto (pc := 9) (tgt := 18) dL_cell_9 (by decide) ?_
    exact AW.iret (pc := 18) dL_cell_18 rfl rfl (by omega) (by omega) (⟨_, rfl, rfl, rfl⟩)
set_option maxRecDepth 100000 in
set_option maxHeartbeats 4000000 in
theorem c_B_draw {Ls : Nat} {xs : Nat → Int32} {h : Hp} {x : Nat → Int32} {wi pe hz n N q : Nat} {T : Nat → Nat → Int32} {d k : Nat} (hd : 1 ≤ d) (hk0 : 0 < k) (hL : Ls ≤ 260) (hB : BN h x wi pe hz n T) (hq : x 2 = nI q) (hq2 : q < 2 ^ 20) (hN : 0 < N) (hN2 : N < 2 ^ 31) : AMz Ls xs mX5_draw d [.ref 1, .int (nI N)] h k 0 0 (fun oc h' k' => ∃ a, a < N ∧ oc = .inl (some (.int (nI a))) ∧ h' = va_up h 1 (.inr (5, bf (upd x 2 (nI (q + 1))) wi pe hz)) ∧ k = k') := by
  refine AMz.intro (n := 1) (by decide) rfl rfl rfl ?_
  refine AW.aload_n (pc := 0) dX5_draw_0 rfl rfl ?_
  refine AW.get (pc := 1) (i := 1) (ci := 5) (f := 1) (N := 14) (C := RX5) (T := TX5) dX5_draw_1 tw_650 rfl (by decide) rfl (by decide) (hB.1) rfl ?_
  refine AW.aload_n (pc := 4) dX5_draw_4 rfl rfl ?_
  refine AW.get (pc := 5) (i := 1) (ci := 5) (f := 2) (N := 14) (C := RX5) (T := TX5) dX5_draw_5 tw_651 rfl (by decide) rfl (by decide) (hB.1) rfl ?_
  refine AW.bipush (v := 24) (pc := 8) dX5_draw_8 (by decide) ?_
  refine AW.irem (pc := 10) dX5_draw_10 (by first | decide | assumption) ?_
  rw [hq, show nI q - nI q / (24 : Int32) * (24 : Int32) = nI (q % 24) from pk_rem (d := 24) (by omega) (by decide) (by decide)]
  refine AW.callSNz (pc := 11) (S' := []) dX5_draw_11 (c_L_cell (d := d - 1) hk0 hL (by omega)) hk0 ok_L_cell tw_699 tw_698 rfl (by omega) rfl (Nat.le_of_ble_eq_true rfl) (by omega) (by omega) (fun E h' k' hq => by obtain ⟨r, hx9, -⟩ := hq; try cases hx9) ?_
  intro v h' k' hq
  obtain ⟨r, hx9, rfl, rfl⟩ := hq
  cases hx9
  show AW _ _ _ _ _ _ _ 14 [.ref 1, .int (nI N), .null] [.int r] h k 0 0
  refine AW.aload_n (pc := 14) dX5_draw_14 rfl rfl ?_
  refine AW.get (pc := 15) (i := 1) (ci := 5) (f := 2) (N := 14) (C := RX5) (T := TX5) dX5_draw_15 tw_651 rfl (by decide) rfl (by decide) (hB.1) rfl ?_
  refine AW.bipush (v := 24) (pc := 18) dX5_draw_18 (by decide) ?_
  refine AW.idiv (pc := 20) dX5_draw_20 (by first | decide | assumption) ?_
  refine AW.bipush (v := 8) (pc := 21) dX5_draw_21 (by decide) ?_
  refine AW.irem (pc := 23) dX5_draw_23 (by first | decide | assumption) ?_
  rw [hq, show nI q / (24 : Int32) = nI (q / 24) from pk_div (d := 24) (by omega) (by decide) (by decide), show nI (q / 24) - nI (q / 24) / (8 : Int32) * (8 : Int32) = nI (q / 24 % 8) from pk_rem (d := 8) (by omega) (by decide) (by decide)]
  refine AW.ishr (pc := 24) dX5_draw_24 ?_
  refine AW.bipush (v := 113) (pc := 25) dX5_draw_25 (by decide) ?_
  refine AW.aload_n (pc := 27) dX5_draw_27 rfl rfl ?_
  refine AW.get (pc := 28) (i := 1) (ci := 5) (f := 2) (N := 14) (C := RX5) (T := TX5) dX5_draw_28 tw_651 rfl (by decide) rfl (by decide) (hB.1) rfl ?_
  refine AW.imul (pc := 31) dX5_draw_31 ?_
  refine AW.iadd (pc := 32) dX5_draw_32 ?_
  refine AW.iload_n (pc := 33) dX5_draw_33 rfl rfl ?_
  generalize ((r >>> ((nI (q / 24 % 8)) &&& 31)) + ((113 : Int32) * (x 2))) = vv
  refine AW.callSN (pc := 34) (S' := []) dX5_draw_34 (c_L_below (d := d - 1) hN hN2) ok_L_below tw_703 tw_702 rfl (by omega) rfl (Nat.le_of_ble_eq_true rfl) (by omega) (by omega) (fun E h' k' hq => by obtain ⟨a, ha, hx9, -⟩ := hq; try cases hx9) ?_
  intro v h' k' hq
  obtain ⟨a, ha, hx9, rfl, rfl⟩ := hq
  cases hx9
  show AW _ _ _ _ _ _ _ 37 [.ref 1, .int (nI N), .null] [.int (nI a)] h k 0 0
  refine AW.istore_n (L' := [.ref 1, .int (nI N), .int (nI a)]) (pc := 37) dX5_draw_37 rfl (by decide) rfl rfl ?_
  refine AW.aload_n (pc := 38) dX5_draw_38 rfl rfl ?_
  refine AW.dup (pc := 39) dX5_draw_39 rfl ?_
  refine AW.get (pc := 40) (i := 1) (ci := 5) (f := 2) (N := 14) (C := RX5) (T := TX5) dX5_draw_40 tw_651 rfl (by decide) rfl (by decide) (hB.1) rfl ?_
  refine AW.iconst (v := 1) (pc := 43) dX5_draw_43 (by decide) ?_
  refine AW.iadd (pc := 44) dX5_draw_44 ?_
  rw [hq, nI_1 q]
  refine AW.put (pc := 45) (i := 1) (ci := 5) (f := 2) (N := 14) (C := RX5) (T := TX5) (fs' := bf (upd x 2 (nI (q + 1))) wi pe hz) dX5_draw_45 tw_651 rfl (by decide) rfl (by decide) hB.1 (Nat.le_of_ble_eq_true rfl) rfl (fun _ => ⟨rfl, rfl⟩) rfl ?_
  show AW _ _ _ _ _ _ _ 48 [.ref 1, .int (nI N), .int (nI a)] [] (va_up h 1 (.inr (5, bf (upd x 2 (nI (q + 1))) wi pe hz))) k 0 0
  refine AW.iload_n (pc := 48) dX5_draw_48 rfl rfl ?_
  exact AW.iret (pc := 49) dX5_draw_49 rfl rfl (by omega) (by omega) (⟨a, ha, rfl, rfl, rfl⟩)
theorem BN.draw {h : Hp} {x : Nat → Int32} {wi pe hz n : Nat} {T : Nat → Nat → Int32} {v : Int32} (hB : BN h x wi pe hz n T) : BN (va_up h 1 (.inr (5, bf (upd x 2 v) wi pe hz))) (upd x 2 v) wi pe hz n T :=
  ⟨up_same, hB.2.1, (up_ne (by omega)).trans hB.2.2.1, fun l hl => (up_ne (by omega)).trans (hB.2.2.2 l hl)⟩
set_option maxRecDepth 100000 in
set_option maxHeartbeats 4000000 in
theorem c_B_from {Ls : Nat} {xs : Nat → Int32} {h : Hp} {x : Nat → Int32} {wi pe hz n N q : Nat} {T : Nat → Nat → Int32} {d k : Nat} (hd : 2 ≤ d) (hk0 : 0 < k) (hL : Ls ≤ 260) (hB : BN h x wi pe hz n T) (hq : x 2 = nI q) (hq2 : q < 2 ^ 20) (hN : 0 < N) (hN2 : N < 2 ^ 31) : AMz Ls xs mX5_from d [.ref 1, .int (nI N), .int 0] h k 0 0 (fun oc h' k' => ∃ a, a < N ∧ oc = .inl (some (.int (nI a))) ∧ h' = va_up h 1 (.inr (5, bf (upd x 2 (nI (q + 1))) wi pe hz)) ∧ k = k') := by
  refine AMz.intro (n := 0) (by decide) rfl rfl rfl ?_
  refine AW.iload_n (pc := 0) dX5_from_0 rfl rfl ?_
  refine AW.if_le (pc := 1) (tgt := 21) dX5_from_1 (by decide) (fun _ => ?_) (fun c => absurd (by decide) c)
  refine AW.aload_n (pc := 21) dX5_from_21 rfl rfl ?_
  refine AW.iload_n (pc := 22) dX5_from_22 rfl rfl ?_
  refine AW.callVz (pc := 23) (S' := []) dX5_from_23 (c_B_draw (d := d - 1) (by omega) hk0 hL hB hq hq2 hN hN2) hk0 ok_X5_draw tw_695 tw_696 tw_767 (by decide) (hB.1) (show aw_cl[5]? = some _ from rfl) rfl rfl (by omega) rfl (Nat.le_of_ble_eq_true rfl) (by omega) (by omega) ?_ (fun E h' k' hq => by obtain ⟨a, ha, hx9, -⟩ := hq; try cases hx9)
  intro v h' k' hq
  obtain ⟨a, ha, hx9, rfl, rfl⟩ := hq
  cases hx9
  show AW _ _ _ _ _ _ _ 26 [.ref 1, .int (nI N), .int 0] [.int (nI a)] (va_up h 1 (.inr (5, bf (upd x 2 (nI (q + 1))) wi pe hz))) k 0 0
  exact AW.iret (pc := 26) dX5_from_26 rfl rfl (by omega) (by omega) (⟨a, ha, rfl, rfl, rfl⟩)
