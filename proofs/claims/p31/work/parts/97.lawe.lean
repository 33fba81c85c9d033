/-! the law's walk: the wires of a step -/
theorem isV_nn {a : Int32} (h : isV a) : ¬ a < 0 := by rcases h with rfl | rfl | rfl <;> decide
theorem isV_le {a : Int32} (h : isV a) : ¬ 2 < a := by rcases h with rfl | rfl | rfl <;> decide
theorem TMS.le_now {now : Nat} {a : Int32} (h : TMS now a) (hn : now < 2 ^ 31) : ¬ nI now < a := by
  rcases h with rfl | ⟨t, ht, rfl⟩
  · intro e
    rw [Int32.lt_iff_toInt_lt, nI_toInt hn, show (-1 : Int32).toInt = -1 by decide] at e
    omega
  · intro e
    have := (nI_ltI hn (by omega)).mp e
    omega
section LAW
variable {Ls : Nat} {xs : Nat → Int32} {T : Nat → Nat → Int32} {g m : Mem} {n k t q cs ss : Nat} {h : Hp} {ρ : Rw}
set_option maxRecDepth 100000 in
set_option maxHeartbeats 4000000 in
theorem law_wires {sp c6 c8 : Int32} {dg : Int64} {w0 v now B cs0 ss0 : Nat} (hG : GD g n) (hk : 79 + n ≤ k) (hS : SI g n now B ρ) (hgs : GCo g n ρ) (hB : B < 2 ^ 20) (hb : now + 7000 < 2 ^ 31) (hv : nI v = 0 ∨ nI v = 1) (hcs : cs0 + 300 ≤ 600074) (hss : ss0 + 1800 ≤ 7301550) (Kend : ∀ (h2 : Hp) (m2 : Mem) (cs2 ss2 : Nat), LM T g n h2 q ρ m2 → cs2 ≤ cs0 + 300 → ss2 ≤ ss0 + 1800 → AW (aw_ZL Ls xs) mlaw 2028 1 600074 7301550 aw_QL 594 [.ref 0, .int (nI t), .ref 1, .ref 2, .null, .int sp, .int c6, .int (nI w0), .int c8, .int (nI v), .long dg, .null, .int (nI now), .int (nI 24), .null, .null, .null, .null, .null, .null, .null, .null] [] h2 k cs2 ss2) : ∀ (r y : Nat) (h : Hp) (m : Mem) (cs ss : Nat), y + r = 24 → LM T g n h q ρ m → cs ≤ cs0 + 12 * y → ss ≤ ss0 + 72 * y → AW (aw_ZL Ls xs) mlaw 2028 1 600074 7301550 aw_QL 515 [.ref 0, .int (nI t), .ref 1, .ref 2, .null, .int sp, .int c6, .int (nI w0), .int c8, .int (nI v), .long dg, .null, .int (nI now), .int (nI y), .null, .null, .null, .null, .null, .null, .null, .null] [] h k cs ss := by
  intro r
  induction r with
  | zero =>
    intro y h m cs ss hr hM hc hs
    refine AW.iload (pc := 515) dL_law_515 rfl ?_
    refine AW.bipush (v := 24) (pc := 517) dL_law_517 (by decide) ?_
    refine AW.icmp_ge (pc := 519) (tgt := 594) dL_law_519 (by decide) (fun _ => ?_) (fun c => absurd (nI_le (a := 24) (by omega) (by omega)) c)
    have e24 : y = 24 := by omega
    subst e24
    exact Kend _ _ _ _ hM (by omega) (by omega)
  | succ r ih =>
    intro y h m cs ss hr hM hc hs
    refine AW.iload (pc := 515) dL_law_515 rfl ?_
    refine AW.bipush (v := 24) (pc := 517) dL_law_517 (by decide) ?_
    refine AW.icmp_ge (pc := 519) (tgt := 594) dL_law_519 (by decide) (fun c => absurd c (nI_ge (b := 24) (by omega) (by decide))) (fun _ => ?_)
    refine AW.aload_n (pc := 522) dL_law_522 rfl rfl ?_
    refine AW.iload (pc := 523) dL_law_523 rfl ?_
    refine AW.iconst (v := 0) (pc := 525) dL_law_525 (by decide) ?_
    refine AW.callRd (pc := 526) (S' := []) dL_law_526 (l_wire0 (d := 2027) hM (by decide) (by omega)) hM.1 (by omega) (by simp [aw_ok]) ok_X4_ofWire tw_307 tw_308 tw_306 rfl rfl (by omega) rfl (Nat.le_of_ble_eq_true rfl) (by omega) (by omega) ?_
    show AW _ _ _ _ _ _ _ 529 [.ref 0, .int (nI t), .ref 1, .ref 2, .null, .int sp, .int c6, .int (nI w0), .int c8, .int (nI v), .long dg, .null, .int (nI now), .int (nI y), .null, .null, .null, .null, .null, .null, .null, .null] [.int (ρ (6 + y))] h k (cs + 2) (ss + 12)
    refine AW.if_lt (pc := 529) (tgt := 586) dL_law_529 (by decide) (fun c => absurd c (isV_nn (hS.2.2.2.2.2.2.2.1 y (by omega)))) (fun _ => ?_)
    refine AW.aload_n (pc := 532) dL_law_532 rfl rfl ?_
    refine AW.iload (pc := 533) dL_law_533 rfl ?_
    refine AW.iconst (v := 0) (pc := 535) dL_law_535 (by decide) ?_
    refine AW.callRd (pc := 536) (S' := []) dL_law_536 (l_wire0 (d := 2027) hM (by decide) (by omega)) hM.1 (by omega) (by simp [aw_ok]) ok_X4_ofWire tw_307 tw_308 tw_306 rfl rfl (by omega) rfl (Nat.le_of_ble_eq_true rfl) (by omega) (by omega) ?_
    show AW _ _ _ _ _ _ _ 539 [.ref 0, .int (nI t), .ref 1, .ref 2, .null, .int sp, .int c6, .int (nI w0), .int c8, .int (nI v), .long dg, .null, .int (nI now), .int (nI y), .null, .null, .null, .null, .null, .null, .null, .null] [.int (ρ (6 + y))] h k ((cs + 2) + 2) ((ss + 12) + 12)
    refine AW.iconst (v := 2) (pc := 539) dL_law_539 (by decide) ?_
    refine AW.icmp_gt (pc := 540) (tgt := 586) dL_law_540 (by decide) (fun c => absurd c (isV_le (hS.2.2.2.2.2.2.2.1 y (by omega)))) (fun _ => ?_)
    refine AW.aload_n (pc := 543) dL_law_543 rfl rfl ?_
    refine AW.iload (pc := 544) dL_law_544 rfl ?_
    refine AW.iconst (v := 1) (pc := 546) dL_law_546 (by decide) ?_
    refine AW.callRd (pc := 547) (S' := []) dL_law_547 (l_wire1 (d := 2027) hM (by decide) (by omega)) hM.1 (by omega) (by simp [aw_ok]) ok_X4_ofWire tw_307 tw_308 tw_306 rfl rfl (by omega) rfl (Nat.le_of_ble_eq_true rfl) (by omega) (by omega) ?_
    show AW _ _ _ _ _ _ _ 550 [.ref 0, .int (nI t), .ref 1, .ref 2, .null, .int sp, .int c6, .int (nI w0), .int c8, .int (nI v), .long dg, .null, .int (nI now), .int (nI y), .null, .null, .null, .null, .null, .null, .null, .null] [.int (ρ (30 + y))] h k (((cs + 2) + 2) + 2) (((ss + 12) + 12) + 12)
    refine AW.iload (pc := 550) dL_law_550 rfl ?_
    refine AW.icmp_gt (pc := 552) (tgt := 586) dL_law_552 (by decide) (fun c => absurd c ((hS.2.2.2.1 y (by omega)).le_now (by omega))) (fun _ => ?_)
    refine AW.aload_n (pc := 555) dL_law_555 rfl rfl ?_
    refine AW.iload (pc := 556) dL_law_556 rfl ?_
    refine AW.iconst (v := 2) (pc := 558) dL_law_558 (by decide) ?_
    obtain ⟨cc, hcc, ecc⟩ := hS.2.2.2.2.2.1 y (by omega)
    refine AW.callRd (pc := 559) (S' := []) dL_law_559 (l_wire2 (d := 2027) hM (by decide) (by omega)) hM.1 (by omega) (by simp [aw_ok]) ok_X4_ofWire tw_307 tw_308 tw_306 rfl rfl (by omega) rfl (Nat.le_of_ble_eq_true rfl) (by omega) (by omega) ?_
    show AW _ _ _ _ _ _ _ 562 [.ref 0, .int (nI t), .ref 1, .ref 2, .null, .int sp, .int c6, .int (nI w0), .int c8, .int (nI v), .long dg, .null, .int (nI now), .int (nI y), .null, .null, .null, .null, .null, .null, .null, .null] [.int (ρ (54 + y))] h k ((((cs + 2) + 2) + 2) + 2) ((((ss + 12) + 12) + 12) + 12)
    rw [ecc]
    show AW _ _ _ _ _ _ _ 562 [.ref 0, .int (nI t), .ref 1, .ref 2, .null, .int sp, .int c6, .int (nI w0), .int c8, .int (nI v), .long dg, .null, .int (nI now), .int (nI y), .null, .null, .null, .null, .null, .null, .null, .null] [.int (nI cc)] h k ((((cs + 2) + 2) + 2) + 2) ((((ss + 12) + 12) + 12) + 12)
    refine AW.if_lt (pc := 562) (tgt := 586) dL_law_562 (by decide) (fun c => absurd c (nI_pos (by omega))) (fun _ => ?_)
    refine AW.iload (pc := 565) dL_law_565 rfl ?_
    refine AW.iconst (v := 4) (pc := 567) dL_law_567 (by decide) ?_
    refine AW.icmp_ge (pc := 568) (tgt := 588) dL_law_568 (by decide) (fun c => ?_) (fun c => ?_)
    · refine AW.iinc (v := ((nI y) + 1)) (L' := [.ref 0, .int (nI t), .ref 1, .ref 2, .null, .int sp, .int c6, .int (nI w0), .int c8, .int (nI v), .long dg, .null, .int (nI now), .int ((nI y) + 1), .null, .null, .null, .null, .null, .null, .null, .null]) (pc := 588) dL_law_588 rfl rfl (by decide) rfl rfl ?_
      rw [nI_1 y]
      refine AW.goto (pc := 591) (tgt := 515) dL_law_591 (by decide) ?_
      exact ih (y + 1) _ _ _ _ (by omega) hM (by omega) (by omega)
    · have hy4 : y < 4 := Decidable.byContradiction fun e => c (nI_le (a := 4) (by omega) (by omega))
      refine AW.aload_n (pc := 571) dL_law_571 rfl rfl ?_
      refine AW.iload (pc := 572) dL_law_572 rfl ?_
      refine AW.iload (pc := 574) dL_law_574 rfl ?_
      refine AW.iload (pc := 576) dL_law_576 rfl ?_
      refine AW.callTr (pc := 578) (S' := []) dL_law_578 (l_wouldBe (d := 2027) hM (by decide) (by omega) (by omega) (hG.inpw hy4) hv) hM.1 (by omega) (by simp [aw_ok]) ok_X4_wouldBe tw_331 tw_332 tw_330 rfl rfl (by omega) rfl (Nat.le_of_ble_eq_true rfl) (by omega) (by omega) ?_
      intro m' h' hS' hC' hF'
      show AW _ _ _ _ _ _ _ 581 [.ref 0, .int (nI t), .ref 1, .ref 2, .null, .int sp, .int c6, .int (nI w0), .int c8, .int (nI v), .long dg, .null, .int (nI now), .int (nI y), .null, .null, .null, .null, .null, .null, .null, .null] [.int (S_settle g n (S_set g n y (nI v) ρ) (6 + y))] h' k (((((cs + 2) + 2) + 2) + 2) + 4) (((((ss + 12) + 12) + 12) + 12) + 24)
      have hM2 := hM.tr hk hS' hC' hF'
      rw [would_ok hG hb hS hgs hy4 (isV01 hv)]
      refine AW.iload (pc := 581) dL_law_581 rfl ?_
      refine AW.icmp_eq (pc := 583) (tgt := 588) dL_law_583 (by decide) (fun _ => ?_) (fun c => absurd (rfl) c)
      refine AW.iinc (v := ((nI y) + 1)) (L' := [.ref 0, .int (nI t), .ref 1, .ref 2, .null, .int sp, .int c6, .int (nI w0), .int c8, .int (nI v), .long dg, .null, .int (nI now), .int ((nI y) + 1), .null, .null, .null, .null, .null, .null, .null, .null]) (pc := 588) dL_law_588 rfl rfl (by decide) rfl rfl ?_
      rw [nI_1 y]
      refine AW.goto (pc := 591) (tgt := 515) dL_law_591 (by decide) ?_
      exact ih (y + 1) _ _ _ _ (by omega) hM2 (by omega) (by omega)
end LAW
