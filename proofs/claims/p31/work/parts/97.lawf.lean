/-! the law's walk: setting, and what is seen behind it -/
section LAW
variable {Ls : Nat} {xs : Nat → Int32} {T : Nat → Nat → Int32} {g m : Mem} {n k t q cs ss : Nat} {h : Hp} {ρ : Rw}
set_option maxRecDepth 100000 in
set_option maxHeartbeats 4000000 in
theorem law_set {sp : Int32} {now B : Nat} (hL : Ls ≤ 260) (hG : GD g n) (hk : 79 + n ≤ k) (hM : LM T g n h q ρ m) (hq : q < 2 ^ 19) (hS : SI g n now B ρ) (hgs : GCo g n ρ) (hb : now + 7000 < 2 ^ 31) (hcs : cs + 20 ≤ 600074) (hss : ss + 120 ≤ 7301550) (Kn : ∀ (w v : Nat) (h2 : Hp) (m2 : Mem) (cs2 ss2 : Nat), w < 4 → (nI v = 0 ∨ nI v = 1) → LM T g n h2 (q + 1 + 1) (S_set g n w (nI v) ρ) m2 → SI g n now 1 (S_set g n w (nI v) ρ) → GCo g n (S_set g n w (nI v) ρ) → cs2 ≤ cs + 20 → ss2 ≤ ss + 120 → AW (aw_ZL Ls xs) mlaw 2028 1 600074 7301550 aw_QL 443 [.ref 0, .int (nI t), .ref 1, .ref 2, .null, .int sp, .int (ρ 3), .int (nI w), .int (ρ (6 + w)), .int (nI v), .null, .null, .null, .null, .null, .null, .null, .null, .null, .null, .null, .null] [] h2 k cs2 ss2) : AW (aw_ZL Ls xs) mlaw 2028 1 600074 7301550 aw_QL 346 [.ref 0, .int (nI t), .ref 1, .ref 2, .null, .int sp, .null, .null, .null, .null, .null, .null, .null, .null, .null, .null, .null, .null, .null, .null, .null, .null] [] h k cs ss := by
  have h17 := hG.1
  have hk0 : 0 < 1 := by decide
  obtain ⟨x, pe, hz, e2, hB⟩ := hM.2.2.2.2
  refine AW.aload_n (pc := 346) dL_law_346 rfl rfl ?_
  refine AW.iconst (v := 5) (pc := 347) dL_law_347 (by decide) ?_
  refine AW.callRd (pc := 348) (S' := []) dL_law_348 (l_told (d := 2027) hM (by decide) (by decide)) hM.1 (by omega) (by simp [aw_ok]) ok_X4_told tw_294 tw_295 tw_293 rfl rfl (by omega) rfl (Nat.le_of_ble_eq_true rfl) (by omega) (by omega) ?_
  show AW _ _ _ _ _ _ _ 351 [.ref 0, .int (nI t), .ref 1, .ref 2, .null, .int sp, .null, .null, .null, .null, .null, .null, .null, .null, .null, .null, .null, .null, .null, .null, .null, .null] [.int (S_told n ρ 5)] h k (cs + 1) (ss + 6)
  rw [told5]
  show AW _ _ _ _ _ _ _ 351 [.ref 0, .int (nI t), .ref 1, .ref 2, .null, .int sp, .null, .null, .null, .null, .null, .null, .null, .null, .null, .null, .null, .null, .null, .null, .null, .null] [.int (ρ 3)] h k (cs + 1) (ss + 6)
  refine AW.istore (L' := [.ref 0, .int (nI t), .ref 1, .ref 2, .null, .int sp, .int (ρ 3), .null, .null, .null, .null, .null, .null, .null, .null, .null, .null, .null, .null, .null, .null, .null]) (pc := 351) dL_law_351 (by decide) rfl rfl ?_
  refine AW.aload_n (pc := 353) dL_law_353 rfl rfl ?_
  refine AW.iconst (v := 4) (pc := 354) dL_law_354 (by decide) ?_
  refine AW.callVz (pc := 355) (S' := []) dL_law_355 (c_B_draw (d := 2027) (N := 4) (q := q) (by decide) (by omega) hL hB e2 (by omega) (by decide) (by decide)) hk0 ok_X5_draw tw_695 tw_696 tw_694 (by decide) (hB.1) (show aw_cl[5]? = some _ from rfl) rfl rfl (by omega) rfl (Nat.le_of_ble_eq_true rfl) (by omega) (by omega) ?_ (fun E h' k' hq => by obtain ⟨_, _, hx9, -⟩ := hq; try cases hx9)
  intro v h' k' hq
  obtain ⟨w, hw, hx9, rfl, rfl⟩ := hq
  cases hx9
  show AW _ _ _ _ _ _ _ 358 [.ref 0, .int (nI t), .ref 1, .ref 2, .null, .int sp, .int (ρ 3), .null, .null, .null, .null, .null, .null, .null, .null, .null, .null, .null, .null, .null, .null, .null] [.int (nI w)] (va_up h 1 (.inr (5, bf (upd x 2 (nI (q + 1))) 49 pe hz))) k (cs + 1) (ss + 6)
  have hM1 := hM.draw hB (q := q)
  generalize (va_up h 1 (.inr (5, bf (upd x 2 (nI (q + 1))) 49 pe hz))) = h1 at hM1 ⊢
  show AW _ _ _ _ _ _ _ 358 [.ref 0, .int (nI t), .ref 1, .ref 2, .null, .int sp, .int (ρ 3), .null, .null, .null, .null, .null, .null, .null, .null, .null, .null, .null, .null, .null, .null, .null] [.int (nI w)] h1 k (cs + 1) (ss + 6)
  refine AW.istore (L' := [.ref 0, .int (nI t), .ref 1, .ref 2, .null, .int sp, .int (ρ 3), .int (nI w), .null, .null, .null, .null, .null, .null, .null, .null, .null, .null, .null, .null, .null, .null]) (pc := 358) dL_law_358 (by decide) rfl rfl ?_
  refine AW.aload_n (pc := 360) dL_law_360 rfl rfl ?_
  refine AW.iload (pc := 361) dL_law_361 rfl ?_
  refine AW.iconst (v := 0) (pc := 363) dL_law_363 (by decide) ?_
  clear e2
  have hw24 : w < 24 := by omega
  refine AW.callRd (pc := 364) (S' := []) dL_law_364 (l_wire0 (d := 2027) hM1 (by decide) hw24) hM1.1 (by omega) (by simp [aw_ok]) ok_X4_ofWire tw_307 tw_308 tw_306 rfl rfl (by omega) rfl (Nat.le_of_ble_eq_true rfl) (by omega) (by omega) ?_
  show AW _ _ _ _ _ _ _ 367 [.ref 0, .int (nI t), .ref 1, .ref 2, .null, .int sp, .int (ρ 3), .int (nI w), .null, .null, .null, .null, .null, .null, .null, .null, .null, .null, .null, .null, .null, .null] [.int (ρ (6 + w))] h1 k ((cs + 1) + 2) ((ss + 6) + 12)
  refine AW.istore (L' := [.ref 0, .int (nI t), .ref 1, .ref 2, .null, .int sp, .int (ρ 3), .int (nI w), .int (ρ (6 + w)), .null, .null, .null, .null, .null, .null, .null, .null, .null, .null, .null, .null, .null]) (pc := 367) dL_law_367 (by decide) rfl rfl ?_
  refine AW.aload_n (pc := 369) dL_law_369 rfl rfl ?_
  refine AW.iconst (v := 2) (pc := 370) dL_law_370 (by decide) ?_
  clear hB
  obtain ⟨x1, pe, hz, e2, hB⟩ := hM1.2.2.2.2
  refine AW.callVz (pc := 371) (S' := []) dL_law_371 (c_B_draw (d := 2027) (N := 2) (q := (q + 1)) (by decide) (by omega) hL hB e2 (by omega) (by decide) (by decide)) hk0 ok_X5_draw tw_695 tw_696 tw_694 (by decide) (hB.1) (show aw_cl[5]? = some _ from rfl) rfl rfl (by omega) rfl (Nat.le_of_ble_eq_true rfl) (by omega) (by omega) ?_ (fun E h' k' hq => by obtain ⟨_, _, hx9, -⟩ := hq; try cases hx9)
  intro v h' k' hq
  obtain ⟨v, hv, hx9, rfl, rfl⟩ := hq
  cases hx9
  show AW _ _ _ _ _ _ _ 374 [.ref 0, .int (nI t), .ref 1, .ref 2, .null, .int sp, .int (ρ 3), .int (nI w), .int (ρ (6 + w)), .null, .null, .null, .null, .null, .null, .null, .null, .null, .null, .null, .null, .null] [.int (nI v)] (va_up h1 1 (.inr (5, bf (upd x1 2 (nI ((q + 1) + 1))) 49 pe hz))) k ((cs + 1) + 2) ((ss + 6) + 12)
  have hM2 := hM1.draw hB (q := (q + 1))
  generalize (va_up h1 1 (.inr (5, bf (upd x1 2 (nI ((q + 1) + 1))) 49 pe hz))) = h2 at hM2 ⊢
  show AW _ _ _ _ _ _ _ 374 [.ref 0, .int (nI t), .ref 1, .ref 2, .null, .int sp, .int (ρ 3), .int (nI w), .int (ρ (6 + w)), .null, .null, .null, .null, .null, .null, .null, .null, .null, .null, .null, .null, .null] [.int (nI v)] h2 k ((cs + 1) + 2) ((ss + 6) + 12)
  refine AW.istore (L' := [.ref 0, .int (nI t), .ref 1, .ref 2, .null, .int sp, .int (ρ 3), .int (nI w), .int (ρ (6 + w)), .int (nI v), .null, .null, .null, .null, .null, .null, .null, .null, .null, .null, .null, .null]) (pc := 374) dL_law_374 (by decide) rfl rfl ?_
  refine AW.aload_n (pc := 376) dL_law_376 rfl rfl ?_
  refine AW.iload (pc := 377) dL_law_377 rfl ?_
  refine AW.iload (pc := 379) dL_law_379 rfl ?_
  have hv01 : nI v = 0 ∨ nI v = 1 := by have : v = 0 ∨ v = 1 := (by omega); rcases this with rfl | rfl; exact Or.inl rfl; exact Or.inr rfl
  obtain ⟨s1, s2, s3, s4⟩ := set_ok (w := w) (v := nI v) hG (by omega) hS hgs hw (isV01 hv01)
  refine AW.callRn (pc := 381) (S' := []) dL_law_381 (l_set (d := 2027) hM2 (by decide) hw24 (hG.inpw hw) hv01) hM2.1 (by omega) (by simp [aw_ok]) ok_X4_set tw_136 tw_137 tw_135 rfl rfl (by omega) rfl (Nat.le_of_ble_eq_true rfl) (by omega) (by omega) ?_
  intro m' h' hR' hρ' hC' hF'
  show AW _ _ _ _ _ _ _ 384 [.ref 0, .int (nI t), .ref 1, .ref 2, .null, .int sp, .int (ρ 3), .int (nI w), .int (ρ (6 + w)), .int (nI v), .null, .null, .null, .null, .null, .null, .null, .null, .null, .null, .null, .null] [.int (ρ (6 + w))] h' k (((cs + 1) + 2) + 3) (((ss + 6) + 12) + 18)
  have hM3 := hM2.rn hk hR' hρ' hC' hF' (hM2.rw_.set hG.le30 hG.wf hw24 (isV01 hv01)) ⟨0, by omega, s1.1.2⟩
  refine AW.iload (pc := 384) dL_law_384 rfl ?_
  refine AW.icmp_ne (pc := 386) (tgt := 441) dL_law_386 (by decide) (fun c => absurd (rfl) c) (fun _ => ?_)
  refine AW.aload_n (pc := 389) dL_law_389 rfl rfl ?_
  refine AW.iconst (v := 5) (pc := 390) dL_law_390 (by decide) ?_
  refine AW.callRd (pc := 391) (S' := []) dL_law_391 (l_told (d := 2027) hM3 (by decide) (by decide)) hM3.1 (by omega) (by simp [aw_ok]) ok_X4_told tw_294 tw_295 tw_293 rfl rfl (by omega) rfl (Nat.le_of_ble_eq_true rfl) (by omega) (by omega) ?_
  show AW _ _ _ _ _ _ _ 394 [.ref 0, .int (nI t), .ref 1, .ref 2, .null, .int sp, .int (ρ 3), .int (nI w), .int (ρ (6 + w)), .int (nI v), .null, .null, .null, .null, .null, .null, .null, .null, .null, .null, .null, .null] [.int (S_told n (S_set g n w (nI v) ρ) 5)] h' k ((((cs + 1) + 2) + 3) + 1) ((((ss + 6) + 12) + 18) + 6)
  rw [told5]
  show AW _ _ _ _ _ _ _ 394 [.ref 0, .int (nI t), .ref 1, .ref 2, .null, .int sp, .int (ρ 3), .int (nI w), .int (ρ (6 + w)), .int (nI v), .null, .null, .null, .null, .null, .null, .null, .null, .null, .null, .null, .null] [.int ((S_set g n w (nI v) ρ) 3)] h' k ((((cs + 1) + 2) + 3) + 1) ((((ss + 6) + 12) + 18) + 6)
  refine AW.iload (pc := 394) dL_law_394 rfl ?_
  refine AW.iload (pc := 396) dL_law_396 rfl ?_
  refine AW.iload (pc := 398) dL_law_398 rfl ?_
  by_cases cv : ρ (6 + w) = nI v
  · refine AW.icmp_ne (pc := 400) (tgt := 407) dL_law_400 (by decide) (fun c2 => absurd (cv) c2) (fun _ => ?_)
    refine AW.iconst (v := 0) (pc := 403) dL_law_403 (by decide) ?_
    refine AW.goto (pc := 404) (tgt := 408) dL_law_404 (by decide) ?_
    refine AW.iadd (pc := 408) dL_law_408 ?_
    refine AW.icmp_ne (pc := 409) (tgt := 441) dL_law_409 (by decide) (fun c => absurd (s3.trans (by rw [if_pos cv])) c) (fun _ => ?_)
    refine AW.aload_n (pc := 412) dL_law_412 rfl rfl ?_
    refine AW.iload (pc := 413) dL_law_413 rfl ?_
    refine AW.iconst (v := 0) (pc := 415) dL_law_415 (by decide) ?_
    refine AW.callRd (pc := 416) (S' := []) dL_law_416 (l_wire0 (d := 2027) hM3 (by decide) hw24) hM3.1 (by omega) (by simp [aw_ok]) ok_X4_ofWire tw_307 tw_308 tw_306 rfl rfl (by omega) rfl (Nat.le_of_ble_eq_true rfl) (by omega) (by omega) ?_
    show AW _ _ _ _ _ _ _ 419 [.ref 0, .int (nI t), .ref 1, .ref 2, .null, .int sp, .int (ρ 3), .int (nI w), .int (ρ (6 + w)), .int (nI v), .null, .null, .null, .null, .null, .null, .null, .null, .null, .null, .null, .null] [.int ((S_set g n w (nI v) ρ) (6 + w))] h' k (((((cs + 1) + 2) + 3) + 1) + 2) (((((ss + 6) + 12) + 18) + 6) + 12)
    rw [s4]
    show AW _ _ _ _ _ _ _ 419 [.ref 0, .int (nI t), .ref 1, .ref 2, .null, .int sp, .int (ρ 3), .int (nI w), .int (ρ (6 + w)), .int (nI v), .null, .null, .null, .null, .null, .null, .null, .null, .null, .null, .null, .null] [.int (nI v)] h' k (((((cs + 1) + 2) + 3) + 1) + 2) (((((ss + 6) + 12) + 18) + 6) + 12)
    refine AW.iload (pc := 419) dL_law_419 rfl ?_
    refine AW.icmp_ne (pc := 421) (tgt := 441) dL_law_421 (by decide) (fun c => absurd (rfl) c) (fun _ => ?_)
    refine AW.iload (pc := 424) dL_law_424 rfl ?_
    refine AW.iload (pc := 426) dL_law_426 rfl ?_
    refine AW.icmp_ne (pc := 428) (tgt := 443) dL_law_428 (by decide) (fun c => absurd (cv) c) (fun _ => ?_)
    refine AW.aload_n (pc := 431) dL_law_431 rfl rfl ?_
    refine AW.iload (pc := 432) dL_law_432 rfl ?_
    have ep : (S_set g n w (nI v) ρ) (102 + w) = -1 := s1.2.1 w (by omega) ((hG.2 w (by omega)).2.2.2.2.1.mpr hw)
    refine AW.callRd (pc := 434) (S' := []) dL_law_434 (l_pending (d := 2027) hM3 (by decide) (by omega)) hM3.1 (by omega) (by simp [aw_ok]) ok_X4_pending tw_312 tw_313 tw_311 rfl rfl (by omega) rfl (Nat.le_of_ble_eq_true rfl) (by omega) (by omega) ?_
    show AW _ _ _ _ _ _ _ 437 [.ref 0, .int (nI t), .ref 1, .ref 2, .null, .int sp, .int (ρ 3), .int (nI w), .int (ρ (6 + w)), .int (nI v), .null, .null, .null, .null, .null, .null, .null, .null, .null, .null, .null, .null] [.int ((S_set g n w (nI v) ρ) (102 + w))] h' k ((((((cs + 1) + 2) + 3) + 1) + 2) + 1) ((((((ss + 6) + 12) + 18) + 6) + 12) + 6)
    rw [ep]
    show AW _ _ _ _ _ _ _ 437 [.ref 0, .int (nI t), .ref 1, .ref 2, .null, .int sp, .int (ρ 3), .int (nI w), .int (ρ (6 + w)), .int (nI v), .null, .null, .null, .null, .null, .null, .null, .null, .null, .null, .null, .null] [.int (-1)] h' k ((((((cs + 1) + 2) + 3) + 1) + 2) + 1) ((((((ss + 6) + 12) + 18) + 6) + 12) + 6)
    refine AW.iconst (v := -1) (pc := 437) dL_law_437 (by decide) ?_
    refine AW.icmp_eq (pc := 438) (tgt := 443) dL_law_438 (by decide) (fun _ => ?_) (fun c => absurd (rfl) c)
    exact Kn w v _ _ _ _ hw hv01 hM3 s1 s2 (by omega) (by omega)
  · refine AW.icmp_ne (pc := 400) (tgt := 407) dL_law_400 (by decide) (fun _ => ?_) (fun c2 => absurd c2 (cv))
    refine AW.iconst (v := 1) (pc := 407) dL_law_407 (by decide) ?_
    refine AW.iadd (pc := 408) dL_law_408 ?_
    refine AW.icmp_ne (pc := 409) (tgt := 441) dL_law_409 (by decide) (fun c => absurd (s3.trans (by rw [if_neg cv])) c) (fun _ => ?_)
    refine AW.aload_n (pc := 412) dL_law_412 rfl rfl ?_
    refine AW.iload (pc := 413) dL_law_413 rfl ?_
    refine AW.iconst (v := 0) (pc := 415) dL_law_415 (by decide) ?_
    refine AW.callRd (pc := 416) (S' := []) dL_law_416 (l_wire0 (d := 2027) hM3 (by decide) hw24) hM3.1 (by omega) (by simp [aw_ok]) ok_X4_ofWire tw_307 tw_308 tw_306 rfl rfl (by omega) rfl (Nat.le_of_ble_eq_true rfl) (by omega) (by omega) ?_
    show AW _ _ _ _ _ _ _ 419 [.ref 0, .int (nI t), .ref 1, .ref 2, .null, .int sp, .int (ρ 3), .int (nI w), .int (ρ (6 + w)), .int (nI v), .null, .null, .null, .null, .null, .null, .null, .null, .null, .null, .null, .null] [.int ((S_set g n w (nI v) ρ) (6 + w))] h' k (((((cs + 1) + 2) + 3) + 1) + 2) (((((ss + 6) + 12) + 18) + 6) + 12)
    rw [s4]
    show AW _ _ _ _ _ _ _ 419 [.ref 0, .int (nI t), .ref 1, .ref 2, .null, .int sp, .int (ρ 3), .int (nI w), .int (ρ (6 + w)), .int (nI v), .null, .null, .null, .null, .null, .null, .null, .null, .null, .null, .null, .null] [.int (nI v)] h' k (((((cs + 1) + 2) + 3) + 1) + 2) (((((ss + 6) + 12) + 18) + 6) + 12)
    refine AW.iload (pc := 419) dL_law_419 rfl ?_
    refine AW.icmp_ne (pc := 421) (tgt := 441) dL_law_421 (by decide) (fun c => absurd (rfl) c) (fun _ => ?_)
    refine AW.iload (pc := 424) dL_law_424 rfl ?_
    refine AW.iload (pc := 426) dL_law_426 rfl ?_
    refine AW.icmp_ne (pc := 428) (tgt := 443) dL_law_428 (by decide) (fun _ => ?_) (fun c => absurd c (cv))
    exact Kn w v _ _ _ _ hw hv01 hM3 s1 s2 (by omega) (by omega)
set_option maxRecDepth 100000 in
set_option maxHeartbeats 4000000 in
theorem law_chk {sp c6 c8 : Int32} {w0 v now B : Nat} (hG : GD g n) (hk : 79 + n ≤ k) (hM : LM T g n h q ρ m) (hS : SI g n now B ρ) (hgs : GCo g n ρ) (hB : B < 2 ^ 20) (hb : now + 7000 < 2 ^ 31) (hv : nI v = 0 ∨ nI v = 1) (hcs : cs + 1600 ≤ 600074) (hss : ss + 9600 ≤ 7301550) (Kn : ∀ (dg : Int64) (h2 : Hp) (m2 : Mem) (cs2 ss2 : Nat), LM T g n h2 q ρ m2 → cs2 ≤ cs + 1600 → ss2 ≤ ss + 9600 → AW (aw_ZL Ls xs) mlaw 2028 1 600074 7301550 aw_QL 606 [.ref 0, .int (nI t), .ref 1, .ref 2, .null, .int sp, .int (ρ 3), .int (nI w0), .int c8, .int (nI v), .long dg, .null, .int (nI now), .null, .null, .null, .null, .null, .null, .null, .null, .null] [] h2 k cs2 ss2) : AW (aw_ZL Ls xs) mlaw 2028 1 600074 7301550 aw_QL 443 [.ref 0, .int (nI t), .ref 1, .ref 2, .null, .int sp, .int c6, .int (nI w0), .int c8, .int (nI v), .null, .null, .null, .null, .null, .null, .null, .null, .null, .null, .null, .null] [] h k cs ss := by
  refine AW.aload_n (pc := 443) dL_law_443 rfl rfl ?_
  refine AW.iconst (v := 5) (pc := 444) dL_law_444 (by decide) ?_
  refine AW.callRd (pc := 445) (S' := []) dL_law_445 (l_told (d := 2027) hM (by decide) (by decide)) hM.1 (by omega) (by simp [aw_ok]) ok_X4_told tw_294 tw_295 tw_293 rfl rfl (by omega) rfl (Nat.le_of_ble_eq_true rfl) (by omega) (by omega) ?_
  show AW _ _ _ _ _ _ _ 448 [.ref 0, .int (nI t), .ref 1, .ref 2, .null, .int sp, .int c6, .int (nI w0), .int c8, .int (nI v), .null, .null, .null, .null, .null, .null, .null, .null, .null, .null, .null, .null] [.int (S_told n ρ 5)] h k (cs + 1) (ss + 6)
  rw [told5]
  show AW _ _ _ _ _ _ _ 448 [.ref 0, .int (nI t), .ref 1, .ref 2, .null, .int sp, .int c6, .int (nI w0), .int c8, .int (nI v), .null, .null, .null, .null, .null, .null, .null, .null, .null, .null, .null, .null] [.int (ρ 3)] h k (cs + 1) (ss + 6)
  refine AW.istore (L' := [.ref 0, .int (nI t), .ref 1, .ref 2, .null, .int sp, .int (ρ 3), .int (nI w0), .int c8, .int (nI v), .null, .null, .null, .null, .null, .null, .null, .null, .null, .null, .null, .null]) (pc := 448) dL_law_448 (by decide) rfl rfl ?_
  refine AW.aload_n (pc := 450) dL_law_450 rfl rfl ?_
  refine AW.callTl (pc := 451) (S' := []) dL_law_451 (l_digest (d := 2027) hM (by decide)) hM.1 (by omega) (by simp [aw_ok]) ok_X4_digest tw_366 tw_367 tw_365 rfl rfl (by omega) rfl (Nat.le_of_ble_eq_true rfl) (by omega) (by omega) ?_
  intro m' h' hS' hC' hF'
  show AW _ _ _ _ _ _ _ 454 [.ref 0, .int (nI t), .ref 1, .ref 2, .null, .int sp, .int (ρ 3), .int (nI w0), .int c8, .int (nI v), .null, .null, .null, .null, .null, .null, .null, .null, .null, .null, .null, .null] [.long (S_dig g n (AR g n (g 53)) ρ 1)] h' k ((cs + 1) + 613) ((ss + 6) + 3678)
  have hM1 := hM.tr hk hS' hC' hF'
  refine AW.lstore (L' := [.ref 0, .int (nI t), .ref 1, .ref 2, .null, .int sp, .int (ρ 3), .int (nI w0), .int c8, .int (nI v), .long (S_dig g n (AR g n (g 53)) ρ 1), .null, .null, .null, .null, .null, .null, .null, .null, .null, .null, .null]) (pc := 454) dL_law_454 (by decide) rfl rfl ?_
  refine AW.aload_n (pc := 456) dL_law_456 rfl rfl ?_
  refine AW.iconst (v := 0) (pc := 457) dL_law_457 (by decide) ?_
  refine AW.callRd (pc := 458) (S' := []) dL_law_458 (l_told (d := 2027) hM1 (by decide) (by decide)) hM1.1 (by omega) (by simp [aw_ok]) ok_X4_told tw_294 tw_295 tw_293 rfl rfl (by omega) rfl (Nat.le_of_ble_eq_true rfl) (by omega) (by omega) ?_
  show AW _ _ _ _ _ _ _ 461 [.ref 0, .int (nI t), .ref 1, .ref 2, .null, .int sp, .int (ρ 3), .int (nI w0), .int c8, .int (nI v), .long (S_dig g n (AR g n (g 53)) ρ 1), .null, .null, .null, .null, .null, .null, .null, .null, .null, .null, .null] [.int (S_told n ρ 0)] h' k (((cs + 1) + 613) + 1) (((ss + 6) + 3678) + 6)
  rw [told0, hS.1.1]
  show AW _ _ _ _ _ _ _ 461 [.ref 0, .int (nI t), .ref 1, .ref 2, .null, .int sp, .int (ρ 3), .int (nI w0), .int c8, .int (nI v), .long (S_dig g n (AR g n (g 53)) ρ 1), .null, .null, .null, .null, .null, .null, .null, .null, .null, .null, .null] [.int (nI now)] h' k (((cs + 1) + 613) + 1) (((ss + 6) + 3678) + 6)
  refine AW.istore (L' := [.ref 0, .int (nI t), .ref 1, .ref 2, .null, .int sp, .int (ρ 3), .int (nI w0), .int c8, .int (nI v), .long (S_dig g n (AR g n (g 53)) ρ 1), .null, .int (nI now), .null, .null, .null, .null, .null, .null, .null, .null, .null]) (pc := 461) dL_law_461 (by decide) rfl rfl ?_
  have K512 : ∀ cs2 ss2, cs2 ≤ cs + 640 → ss2 ≤ ss + 4000 → AW (aw_ZL Ls xs) mlaw 2028 1 600074 7301550 aw_QL 512 [.ref 0, .int (nI t), .ref 1, .ref 2, .null, .int sp, .int (ρ 3), .int (nI w0), .int c8, .int (nI v), .long (S_dig g n (AR g n (g 53)) ρ 1), .null, .int (nI now), .null, .null, .null, .null, .null, .null, .null, .null, .null] [] h' k cs2 ss2 := by
    intro cs2 ss2 hc2 hs2
    refine AW.iconst (v := 0) (pc := 512) dL_law_512 (by decide) ?_
    refine AW.istore (L' := [.ref 0, .int (nI t), .ref 1, .ref 2, .null, .int sp, .int (ρ 3), .int (nI w0), .int c8, .int (nI v), .long (S_dig g n (AR g n (g 53)) ρ 1), .null, .int (nI now), .int (0 : Int32), .null, .null, .null, .null, .null, .null, .null, .null]) (pc := 513) dL_law_513 (by decide) rfl rfl ?_
    refine law_wires (cs0 := cs2) (ss0 := ss2) hG hk hS hgs hB hb hv (by omega) (by omega) ?_ 24 0 _ _ _ _ (by decide) hM1 (by omega) (by omega)
    intro h3 m3 cs3 ss3 hM3 hc3 hs3
    refine AW.aload_n (pc := 594) dL_law_594 rfl rfl ?_
    refine AW.callTl (pc := 595) (S' := []) dL_law_595 (l_digest (d := 2027) hM3 (by decide)) hM3.1 (by omega) (by simp [aw_ok]) ok_X4_digest tw_366 tw_367 tw_365 rfl rfl (by omega) rfl (Nat.le_of_ble_eq_true rfl) (by omega) (by omega) ?_
    intro m4 h4 hS4 hC4 hF4
    show AW _ _ _ _ _ _ _ 598 [.ref 0, .int (nI t), .ref 1, .ref 2, .null, .int sp, .int (ρ 3), .int (nI w0), .int c8, .int (nI v), .long (S_dig g n (AR g n (g 53)) ρ 1), .null, .int (nI now), .int (nI 24), .null, .null, .null, .null, .null, .null, .null, .null] [.long (S_dig g n (AR g n (g 53)) ρ 1)] h4 k (cs3 + 613) (ss3 + 3678)
    have hM4 := hM3.tr hk hS4 hC4 hF4
    refine AW.lload (pc := 598) dL_law_598 rfl ?_
    refine AW.lcmp (pc := 600) dL_law_600 ?_
    refine AW.if_eq (pc := 601) (tgt := 606) dL_law_601 (by decide) (fun _ => ?_) (fun c => absurd (lg_self _) c)
    refine AW.locals (L' := [.ref 0, .int (nI t), .ref 1, .ref 2, .null, .int sp, .int (ρ 3), .int (nI w0), .int c8, .int (nI v), .long (S_dig g n (AR g n (g 53)) ρ 1), .null, .int (nI now), .null, .null, .null, .null, .null, .null, .null, .null, .null]) (aw_fewer_same (aw_fewer_same (aw_fewer_same (aw_fewer_same (aw_fewer_null (aw_fewer_same (aw_fewer_same (aw_fewer_same (aw_fewer_same (aw_fewer_same (aw_fewer_same (aw_fewer_null (aw_fewer_same (aw_fewer_null (aw_fewer_null (aw_fewer_null (aw_fewer_null (aw_fewer_null (aw_fewer_null (aw_fewer_null (aw_fewer_null (aw_fewer_null aw_fewer_nil)))))))))))))))))))))) ?_
    exact Kn _ _ _ _ _ hM4 (by omega) (by omega)
  refine AW.aload_n (pc := 463) dL_law_463 rfl rfl ?_
  refine AW.iconst (v := 1) (pc := 464) dL_law_464 (by decide) ?_
  refine AW.callRd (pc := 465) (S' := []) dL_law_465 (l_told (d := 2027) hM1 (by decide) (by decide)) hM1.1 (by omega) (by simp [aw_ok]) ok_X4_told tw_294 tw_295 tw_293 rfl rfl (by omega) rfl (Nat.le_of_ble_eq_true rfl) (by omega) (by omega) ?_
  show AW _ _ _ _ _ _ _ 468 [.ref 0, .int (nI t), .ref 1, .ref 2, .null, .int sp, .int (ρ 3), .int (nI w0), .int c8, .int (nI v), .long (S_dig g n (AR g n (g 53)) ρ 1), .null, .int (nI now), .null, .null, .null, .null, .null, .null, .null, .null, .null] [.int (S_told n ρ 1)] h' k ((((cs + 1) + 613) + 1) + 1) ((((ss + 6) + 3678) + 6) + 6)
  rw [told1]
  show AW _ _ _ _ _ _ _ 468 [.ref 0, .int (nI t), .ref 1, .ref 2, .null, .int sp, .int (ρ 3), .int (nI w0), .int c8, .int (nI v), .long (S_dig g n (AR g n (g 53)) ρ 1), .null, .int (nI now), .null, .null, .null, .null, .null, .null, .null, .null, .null] [.int (nI (S_cnt ρ n 0))] h' k ((((cs + 1) + 613) + 1) + 1) ((((ss + 6) + 3678) + 6) + 6)
  rcases due_ok hG.le30 (by omega) hS with ⟨d1, d2⟩ | ⟨d1, d3, t2, -, -, -, d4, d5, -, d2⟩
  · rw [d1]
    refine AW.if_le (pc := 468) (tgt := 475) dL_law_468 (by decide) (fun _ => ?_) (fun c => absurd (by decide) c)
    refine AW.iconst (v := 0) (pc := 475) dL_law_475 (by decide) ?_
    refine AW.aload_n (pc := 476) dL_law_476 rfl rfl ?_
    refine AW.iconst (v := 2) (pc := 477) dL_law_477 (by decide) ?_
    refine AW.callRd (pc := 478) (S' := [.int (0 : Int32)]) dL_law_478 (l_told (d := 2027) hM1 (by decide) (by decide)) hM1.1 (by omega) (by simp [aw_ok]) ok_X4_told tw_294 tw_295 tw_293 rfl rfl (by omega) rfl (Nat.le_of_ble_eq_true rfl) (by omega) (by omega) ?_
    show AW _ _ _ _ _ _ _ 481 [.ref 0, .int (nI t), .ref 1, .ref 2, .null, .int sp, .int (ρ 3), .int (nI w0), .int c8, .int (nI v), .long (S_dig g n (AR g n (g 53)) ρ 1), .null, .int (nI now), .null, .null, .null, .null, .null, .null, .null, .null, .null] [.int (S_told n ρ 2), .int (0 : Int32)] h' k (((((cs + 1) + 613) + 1) + 1) + 1) (((((ss + 6) + 3678) + 6) + 6) + 6)
    rw [told2, d2]
    refine AW.if_lt (pc := 481) (tgt := 488) dL_law_481 (by decide) (fun _ => ?_) (fun c => absurd (by decide) c)
    refine AW.iconst (v := 0) (pc := 488) dL_law_488 (by decide) ?_
    refine AW.icmp_ne (pc := 489) (tgt := 510) dL_law_489 (by decide) (fun c => absurd (rfl) c) (fun _ => ?_)
    refine AW.aload_n (pc := 492) dL_law_492 rfl rfl ?_
    refine AW.iconst (v := 2) (pc := 493) dL_law_493 (by decide) ?_
    refine AW.callRd (pc := 494) (S' := []) dL_law_494 (l_told (d := 2027) hM1 (by decide) (by decide)) hM1.1 (by omega) (by simp [aw_ok]) ok_X4_told tw_294 tw_295 tw_293 rfl rfl (by omega) rfl (Nat.le_of_ble_eq_true rfl) (by omega) (by omega) ?_
    show AW _ _ _ _ _ _ _ 497 [.ref 0, .int (nI t), .ref 1, .ref 2, .null, .int sp, .int (ρ 3), .int (nI w0), .int c8, .int (nI v), .long (S_dig g n (AR g n (g 53)) ρ 1), .null, .int (nI now), .null, .null, .null, .null, .null, .null, .null, .null, .null] [.int (S_told n ρ 2)] h' k ((((((cs + 1) + 613) + 1) + 1) + 1) + 1) ((((((ss + 6) + 3678) + 6) + 6) + 6) + 6)
    rw [told2, d2]
    refine AW.if_lt (pc := 497) (tgt := 512) dL_law_497 (by decide) (fun _ => ?_) (fun c => absurd (by decide) c)
    exact K512 _ _ (by omega) (by omega)
  · refine AW.if_le (pc := 468) (tgt := 475) dL_law_468 (by decide) (fun c => absurd c (fun e => absurd ((nI_leI (b := 0) (by omega) (by decide)).mp e) (by omega))) (fun _ => ?_)
    refine AW.iconst (v := 1) (pc := 471) dL_law_471 (by decide) ?_
    refine AW.goto (pc := 472) (tgt := 476) dL_law_472 (by decide) ?_
    refine AW.aload_n (pc := 476) dL_law_476 rfl rfl ?_
    refine AW.iconst (v := 2) (pc := 477) dL_law_477 (by decide) ?_
    refine AW.callRd (pc := 478) (S' := [.int (1 : Int32)]) dL_law_478 (l_told (d := 2027) hM1 (by decide) (by decide)) hM1.1 (by omega) (by simp [aw_ok]) ok_X4_told tw_294 tw_295 tw_293 rfl rfl (by omega) rfl (Nat.le_of_ble_eq_true rfl) (by omega) (by omega) ?_
    show AW _ _ _ _ _ _ _ 481 [.ref 0, .int (nI t), .ref 1, .ref 2, .null, .int sp, .int (ρ 3), .int (nI w0), .int c8, .int (nI v), .long (S_dig g n (AR g n (g 53)) ρ 1), .null, .int (nI now), .null, .null, .null, .null, .null, .null, .null, .null, .null] [.int (S_told n ρ 2), .int (1 : Int32)] h' k (((((cs + 1) + 613) + 1) + 1) + 1) (((((ss + 6) + 3678) + 6) + 6) + 6)
    rw [told2, d2]
    refine AW.if_lt (pc := 481) (tgt := 488) dL_law_481 (by decide) (fun c => absurd c (nI_pos (by omega))) (fun _ => ?_)
    refine AW.iconst (v := 1) (pc := 484) dL_law_484 (by decide) ?_
    refine AW.goto (pc := 485) (tgt := 489) dL_law_485 (by decide) ?_
    refine AW.icmp_ne (pc := 489) (tgt := 510) dL_law_489 (by decide) (fun c => absurd (rfl) c) (fun _ => ?_)
    refine AW.aload_n (pc := 492) dL_law_492 rfl rfl ?_
    refine AW.iconst (v := 2) (pc := 493) dL_law_493 (by decide) ?_
    refine AW.callRd (pc := 494) (S' := []) dL_law_494 (l_told (d := 2027) hM1 (by decide) (by decide)) hM1.1 (by omega) (by simp [aw_ok]) ok_X4_told tw_294 tw_295 tw_293 rfl rfl (by omega) rfl (Nat.le_of_ble_eq_true rfl) (by omega) (by omega) ?_
    show AW _ _ _ _ _ _ _ 497 [.ref 0, .int (nI t), .ref 1, .ref 2, .null, .int sp, .int (ρ 3), .int (nI w0), .int c8, .int (nI v), .long (S_dig g n (AR g n (g 53)) ρ 1), .null, .int (nI now), .null, .null, .null, .null, .null, .null, .null, .null, .null] [.int (S_told n ρ 2)] h' k ((((((cs + 1) + 613) + 1) + 1) + 1) + 1) ((((((ss + 6) + 3678) + 6) + 6) + 6) + 6)
    rw [told2, d2]
    refine AW.if_lt (pc := 497) (tgt := 512) dL_law_497 (by decide) (fun c => absurd c (nI_pos (by omega))) (fun _ => ?_)
    refine AW.aload_n (pc := 500) dL_law_500 rfl rfl ?_
    refine AW.iconst (v := 2) (pc := 501) dL_law_501 (by decide) ?_
    refine AW.callRd (pc := 502) (S' := []) dL_law_502 (l_told (d := 2027) hM1 (by decide) (by decide)) hM1.1 (by omega) (by simp [aw_ok]) ok_X4_told tw_294 tw_295 tw_293 rfl rfl (by omega) rfl (Nat.le_of_ble_eq_true rfl) (by omega) (by omega) ?_
    show AW _ _ _ _ _ _ _ 505 [.ref 0, .int (nI t), .ref 1, .ref 2, .null, .int sp, .int (ρ 3), .int (nI w0), .int c8, .int (nI v), .long (S_dig g n (AR g n (g 53)) ρ 1), .null, .int (nI now), .null, .null, .null, .null, .null, .null, .null, .null, .null] [.int (S_told n ρ 2)] h' k (((((((cs + 1) + 613) + 1) + 1) + 1) + 1) + 1) (((((((ss + 6) + 3678) + 6) + 6) + 6) + 6) + 6)
    rw [told2, d2]
    refine AW.iload (pc := 505) dL_law_505 rfl ?_
    refine AW.icmp_ge (pc := 507) (tgt := 512) dL_law_507 (by decide) (fun _ => ?_) (fun c => absurd (nI_le d4 (by omega)) c)
    exact K512 _ _ (by omega) (by omega)
end LAW
