/-! the law's walk: passing, settling -/
theorem l_pass2 {T : Nat → Nat → Int32} {g m : Mem} {n q d p U : Nat} {h : Hp} {ρ : Rw} (e : ρ 0 + nI p = nI U) (hM : LM T g n h q ρ m) (hd : 7 ≤ d) (hp : p ≤ 100) : AM mX4_pass d [.ref 1, .int (nI p)] (layC m) 47 2 12 (CE (RN (S_pass g n (nI U) ρ 3 - ρ 3) m (upd (S_pass g n (nI U) ρ) 0 (nI U)))) := by
  have h := l_pass hM hd hp
  rw [e] at h
  exact h
theorem pass_none {g : Mem} {n : Nat} {u : Int32} {ρ : Rw} (h : ∀ l, l < n → ρ (102 + l) = -1) : S_pass g n u ρ = ρ := by
  show S_passL g n u (299 + 1) ρ = ρ
  unfold S_passL
  rw [if_pos (Or.inl (next_no h))]
section LAW
variable {Ls : Nat} {xs : Nat → Int32} {T : Nat → Nat → Int32} {g m : Mem} {n k t q cs ss : Nat} {h : Hp} {ρ : Rw}
set_option maxRecDepth 100000 in
set_option maxHeartbeats 4000000 in
theorem law_pass {sp now B : Nat} {c7 c8 c9 : Int32} {dg : Int64} (hsp : sp < 2 ^ 20) (hL : Ls ≤ 260) (hG : GD g n) (hk : 79 + n ≤ k) (hM : LM T g n h q ρ m) (hq : q < 2 ^ 19) (hS : SI g n now B ρ) (hgs : GCo g n ρ) (hb : now + 7000 < 2 ^ 31) (hcs : cs + 10 ≤ 600074) (hss : ss + 60 ≤ 7301550) (Kbrk : ∀ (h2 : Hp) (cs2 ss2 : Nat), cs2 ≤ cs + 10 → ss2 ≤ ss + 60 → AW (aw_ZL Ls xs) mlaw 2028 1 600074 7301550 aw_QL 1159 [.ref 0, .int (nI t), .null, .null, .null, .null, .null, .null, .null, .null, .null, .null, .null, .null, .null, .null, .null, .null, .null, .null, .null, .null] [] h2 k cs2 ss2) (Kodd : ∀ (b0 : Nat) (c14 : Int32) (ρ2 : Rw) (h2 : Hp) (m2 : Mem) (cs2 ss2 : Nat), b0 < 6 → LM T g n h2 (q + 1) ρ2 m2 → SI g n (now + b0) (B + 300) ρ2 → GCo g n ρ2 → ρ 3 + c14 = ρ2 3 → cs2 ≤ cs + 10 → ss2 ≤ ss + 60 → AW (aw_ZL Ls xs) mlaw 2028 1 600074 7301550 aw_QL 692 [.ref 0, .int (nI t), .ref 1, .ref 2, .null, .int (nI sp), .int (ρ 3), .int c7, .int c8, .int c9, .long dg, .null, .int (nI now), .int (nI b0), .int c14, .null, .null, .null, .null, .null, .null, .null] [] h2 k cs2 ss2) (Kevn : ∀ (b0 : Nat) (ρ2 : Rw) (h2 : Hp) (m2 : Mem) (cs2 ss2 : Nat), b0 < 6 → LM T g n h2 (q + 1) ρ2 m2 → SI g n (now + b0) (B + 300) ρ2 → GCo g n ρ2 → cs2 ≤ cs + 10 → ss2 ≤ ss + 60 → AW (aw_ZL Ls xs) mlaw 2028 1 600074 7301550 aw_QL 1153 [.ref 0, .int (nI t), .ref 1, .ref 2, .null, .int (nI sp), .null, .null, .null, .null, .null, .null, .null, .null, .null, .null, .null, .null, .null, .null, .null, .null] [] h2 k cs2 ss2) : AW (aw_ZL Ls xs) mlaw 2028 1 600074 7301550 aw_QL 606 [.ref 0, .int (nI t), .ref 1, .ref 2, .null, .int (nI sp), .int (ρ 3), .int c7, .int c8, .int c9, .long dg, .null, .int (nI now), .null, .null, .null, .null, .null, .null, .null, .null, .null] [] h k cs ss := by
  have hk0 : 0 < 1 := by decide
  have hM0 := hM
  obtain ⟨x, pe, hz, e2, hB⟩ := hM.2.2.2.2
  refine AW.aload_n (pc := 606) dL_law_606 rfl rfl ?_
  refine AW.bipush (v := 6) (pc := 607) dL_law_607 (by decide) ?_
  refine AW.callVz (pc := 609) (S' := []) dL_law_609 (c_B_draw (d := 2027) (N := 6) (q := q) (by decide) (by omega) hL hB e2 (by omega) (by decide) (by decide)) hk0 ok_X5_draw tw_695 tw_696 tw_694 (by decide) (hB.1) (show aw_cl[5]? = some _ from rfl) rfl rfl (by omega) rfl (Nat.le_of_ble_eq_true rfl) (by omega) (by omega) ?_ (fun E h' k' hq => by obtain ⟨_, _, hx9, -⟩ := hq; try cases hx9)
  intro v h' k' hq
  obtain ⟨b0, hb0, hx9, rfl, rfl⟩ := hq
  cases hx9
  show AW _ _ _ _ _ _ _ 612 [.ref 0, .int (nI t), .ref 1, .ref 2, .null, .int (nI sp), .int (ρ 3), .int c7, .int c8, .int c9, .long dg, .null, .int (nI now), .null, .null, .null, .null, .null, .null, .null, .null, .null] [.int (nI b0)] (va_up h 1 (.inr (5, bf (upd x 2 (nI (q + 1))) 49 pe hz))) k cs ss
  have hM1 := hM0.draw hB (q := q)
  generalize (va_up h 1 (.inr (5, bf (upd x 2 (nI (q + 1))) 49 pe hz))) = h1 at hM1 ⊢
  show AW _ _ _ _ _ _ _ 612 [.ref 0, .int (nI t), .ref 1, .ref 2, .null, .int (nI sp), .int (ρ 3), .int c7, .int c8, .int c9, .long dg, .null, .int (nI now), .null, .null, .null, .null, .null, .null, .null, .null, .null] [.int (nI b0)] h1 k cs ss
  refine AW.istore (L' := [.ref 0, .int (nI t), .ref 1, .ref 2, .null, .int (nI sp), .int (ρ 3), .int c7, .int c8, .int c9, .long dg, .null, .int (nI now), .int (nI b0), .null, .null, .null, .null, .null, .null, .null, .null]) (pc := 612) dL_law_612 (by decide) rfl rfl ?_
  refine AW.aload_n (pc := 614) dL_law_614 rfl rfl ?_
  refine AW.iload (pc := 615) dL_law_615 rfl ?_
  have eU : ρ 0 + nI b0 = nI (now + b0) := by rw [hS.1.1, nI_add]
  obtain ⟨-, p2⟩ := pass_ok (U := now + b0) hG hb (by omega) hS hgs
  refine AW.callRn (pc := 617) (S' := []) dL_law_617 (l_pass2 (d := 2027) eU hM1 (by decide) (by omega)) hM1.1 (by omega) (by simp [aw_ok]) ok_X4_pass tw_254 tw_255 tw_253 rfl rfl (by omega) rfl (Nat.le_of_ble_eq_true rfl) (by omega) (by omega) ?_
  intro m' h' hR' hρ' hC' hF'
  show AW _ _ _ _ _ _ _ 620 [.ref 0, .int (nI t), .ref 1, .ref 2, .null, .int (nI sp), .int (ρ 3), .int c7, .int c8, .int c9, .long dg, .null, .int (nI now), .int (nI b0), .null, .null, .null, .null, .null, .null, .null, .null] [.int (S_pass g n (nI (now + b0)) ρ 3 - ρ 3)] h' k (cs + 2) (ss + 12)
  have hM2 := hM1.rn hk hR' hρ' hC' hF' (hM1.rw_.pass hG.le30 hG.wf).upd0 (by rcases p2 with ⟨s, -⟩ | ⟨e, -⟩; exact ⟨0, by omega, s.1.2⟩; exact ⟨1, by omega, e⟩)
  refine AW.istore (L' := [.ref 0, .int (nI t), .ref 1, .ref 2, .null, .int (nI sp), .int (ρ 3), .int c7, .int c8, .int c9, .long dg, .null, .int (nI now), .int (nI b0), .int (S_pass g n (nI (now + b0)) ρ 3 - ρ 3), .null, .null, .null, .null, .null, .null, .null]) (pc := 620) dL_law_620 (by decide) rfl rfl ?_
  refine AW.aload_n (pc := 622) dL_law_622 rfl rfl ?_
  refine AW.iconst (v := 0) (pc := 623) dL_law_623 (by decide) ?_
  refine AW.callRd (pc := 624) (S' := []) dL_law_624 (l_told (d := 2027) hM2 (by decide) (by decide)) hM2.1 (by omega) (by simp [aw_ok]) ok_X4_told tw_294 tw_295 tw_293 rfl rfl (by omega) rfl (Nat.le_of_ble_eq_true rfl) (by omega) (by omega) ?_
  show AW _ _ _ _ _ _ _ 627 [.ref 0, .int (nI t), .ref 1, .ref 2, .null, .int (nI sp), .int (ρ 3), .int c7, .int c8, .int c9, .long dg, .null, .int (nI now), .int (nI b0), .int (S_pass g n (nI (now + b0)) ρ 3 - ρ 3), .null, .null, .null, .null, .null, .null, .null] [.int (S_told n (upd (S_pass g n (nI (now + b0)) ρ) 0 (nI (now + b0))) 0)] h' k ((cs + 2) + 1) ((ss + 12) + 6)
  rw [told0, upd_same]
  show AW _ _ _ _ _ _ _ 627 [.ref 0, .int (nI t), .ref 1, .ref 2, .null, .int (nI sp), .int (ρ 3), .int c7, .int c8, .int c9, .long dg, .null, .int (nI now), .int (nI b0), .int (S_pass g n (nI (now + b0)) ρ 3 - ρ 3), .null, .null, .null, .null, .null, .null, .null] [.int (nI (now + b0))] h' k ((cs + 2) + 1) ((ss + 12) + 6)
  refine AW.iload (pc := 627) dL_law_627 rfl ?_
  refine AW.iload (pc := 629) dL_law_629 rfl ?_
  refine AW.iadd (pc := 631) dL_law_631 ?_
  rw [nI_add]
  refine AW.icmp_ne (pc := 632) (tgt := 669) dL_law_632 (by decide) (fun c => absurd (rfl) c) (fun _ => ?_)
  refine AW.aload_n (pc := 635) dL_law_635 rfl rfl ?_
  refine AW.iconst (v := 5) (pc := 636) dL_law_636 (by decide) ?_
  refine AW.callRd (pc := 637) (S' := []) dL_law_637 (l_told (d := 2027) hM2 (by decide) (by decide)) hM2.1 (by omega) (by simp [aw_ok]) ok_X4_told tw_294 tw_295 tw_293 rfl rfl (by omega) rfl (Nat.le_of_ble_eq_true rfl) (by omega) (by omega) ?_
  show AW _ _ _ _ _ _ _ 640 [.ref 0, .int (nI t), .ref 1, .ref 2, .null, .int (nI sp), .int (ρ 3), .int c7, .int c8, .int c9, .long dg, .null, .int (nI now), .int (nI b0), .int (S_pass g n (nI (now + b0)) ρ 3 - ρ 3), .null, .null, .null, .null, .null, .null, .null] [.int (S_told n (upd (S_pass g n (nI (now + b0)) ρ) 0 (nI (now + b0))) 5)] h' k (((cs + 2) + 1) + 1) (((ss + 12) + 6) + 6)
  rw [told5, upd_ne (by decide)]
  show AW _ _ _ _ _ _ _ 640 [.ref 0, .int (nI t), .ref 1, .ref 2, .null, .int (nI sp), .int (ρ 3), .int c7, .int c8, .int c9, .long dg, .null, .int (nI now), .int (nI b0), .int (S_pass g n (nI (now + b0)) ρ 3 - ρ 3), .null, .null, .null, .null, .null, .null, .null] [.int (S_pass g n (nI (now + b0)) ρ 3)] h' k (((cs + 2) + 1) + 1) (((ss + 12) + 6) + 6)
  refine AW.iload (pc := 640) dL_law_640 rfl ?_
  refine AW.iload (pc := 642) dL_law_642 rfl ?_
  refine AW.iadd (pc := 644) dL_law_644 ?_
  refine AW.icmp_ne (pc := 645) (tgt := 669) dL_law_645 (by decide) (fun c => absurd ((i_back _ _).symm) c) (fun _ => ?_)
  refine AW.aload_n (pc := 648) dL_law_648 rfl rfl ?_
  refine AW.iconst (v := 2) (pc := 649) dL_law_649 (by decide) ?_
  generalize hc14 : S_pass g n (nI (now + b0)) ρ 3 - ρ 3 = c14 at *
  have h3 : ρ 3 + c14 = (upd (S_pass g n (nI (now + b0)) ρ) 0 (nI (now + b0))) 3 := by rw [← hc14, i_back, upd_ne (by decide)]
  generalize (upd (S_pass g n (nI (now + b0)) ρ) 0 (nI (now + b0))) = ρ2 at *
  rcases p2 with ⟨s1, s2, d2 | ⟨t2, d1, d3, d2⟩⟩ | ⟨r1, d2⟩
  · refine AW.callRd (pc := 650) (S' := []) dL_law_650 (l_told (d := 2027) hM2 (by decide) (by decide)) hM2.1 (by omega) (by simp [aw_ok]) ok_X4_told tw_294 tw_295 tw_293 rfl rfl (by omega) rfl (Nat.le_of_ble_eq_true rfl) (by omega) (by omega) ?_
    show AW _ _ _ _ _ _ _ 653 [.ref 0, .int (nI t), .ref 1, .ref 2, .null, .int (nI sp), .int (ρ 3), .int c7, .int c8, .int c9, .long dg, .null, .int (nI now), .int (nI b0), .int c14, .null, .null, .null, .null, .null, .null, .null] [.int (S_told n ρ2 2)] h' k ((((cs + 2) + 1) + 1) + 1) ((((ss + 12) + 6) + 6) + 6)
    rw [told2, d2]
    refine AW.if_lt (pc := 653) (tgt := 671) dL_law_653 (by decide) (fun _ => ?_) (fun c => absurd (by decide) c)
    refine AW.aload_n (pc := 671) dL_law_671 rfl rfl ?_
    refine AW.iconst (v := 4) (pc := 672) dL_law_672 (by decide) ?_
    refine AW.callRd (pc := 673) (S' := []) dL_law_673 (l_told (d := 2027) hM2 (by decide) (by decide)) hM2.1 (by omega) (by simp [aw_ok]) ok_X4_told tw_294 tw_295 tw_293 rfl rfl (by omega) rfl (Nat.le_of_ble_eq_true rfl) (by omega) (by omega) ?_
    show AW _ _ _ _ _ _ _ 676 [.ref 0, .int (nI t), .ref 1, .ref 2, .null, .int (nI sp), .int (ρ 3), .int c7, .int c8, .int c9, .long dg, .null, .int (nI now), .int (nI b0), .int c14, .null, .null, .null, .null, .null, .null, .null] [.int (S_told n ρ2 4)] h' k (((((cs + 2) + 1) + 1) + 1) + 1) (((((ss + 12) + 6) + 6) + 6) + 6)
    rw [told4, s1.1.2]
    refine AW.if_le (pc := 676) (tgt := 682) dL_law_676 (by decide) (fun _ => ?_) (fun c => absurd (by decide) c)
    refine AW.iload (pc := 682) dL_law_682 rfl ?_
    refine AW.iconst (v := 2) (pc := 684) dL_law_684 (by decide) ?_
    refine AW.irem (pc := 685) dL_law_685 (by decide) ?_
    rw [show nI sp - nI sp / (2 : Int32) * (2 : Int32) = nI (sp % 2) from pk_rem (d := 2) (by omega) (by decide) (by decide)]
    show AW _ _ _ _ _ _ _ 686 [.ref 0, .int (nI t), .ref 1, .ref 2, .null, .int (nI sp), .int (ρ 3), .int c7, .int c8, .int c9, .long dg, .null, .int (nI now), .int (nI b0), .int c14, .null, .null, .null, .null, .null, .null, .null] [.int (nI (sp % 2))] h' k (((((cs + 2) + 1) + 1) + 1) + 1) (((((ss + 12) + 6) + 6) + 6) + 6)
    refine AW.if_ne (pc := 686) (tgt := 692) dL_law_686 (by decide) (fun c => ?_) (fun c => ?_)
    · exact Kodd b0 c14 ρ2 _ _ _ _ hb0 hM2 s1 s2 h3 (by omega) (by omega)
    · refine AW.goto (pc := 689) (tgt := 1153) dL_law_689 (by decide) ?_
      refine AW.locals (L' := [.ref 0, .int (nI t), .ref 1, .ref 2, .null, .int (nI sp), .null, .null, .null, .null, .null, .null, .null, .null, .null, .null, .null, .null, .null, .null, .null, .null]) (aw_fewer_same (aw_fewer_same (aw_fewer_same (aw_fewer_same (aw_fewer_null (aw_fewer_same (aw_fewer_null (aw_fewer_null (aw_fewer_null (aw_fewer_null (aw_fewer_null (aw_fewer_null (aw_fewer_null (aw_fewer_null (aw_fewer_null (aw_fewer_null (aw_fewer_null (aw_fewer_null (aw_fewer_null (aw_fewer_null (aw_fewer_null (aw_fewer_null aw_fewer_nil)))))))))))))))))))))) ?_
      exact Kevn _ ρ2 _ _ _ _ hb0 hM2 s1 s2 (by omega) (by omega)
  · refine AW.callRd (pc := 650) (S' := []) dL_law_650 (l_told (d := 2027) hM2 (by decide) (by decide)) hM2.1 (by omega) (by simp [aw_ok]) ok_X4_told tw_294 tw_295 tw_293 rfl rfl (by omega) rfl (Nat.le_of_ble_eq_true rfl) (by omega) (by omega) ?_
    show AW _ _ _ _ _ _ _ 653 [.ref 0, .int (nI t), .ref 1, .ref 2, .null, .int (nI sp), .int (ρ 3), .int c7, .int c8, .int c9, .long dg, .null, .int (nI now), .int (nI b0), .int c14, .null, .null, .null, .null, .null, .null, .null] [.int (S_told n ρ2 2)] h' k ((((cs + 2) + 1) + 1) + 1) ((((ss + 12) + 6) + 6) + 6)
    rw [told2, d2]
    refine AW.if_lt (pc := 653) (tgt := 671) dL_law_653 (by decide) (fun c => absurd c (nI_pos (by omega))) (fun _ => ?_)
    refine AW.aload_n (pc := 656) dL_law_656 rfl rfl ?_
    refine AW.iconst (v := 2) (pc := 657) dL_law_657 (by decide) ?_
    refine AW.callRd (pc := 658) (S' := []) dL_law_658 (l_told (d := 2027) hM2 (by decide) (by decide)) hM2.1 (by omega) (by simp [aw_ok]) ok_X4_told tw_294 tw_295 tw_293 rfl rfl (by omega) rfl (Nat.le_of_ble_eq_true rfl) (by omega) (by omega) ?_
    show AW _ _ _ _ _ _ _ 661 [.ref 0, .int (nI t), .ref 1, .ref 2, .null, .int (nI sp), .int (ρ 3), .int c7, .int c8, .int c9, .long dg, .null, .int (nI now), .int (nI b0), .int c14, .null, .null, .null, .null, .null, .null, .null] [.int (S_told n ρ2 2)] h' k (((((cs + 2) + 1) + 1) + 1) + 1) (((((ss + 12) + 6) + 6) + 6) + 6)
    rw [told2, d2]
    refine AW.iload (pc := 661) dL_law_661 rfl ?_
    refine AW.iload (pc := 663) dL_law_663 rfl ?_
    refine AW.iadd (pc := 665) dL_law_665 ?_
    rw [nI_add]
    refine AW.icmp_gt (pc := 666) (tgt := 671) dL_law_666 (by decide) (fun _ => ?_) (fun c => absurd ((nI_ltI (by omega) (by omega)).mpr d1) c)
    refine AW.aload_n (pc := 671) dL_law_671 rfl rfl ?_
    refine AW.iconst (v := 4) (pc := 672) dL_law_672 (by decide) ?_
    refine AW.callRd (pc := 673) (S' := []) dL_law_673 (l_told (d := 2027) hM2 (by decide) (by decide)) hM2.1 (by omega) (by simp [aw_ok]) ok_X4_told tw_294 tw_295 tw_293 rfl rfl (by omega) rfl (Nat.le_of_ble_eq_true rfl) (by omega) (by omega) ?_
    show AW _ _ _ _ _ _ _ 676 [.ref 0, .int (nI t), .ref 1, .ref 2, .null, .int (nI sp), .int (ρ 3), .int c7, .int c8, .int c9, .long dg, .null, .int (nI now), .int (nI b0), .int c14, .null, .null, .null, .null, .null, .null, .null] [.int (S_told n ρ2 4)] h' k ((((((cs + 2) + 1) + 1) + 1) + 1) + 1) ((((((ss + 12) + 6) + 6) + 6) + 6) + 6)
    rw [told4, s1.1.2]
    refine AW.if_le (pc := 676) (tgt := 682) dL_law_676 (by decide) (fun _ => ?_) (fun c => absurd (by decide) c)
    refine AW.iload (pc := 682) dL_law_682 rfl ?_
    refine AW.iconst (v := 2) (pc := 684) dL_law_684 (by decide) ?_
    refine AW.irem (pc := 685) dL_law_685 (by decide) ?_
    rw [show nI sp - nI sp / (2 : Int32) * (2 : Int32) = nI (sp % 2) from pk_rem (d := 2) (by omega) (by decide) (by decide)]
    show AW _ _ _ _ _ _ _ 686 [.ref 0, .int (nI t), .ref 1, .ref 2, .null, .int (nI sp), .int (ρ 3), .int c7, .int c8, .int c9, .long dg, .null, .int (nI now), .int (nI b0), .int c14, .null, .null, .null, .null, .null, .null, .null] [.int (nI (sp % 2))] h' k ((((((cs + 2) + 1) + 1) + 1) + 1) + 1) ((((((ss + 12) + 6) + 6) + 6) + 6) + 6)
    refine AW.if_ne (pc := 686) (tgt := 692) dL_law_686 (by decide) (fun c => ?_) (fun c => ?_)
    · exact Kodd b0 c14 ρ2 _ _ _ _ hb0 hM2 s1 s2 h3 (by omega) (by omega)
    · refine AW.goto (pc := 689) (tgt := 1153) dL_law_689 (by decide) ?_
      refine AW.locals (L' := [.ref 0, .int (nI t), .ref 1, .ref 2, .null, .int (nI sp), .null, .null, .null, .null, .null, .null, .null, .null, .null, .null, .null, .null, .null, .null, .null, .null]) (aw_fewer_same (aw_fewer_same (aw_fewer_same (aw_fewer_same (aw_fewer_null (aw_fewer_same (aw_fewer_null (aw_fewer_null (aw_fewer_null (aw_fewer_null (aw_fewer_null (aw_fewer_null (aw_fewer_null (aw_fewer_null (aw_fewer_null (aw_fewer_null (aw_fewer_null (aw_fewer_null (aw_fewer_null (aw_fewer_null (aw_fewer_null (aw_fewer_null aw_fewer_nil)))))))))))))))))))))) ?_
      exact Kevn _ ρ2 _ _ _ _ hb0 hM2 s1 s2 (by omega) (by omega)
  · refine AW.callRd (pc := 650) (S' := []) dL_law_650 (l_told (d := 2027) hM2 (by decide) (by decide)) hM2.1 (by omega) (by simp [aw_ok]) ok_X4_told tw_294 tw_295 tw_293 rfl rfl (by omega) rfl (Nat.le_of_ble_eq_true rfl) (by omega) (by omega) ?_
    show AW _ _ _ _ _ _ _ 653 [.ref 0, .int (nI t), .ref 1, .ref 2, .null, .int (nI sp), .int (ρ 3), .int c7, .int c8, .int c9, .long dg, .null, .int (nI now), .int (nI b0), .int c14, .null, .null, .null, .null, .null, .null, .null] [.int (S_told n ρ2 2)] h' k ((((cs + 2) + 1) + 1) + 1) ((((ss + 12) + 6) + 6) + 6)
    rw [told2, d2]
    refine AW.if_lt (pc := 653) (tgt := 671) dL_law_653 (by decide) (fun _ => ?_) (fun c => absurd (by decide) c)
    refine AW.aload_n (pc := 671) dL_law_671 rfl rfl ?_
    refine AW.iconst (v := 4) (pc := 672) dL_law_672 (by decide) ?_
    refine AW.callRd (pc := 673) (S' := []) dL_law_673 (l_told (d := 2027) hM2 (by decide) (by decide)) hM2.1 (by omega) (by simp [aw_ok]) ok_X4_told tw_294 tw_295 tw_293 rfl rfl (by omega) rfl (Nat.le_of_ble_eq_true rfl) (by omega) (by omega) ?_
    show AW _ _ _ _ _ _ _ 676 [.ref 0, .int (nI t), .ref 1, .ref 2, .null, .int (nI sp), .int (ρ 3), .int c7, .int c8, .int c9, .long dg, .null, .int (nI now), .int (nI b0), .int c14, .null, .null, .null, .null, .null, .null, .null] [.int (S_told n ρ2 4)] h' k (((((cs + 2) + 1) + 1) + 1) + 1) (((((ss + 12) + 6) + 6) + 6) + 6)
    rw [told4, r1]
    refine AW.if_le (pc := 676) (tgt := 682) dL_law_676 (by decide) (fun c => absurd c (by decide)) (fun _ => ?_)
    refine AW.goto (pc := 679) (tgt := 1159) dL_law_679 (by decide) ?_
    refine AW.locals (L' := [.ref 0, .int (nI t), .null, .null, .null, .null, .null, .null, .null, .null, .null, .null, .null, .null, .null, .null, .null, .null, .null, .null, .null, .null]) (aw_fewer_same (aw_fewer_same (aw_fewer_null (aw_fewer_null (aw_fewer_null (aw_fewer_null (aw_fewer_null (aw_fewer_null (aw_fewer_null (aw_fewer_null (aw_fewer_null (aw_fewer_null (aw_fewer_null (aw_fewer_null (aw_fewer_null (aw_fewer_null (aw_fewer_null (aw_fewer_null (aw_fewer_null (aw_fewer_null (aw_fewer_null (aw_fewer_null aw_fewer_nil)))))))))))))))))))))) ?_
    exact Kbrk _ _ _ (by omega) (by omega)
set_option maxRecDepth 100000 in
set_option maxHeartbeats 4000000 in
theorem law_settle {sp a0 b0 B : Nat} {c6 c7 c8 c9 c14 : Int32} {dg : Int64} (hG : GD g n) (hk : 79 + n ≤ k) (hM : LM T g n h q ρ m) (hS : SI g n (a0 + b0) B ρ) (hgs : GCo g n ρ) (h6 : c6 + c14 = ρ 3) (hb : a0 + b0 + 20000 < 2 ^ 31) (hcs : cs + 20 ≤ 600074) (hss : ss + 120 ≤ 7301550) (Kbrk : ∀ (h2 : Hp) (cs2 ss2 : Nat), cs2 ≤ cs + 20 → ss2 ≤ ss + 120 → AW (aw_ZL Ls xs) mlaw 2028 1 600074 7301550 aw_QL 1159 [.ref 0, .int (nI t), .null, .null, .null, .null, .null, .null, .null, .null, .null, .null, .null, .null, .null, .null, .null, .null, .null, .null, .null, .null] [] h2 k cs2 ss2) (Kon : ∀ (t4 : Nat) (ρ2 : Rw) (h2 : Hp) (m2 : Mem) (cs2 ss2 : Nat), t4 ≤ a0 + b0 + 12000 → LM T g n h2 q ρ2 m2 → SI g n t4 0 ρ2 → GCo g n ρ2 → (∀ l, l < n → ρ2 (102 + l) = -1) → cs2 ≤ cs + 20 → ss2 ≤ ss + 120 → AW (aw_ZL Ls xs) mlaw 2028 1 600074 7301550 aw_QL 804 [.ref 0, .int (nI t), .ref 1, .ref 2, .null, .int (nI sp), .null, .null, .null, .null, .null, .null, .null, .null, .null, .null, .null, .null, .null, .null, .null, .null] [] h2 k cs2 ss2) : AW (aw_ZL Ls xs) mlaw 2028 1 600074 7301550 aw_QL 692 [.ref 0, .int (nI t), .ref 1, .ref 2, .null, .int (nI sp), .int c6, .int c7, .int c8, .int c9, .long dg, .null, .int (nI a0), .int (nI b0), .int c14, .null, .null, .null, .null, .null, .null, .null] [] h k cs ss := by
  refine AW.aload_n (pc := 692) dL_law_692 rfl rfl ?_
  refine AW.callTr (pc := 693) (S' := []) dL_law_693 (l_settlesIn (d := 2027) hM (by decide)) hM.1 (by omega) (by simp [aw_ok]) ok_X4_settlesIn tw_339 tw_340 tw_338 rfl rfl (by omega) rfl (Nat.le_of_ble_eq_true rfl) (by omega) (by omega) ?_
  intro m' h' hS' hC' hF'
  show AW _ _ _ _ _ _ _ 696 [.ref 0, .int (nI t), .ref 1, .ref 2, .null, .int (nI sp), .int c6, .int c7, .int c8, .int c9, .long dg, .null, .int (nI a0), .int (nI b0), .int c14, .null, .null, .null, .null, .null, .null, .null] [.int (S_inn g n ρ)] h' k (cs + 1) (ss + 6)
  have hM1 := hM.tr hk hS' hC' hF'
  refine AW.istore (L' := [.ref 0, .int (nI t), .ref 1, .ref 2, .null, .int (nI sp), .int c6, .int c7, .int c8, .int c9, .long dg, .null, .int (nI a0), .int (nI b0), .int c14, .int (S_inn g n ρ), .null, .null, .null, .null, .null, .null]) (pc := 696) dL_law_696 (by decide) rfl rfl ?_
  refine AW.aload_n (pc := 698) dL_law_698 rfl rfl ?_
  obtain ⟨-, p2⟩ := settle_ok hG (by omega) hS hgs
  refine AW.callRn (pc := 699) (S' := []) dL_law_699 (l_settle (d := 2027) hM1 (by decide)) hM1.1 (by omega) (by simp [aw_ok]) ok_X4_settle tw_278 tw_279 tw_277 rfl rfl (by omega) rfl (Nat.le_of_ble_eq_true rfl) (by omega) (by omega) ?_
  intro m2 h2 hR2 hρ2 hC2 hF2
  show AW _ _ _ _ _ _ _ 702 [.ref 0, .int (nI t), .ref 1, .ref 2, .null, .int (nI sp), .int c6, .int c7, .int c8, .int c9, .long dg, .null, .int (nI a0), .int (nI b0), .int c14, .int (S_inn g n ρ), .null, .null, .null, .null, .null, .null] [.int (S_pass g n 2147483647 ρ 3 - ρ 3)] h2 k ((cs + 1) + 1) ((ss + 6) + 6)
  have hM2 := hM1.rn hk hR2 hρ2 hC2 hF2 (hM1.rw_.settle hG.le30 hG.wf) (by rcases p2 with ⟨t, -, -, -, -, s, -⟩ | ⟨-, e⟩; exact ⟨0, by omega, s.1.2⟩; exact ⟨1, by omega, e⟩)
  refine AW.istore (L' := [.ref 0, .int (nI t), .ref 1, .ref 2, .null, .int (nI sp), .int c6, .int c7, .int c8, .int c9, .long dg, .null, .int (nI a0), .int (nI b0), .int c14, .int (S_inn g n ρ), .int (S_pass g n 2147483647 ρ 3 - ρ 3), .null, .null, .null, .null, .null]) (pc := 702) dL_law_702 (by decide) rfl rfl ?_
  have e3 : S_settle g n ρ 3 = S_pass g n 2147483647 ρ 3 := settle_lo (by omega) (by omega)
  generalize S_pass g n 2147483647 ρ 3 = P3 at *
  have hin : S_inn g n ρ = if S_pass g n 2147483647 ρ 2 = ρ 2 then S_pass g n 2147483647 ρ 0 - ρ 0 else -1 := rfl
  generalize S_inn g n ρ = inn at *
  generalize S_settle g n ρ = ρ2 at *
  rcases p2 with ⟨t2, t1, t3, g2, g0, s1, s2, s3⟩ | ⟨r1, r2⟩
  · rw [if_pos (by rw [g2, hS.1.2]), g0, hS.1.1, nI_sub t1 (by omega)] at hin
    subst hin
    show AW _ _ _ _ _ _ _ 704 [.ref 0, .int (nI t), .ref 1, .ref 2, .null, .int (nI sp), .int c6, .int c7, .int c8, .int c9, .long dg, .null, .int (nI a0), .int (nI b0), .int c14, .int (nI (t2 - (a0 + b0))), .int (P3 - ρ 3), .null, .null, .null, .null, .null] [] h2 k ((cs + 1) + 1) ((ss + 6) + 6)
    refine AW.iload (pc := 704) dL_law_704 rfl ?_
    refine AW.if_ge (pc := 706) (tgt := 713) dL_law_706 (by decide) (fun _ => ?_) (fun c => absurd (nI_le (a := 0) (by omega) (by omega)) c)
    refine AW.iconst (v := 0) (pc := 713) dL_law_713 (by decide) ?_
    refine AW.aload_n (pc := 714) dL_law_714 rfl rfl ?_
    refine AW.iconst (v := 4) (pc := 715) dL_law_715 (by decide) ?_
    refine AW.callRd (pc := 716) (S' := [.int (0 : Int32)]) dL_law_716 (l_told (d := 2027) hM2 (by decide) (by decide)) hM2.1 (by omega) (by simp [aw_ok]) ok_X4_told tw_294 tw_295 tw_293 rfl rfl (by omega) rfl (Nat.le_of_ble_eq_true rfl) (by omega) (by omega) ?_
    show AW _ _ _ _ _ _ _ 719 [.ref 0, .int (nI t), .ref 1, .ref 2, .null, .int (nI sp), .int c6, .int c7, .int c8, .int c9, .long dg, .null, .int (nI a0), .int (nI b0), .int c14, .int (nI (t2 - (a0 + b0))), .int (P3 - ρ 3), .null, .null, .null, .null, .null] [.int (S_told n ρ2 4), .int (0 : Int32)] h2 k (((cs + 1) + 1) + 1) (((ss + 6) + 6) + 6)
    rw [told4, s1.1.2]
    show AW _ _ _ _ _ _ _ 719 [.ref 0, .int (nI t), .ref 1, .ref 2, .null, .int (nI sp), .int c6, .int c7, .int c8, .int c9, .long dg, .null, .int (nI a0), .int (nI b0), .int c14, .int (nI (t2 - (a0 + b0))), .int (P3 - ρ 3), .null, .null, .null, .null, .null] [.int 0, .int (0 : Int32)] h2 k (((cs + 1) + 1) + 1) (((ss + 6) + 6) + 6)
    refine AW.if_le (pc := 719) (tgt := 726) dL_law_719 (by decide) (fun _ => ?_) (fun c => absurd (by decide) c)
    refine AW.iconst (v := 0) (pc := 726) dL_law_726 (by decide) ?_
    refine AW.icmp_eq (pc := 727) (tgt := 732) dL_law_727 (by decide) (fun _ => ?_) (fun c => absurd (rfl) c)
    refine AW.iload (pc := 732) dL_law_732 rfl ?_
    refine AW.if_ge (pc := 734) (tgt := 740) dL_law_734 (by decide) (fun _ => ?_) (fun c => absurd (nI_le (a := 0) (by omega) (by omega)) c)
    refine AW.aload_n (pc := 740) dL_law_740 rfl rfl ?_
    refine AW.iconst (v := 0) (pc := 741) dL_law_741 (by decide) ?_
    refine AW.callRd (pc := 742) (S' := []) dL_law_742 (l_told (d := 2027) hM2 (by decide) (by decide)) hM2.1 (by omega) (by simp [aw_ok]) ok_X4_told tw_294 tw_295 tw_293 rfl rfl (by omega) rfl (Nat.le_of_ble_eq_true rfl) (by omega) (by omega) ?_
    show AW _ _ _ _ _ _ _ 745 [.ref 0, .int (nI t), .ref 1, .ref 2, .null, .int (nI sp), .int c6, .int c7, .int c8, .int c9, .long dg, .null, .int (nI a0), .int (nI b0), .int c14, .int (nI (t2 - (a0 + b0))), .int (P3 - ρ 3), .null, .null, .null, .null, .null] [.int (S_told n ρ2 0)] h2 k ((((cs + 1) + 1) + 1) + 1) ((((ss + 6) + 6) + 6) + 6)
    rw [told0, s1.1.1]
    show AW _ _ _ _ _ _ _ 745 [.ref 0, .int (nI t), .ref 1, .ref 2, .null, .int (nI sp), .int c6, .int c7, .int c8, .int c9, .long dg, .null, .int (nI a0), .int (nI b0), .int c14, .int (nI (t2 - (a0 + b0))), .int (P3 - ρ 3), .null, .null, .null, .null, .null] [.int (nI t2)] h2 k ((((cs + 1) + 1) + 1) + 1) ((((ss + 6) + 6) + 6) + 6)
    refine AW.iload (pc := 745) dL_law_745 rfl ?_
    refine AW.iload (pc := 747) dL_law_747 rfl ?_
    refine AW.iadd (pc := 749) dL_law_749 ?_
    rw [nI_add]
    refine AW.iload (pc := 750) dL_law_750 rfl ?_
    refine AW.iadd (pc := 752) dL_law_752 ?_
    rw [nI_add]
    refine AW.icmp_ne (pc := 753) (tgt := 802) dL_law_753 (by decide) (fun c => absurd (congrArg nI (by omega)) c) (fun _ => ?_)
    refine AW.aload_n (pc := 756) dL_law_756 rfl rfl ?_
    refine AW.iconst (v := 5) (pc := 757) dL_law_757 (by decide) ?_
    refine AW.callRd (pc := 758) (S' := []) dL_law_758 (l_told (d := 2027) hM2 (by decide) (by decide)) hM2.1 (by omega) (by simp [aw_ok]) ok_X4_told tw_294 tw_295 tw_293 rfl rfl (by omega) rfl (Nat.le_of_ble_eq_true rfl) (by omega) (by omega) ?_
    show AW _ _ _ _ _ _ _ 761 [.ref 0, .int (nI t), .ref 1, .ref 2, .null, .int (nI sp), .int c6, .int c7, .int c8, .int c9, .long dg, .null, .int (nI a0), .int (nI b0), .int c14, .int (nI (t2 - (a0 + b0))), .int (P3 - ρ 3), .null, .null, .null, .null, .null] [.int (S_told n ρ2 5)] h2 k (((((cs + 1) + 1) + 1) + 1) + 1) (((((ss + 6) + 6) + 6) + 6) + 6)
    rw [told5]
    show AW _ _ _ _ _ _ _ 761 [.ref 0, .int (nI t), .ref 1, .ref 2, .null, .int (nI sp), .int c6, .int c7, .int c8, .int c9, .long dg, .null, .int (nI a0), .int (nI b0), .int c14, .int (nI (t2 - (a0 + b0))), .int (P3 - ρ 3), .null, .null, .null, .null, .null] [.int (ρ2 3)] h2 k (((((cs + 1) + 1) + 1) + 1) + 1) (((((ss + 6) + 6) + 6) + 6) + 6)
    refine AW.iload (pc := 761) dL_law_761 rfl ?_
    refine AW.iload (pc := 763) dL_law_763 rfl ?_
    refine AW.iadd (pc := 765) dL_law_765 ?_
    refine AW.iload (pc := 766) dL_law_766 rfl ?_
    refine AW.iadd (pc := 768) dL_law_768 ?_
    refine AW.icmp_ne (pc := 769) (tgt := 802) dL_law_769 (by decide) (fun c => absurd (by rw [h6, i_back]; exact e3) c) (fun _ => ?_)
    refine AW.aload_n (pc := 772) dL_law_772 rfl rfl ?_
    refine AW.iconst (v := 1) (pc := 773) dL_law_773 (by decide) ?_
    refine AW.callRd (pc := 774) (S' := []) dL_law_774 (l_told (d := 2027) hM2 (by decide) (by decide)) hM2.1 (by omega) (by simp [aw_ok]) ok_X4_told tw_294 tw_295 tw_293 rfl rfl (by omega) rfl (Nat.le_of_ble_eq_true rfl) (by omega) (by omega) ?_
    show AW _ _ _ _ _ _ _ 777 [.ref 0, .int (nI t), .ref 1, .ref 2, .null, .int (nI sp), .int c6, .int c7, .int c8, .int c9, .long dg, .null, .int (nI a0), .int (nI b0), .int c14, .int (nI (t2 - (a0 + b0))), .int (P3 - ρ 3), .null, .null, .null, .null, .null] [.int (S_told n ρ2 1)] h2 k ((((((cs + 1) + 1) + 1) + 1) + 1) + 1) ((((((ss + 6) + 6) + 6) + 6) + 6) + 6)
    rw [told1, cnt_zero n 0 (fun i _ hi => s3 i (by omega))]
    show AW _ _ _ _ _ _ _ 777 [.ref 0, .int (nI t), .ref 1, .ref 2, .null, .int (nI sp), .int c6, .int c7, .int c8, .int c9, .long dg, .null, .int (nI a0), .int (nI b0), .int c14, .int (nI (t2 - (a0 + b0))), .int (P3 - ρ 3), .null, .null, .null, .null, .null] [.int (nI 0)] h2 k ((((((cs + 1) + 1) + 1) + 1) + 1) + 1) ((((((ss + 6) + 6) + 6) + 6) + 6) + 6)
    refine AW.if_ne (pc := 777) (tgt := 802) dL_law_777 (by decide) (fun c => absurd (by decide) c) (fun _ => ?_)
    refine AW.aload_n (pc := 780) dL_law_780 rfl rfl ?_
    refine AW.iconst (v := 4) (pc := 781) dL_law_781 (by decide) ?_
    refine AW.callRd (pc := 782) (S' := []) dL_law_782 (l_told (d := 2027) hM2 (by decide) (by decide)) hM2.1 (by omega) (by simp [aw_ok]) ok_X4_told tw_294 tw_295 tw_293 rfl rfl (by omega) rfl (Nat.le_of_ble_eq_true rfl) (by omega) (by omega) ?_
    show AW _ _ _ _ _ _ _ 785 [.ref 0, .int (nI t), .ref 1, .ref 2, .null, .int (nI sp), .int c6, .int c7, .int c8, .int c9, .long dg, .null, .int (nI a0), .int (nI b0), .int c14, .int (nI (t2 - (a0 + b0))), .int (P3 - ρ 3), .null, .null, .null, .null, .null] [.int (S_told n ρ2 4)] h2 k (((((((cs + 1) + 1) + 1) + 1) + 1) + 1) + 1) (((((((ss + 6) + 6) + 6) + 6) + 6) + 6) + 6)
    rw [told4, s1.1.2]
    show AW _ _ _ _ _ _ _ 785 [.ref 0, .int (nI t), .ref 1, .ref 2, .null, .int (nI sp), .int c6, .int c7, .int c8, .int c9, .long dg, .null, .int (nI a0), .int (nI b0), .int c14, .int (nI (t2 - (a0 + b0))), .int (P3 - ρ 3), .null, .null, .null, .null, .null] [.int 0] h2 k (((((((cs + 1) + 1) + 1) + 1) + 1) + 1) + 1) (((((((ss + 6) + 6) + 6) + 6) + 6) + 6) + 6)
    refine AW.if_ne (pc := 785) (tgt := 802) dL_law_785 (by decide) (fun c => absurd (rfl) c) (fun _ => ?_)
    refine AW.aload_n (pc := 788) dL_law_788 rfl rfl ?_
    refine AW.callTr (pc := 789) (S' := []) dL_law_789 (l_settlesIn (d := 2027) hM2 (by decide)) hM2.1 (by omega) (by simp [aw_ok]) ok_X4_settlesIn tw_339 tw_340 tw_338 rfl rfl (by omega) rfl (Nat.le_of_ble_eq_true rfl) (by omega) (by omega) ?_
    intro m3 h3 hS3 hC3 hF3
    show AW _ _ _ _ _ _ _ 792 [.ref 0, .int (nI t), .ref 1, .ref 2, .null, .int (nI sp), .int c6, .int c7, .int c8, .int c9, .long dg, .null, .int (nI a0), .int (nI b0), .int c14, .int (nI (t2 - (a0 + b0))), .int (P3 - ρ 3), .null, .null, .null, .null, .null] [.int (S_inn g n ρ2)] h3 k ((((((((cs + 1) + 1) + 1) + 1) + 1) + 1) + 1) + 1) ((((((((ss + 6) + 6) + 6) + 6) + 6) + 6) + 6) + 6)
    have hM3 := hM2.tr hk hS3 hC3 hF3
    rw [show S_inn g n ρ2 = 0 by unfold S_inn; rw [pass_none s3, if_pos rfl, Int32.sub_self]]
    refine AW.if_ne (pc := 792) (tgt := 802) dL_law_792 (by decide) (fun c => absurd (rfl) c) (fun _ => ?_)
    refine AW.aload_n (pc := 795) dL_law_795 rfl rfl ?_
    obtain ⟨-, p3⟩ := settle_ok hG (by omega) s1 s2
    refine AW.callRn (pc := 796) (S' := []) dL_law_796 (l_settle (d := 2027) hM3 (by decide)) hM3.1 (by omega) (by simp [aw_ok]) ok_X4_settle tw_278 tw_279 tw_277 rfl rfl (by omega) rfl (Nat.le_of_ble_eq_true rfl) (by omega) (by omega) ?_
    intro m4 h4 hR4 hρ4 hC4 hF4
    show AW _ _ _ _ _ _ _ 799 [.ref 0, .int (nI t), .ref 1, .ref 2, .null, .int (nI sp), .int c6, .int c7, .int c8, .int c9, .long dg, .null, .int (nI a0), .int (nI b0), .int c14, .int (nI (t2 - (a0 + b0))), .int (P3 - ρ 3), .null, .null, .null, .null, .null] [.int (S_pass g n 2147483647 ρ2 3 - ρ2 3)] h4 k (((((((((cs + 1) + 1) + 1) + 1) + 1) + 1) + 1) + 1) + 1) (((((((((ss + 6) + 6) + 6) + 6) + 6) + 6) + 6) + 6) + 6)
    rw [pass_none s3] at p3 ⊢
    rcases p3 with ⟨t4, t5, t6, -, -, s5, s6, s7⟩ | ⟨q1, -⟩
    · have hM4 := hM3.rn hk hR4 hρ4 hC4 hF4 (hM3.rw_.settle hG.le30 hG.wf) ⟨0, by omega, s5.1.2⟩
      rw [Int32.sub_self]
      refine AW.if_eq (pc := 799) (tgt := 804) dL_law_799 (by decide) (fun _ => ?_) (fun c => absurd (rfl) c)
      refine AW.locals (L' := [.ref 0, .int (nI t), .ref 1, .ref 2, .null, .int (nI sp), .null, .null, .null, .null, .null, .null, .null, .null, .null, .null, .null, .null, .null, .null, .null, .null]) (aw_fewer_same (aw_fewer_same (aw_fewer_same (aw_fewer_same (aw_fewer_null (aw_fewer_same (aw_fewer_null (aw_fewer_null (aw_fewer_null (aw_fewer_null (aw_fewer_null (aw_fewer_null (aw_fewer_null (aw_fewer_null (aw_fewer_null (aw_fewer_null (aw_fewer_null (aw_fewer_null (aw_fewer_null (aw_fewer_null (aw_fewer_null (aw_fewer_null aw_fewer_nil)))))))))))))))))))))) ?_
      exact Kon t4 _ _ _ _ _ (by omega) hM4 s5 s6 s7 (by omega) (by omega)
    · rw [s1.1.2] at q1; exact absurd q1 (by decide)
  · rw [if_neg (by rw [r1, hS.1.2]; decide)] at hin
    subst hin
    refine AW.iload (pc := 704) dL_law_704 rfl ?_
    refine AW.if_ge (pc := 706) (tgt := 713) dL_law_706 (by decide) (fun c => absurd c (by decide)) (fun _ => ?_)
    refine AW.iconst (v := 1) (pc := 709) dL_law_709 (by decide) ?_
    refine AW.goto (pc := 710) (tgt := 714) dL_law_710 (by decide) ?_
    refine AW.aload_n (pc := 714) dL_law_714 rfl rfl ?_
    refine AW.iconst (v := 4) (pc := 715) dL_law_715 (by decide) ?_
    refine AW.callRd (pc := 716) (S' := [.int (1 : Int32)]) dL_law_716 (l_told (d := 2027) hM2 (by decide) (by decide)) hM2.1 (by omega) (by simp [aw_ok]) ok_X4_told tw_294 tw_295 tw_293 rfl rfl (by omega) rfl (Nat.le_of_ble_eq_true rfl) (by omega) (by omega) ?_
    show AW _ _ _ _ _ _ _ 719 [.ref 0, .int (nI t), .ref 1, .ref 2, .null, .int (nI sp), .int c6, .int c7, .int c8, .int c9, .long dg, .null, .int (nI a0), .int (nI b0), .int c14, .int (-1), .int (P3 - ρ 3), .null, .null, .null, .null, .null] [.int (S_told n ρ2 4), .int (1 : Int32)] h2 k (((cs + 1) + 1) + 1) (((ss + 6) + 6) + 6)
    rw [told4, r2]
    show AW _ _ _ _ _ _ _ 719 [.ref 0, .int (nI t), .ref 1, .ref 2, .null, .int (nI sp), .int c6, .int c7, .int c8, .int c9, .long dg, .null, .int (nI a0), .int (nI b0), .int c14, .int (-1), .int (P3 - ρ 3), .null, .null, .null, .null, .null] [.int 1, .int (1 : Int32)] h2 k (((cs + 1) + 1) + 1) (((ss + 6) + 6) + 6)
    refine AW.if_le (pc := 719) (tgt := 726) dL_law_719 (by decide) (fun c => absurd c (by decide)) (fun _ => ?_)
    refine AW.iconst (v := 1) (pc := 722) dL_law_722 (by decide) ?_
    refine AW.goto (pc := 723) (tgt := 727) dL_law_723 (by decide) ?_
    refine AW.icmp_eq (pc := 727) (tgt := 732) dL_law_727 (by decide) (fun _ => ?_) (fun c => absurd (rfl) c)
    refine AW.iload (pc := 732) dL_law_732 rfl ?_
    refine AW.if_ge (pc := 734) (tgt := 740) dL_law_734 (by decide) (fun c => absurd c (by decide)) (fun _ => ?_)
    refine AW.goto (pc := 737) (tgt := 1159) dL_law_737 (by decide) ?_
    refine AW.locals (L' := [.ref 0, .int (nI t), .null, .null, .null, .null, .null, .null, .null, .null, .null, .null, .null, .null, .null, .null, .null, .null, .null, .null, .null, .null]) (aw_fewer_same (aw_fewer_same (aw_fewer_null (aw_fewer_null (aw_fewer_null (aw_fewer_null (aw_fewer_null (aw_fewer_null (aw_fewer_null (aw_fewer_null (aw_fewer_null (aw_fewer_null (aw_fewer_null (aw_fewer_null (aw_fewer_null (aw_fewer_null (aw_fewer_null (aw_fewer_null (aw_fewer_null (aw_fewer_null (aw_fewer_null (aw_fewer_null aw_fewer_nil)))))))))))))))))))))) ?_
    exact Kbrk _ _ _ (by omega) (by omega)
end LAW
