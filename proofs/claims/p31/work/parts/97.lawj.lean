/-! the law's walk: the steps -/
section LAW
variable {Ls : Nat} {xs : Nat → Int32} {T : Nat → Nat → Int32} {g m : Mem} {n k t q cs ss : Nat} {h : Hp} {ρ : Rw}
set_option maxRecDepth 100000 in
set_option maxHeartbeats 4000000 in
theorem law_steps {q0 cs0 ss0 : Nat} (hL : Ls ≤ 260) (hG : GD g n) (hT : gT T n) (hTG : TG T g n) (hk : 79 + n ≤ k) (hq0 : q0 < 2 ^ 18) (hcs : cs0 + 21000 ≤ 600074) (hss : ss0 + 122000 ≤ 7301550) (Kbrk : ∀ (h2 : Hp) (cs2 ss2 : Nat), cs2 ≤ cs0 + 21000 → ss2 ≤ ss0 + 122000 → AW (aw_ZL Ls xs) mlaw 2028 1 600074 7301550 aw_QL 1159 [.ref 0, .int (nI t), .null, .null, .null, .null, .null, .null, .null, .null, .null, .null, .null, .null, .null, .null, .null, .null, .null, .null, .null, .null] [] h2 k cs2 ss2) : ∀ (r sp now B q : Nat) (ρ : Rw) (h : Hp) (m : Mem) (cs ss : Nat), sp + r = 10 → LM T g n h q ρ m → SI g n now B ρ → GCo g n ρ → B ≤ 400 → now ≤ 12010 * sp → q ≤ q0 + 3 * sp → cs ≤ cs0 + 2100 * sp → ss ≤ ss0 + 12200 * sp → AW (aw_ZL Ls xs) mlaw 2028 1 600074 7301550 aw_QL 339 [.ref 0, .int (nI t), .ref 1, .ref 2, .null, .int (nI sp), .null, .null, .null, .null, .null, .null, .null, .null, .null, .null, .null, .null, .null, .null, .null, .null] [] h k cs ss := by
  have h17 := hG.1
  intro r
  induction r with
  | zero =>
    intro sp now B q ρ h m cs ss hr hM hS hgs hB hnow hq hc hs
    refine AW.iload (pc := 339) dL_law_339 rfl ?_
    refine AW.bipush (v := 10) (pc := 341) dL_law_341 (by decide) ?_
    refine AW.icmp_ge (pc := 343) (tgt := 1159) dL_law_343 (by decide) (fun _ => ?_) (fun c => absurd (nI_le (a := 10) (by omega) (by omega)) c)
    refine AW.locals (L' := [.ref 0, .int (nI t), .null, .null, .null, .null, .null, .null, .null, .null, .null, .null, .null, .null, .null, .null, .null, .null, .null, .null, .null, .null]) (aw_fewer_same (aw_fewer_same (aw_fewer_null (aw_fewer_null (aw_fewer_null (aw_fewer_null (aw_fewer_null (aw_fewer_null (aw_fewer_null (aw_fewer_null (aw_fewer_null (aw_fewer_null (aw_fewer_null (aw_fewer_null (aw_fewer_null (aw_fewer_null (aw_fewer_null (aw_fewer_null (aw_fewer_null (aw_fewer_null (aw_fewer_null (aw_fewer_null aw_fewer_nil)))))))))))))))))))))) ?_
    exact Kbrk _ _ _ (by omega) (by omega)
  | succ r ih =>
    intro sp now B q ρ h m cs ss hr hM hS hgs hB hnow hq hc hs
    refine AW.iload (pc := 339) dL_law_339 rfl ?_
    refine AW.bipush (v := 10) (pc := 341) dL_law_341 (by decide) ?_
    refine AW.icmp_ge (pc := 343) (tgt := 1159) dL_law_343 (by decide) (fun c => absurd c (nI_ge (b := 10) (by omega) (by decide))) (fun _ => ?_)
    refine law_set (now := now) (B := B) hL hG hk hM (by omega) hS hgs (by omega) (by omega) (by omega) fun w v h2 m2 cs2 ss2 hw hv hM2 s1 s2 hc2 hs2 => ?_
    refine law_chk (now := now) (B := 1) hG hk hM2 s1 s2 (by decide) (by omega) hv (by omega) (by omega) fun dg h3 m3 cs3 ss3 hM3 hc3 hs3 => ?_
    refine law_pass (now := now) (B := 1) (by omega) hL hG hk hM3 (by omega) s1 s2 (by omega) (by omega) (by omega) (fun h4 cs4 ss4 hc4 hs4 => Kbrk _ _ _ (by omega) (by omega)) (fun b0 c14 ρ2 h4 m4 cs4 ss4 hb0 hM4 s3 s4 h6 hc4 hs4 => ?_) (fun b0 ρ2 h4 m4 cs4 ss4 hb0 hM4 s3 s4 hc4 hs4 => ?_)
    · refine law_settle (a0 := now) (b0 := b0) (B := 1 + 300) hG hk hM4 s3 s4 h6 (by omega) (by omega) (by omega) (fun h5 cs5 ss5 hc5 hs5 => Kbrk _ _ _ (by omega) (by omega)) fun t4 ρ3 h5 m5 cs5 ss5 ht4 hM5 s5 s6 s7 hc5 hs5 => ?_
      refine law_gates hG hT hTG hM5 s5 s6 s7 hk (by omega) (by omega) fun cs6 ss6 hc6 hs6 => ?_
      refine law_haz hG hT hTG hM5 s5 (by omega) hk (by omega) (by omega) fun cs7 ss7 hc7 hs7 => ?_
      refine AW.iinc (v := ((nI sp) + 1)) (L' := [.ref 0, .int (nI t), .ref 1, .ref 2, .null, .int ((nI sp) + 1), .null, .null, .null, .null, .null, .null, .null, .null, .null, .null, .null, .null, .null, .null, .null, .null]) (pc := 1153) dL_law_1153 rfl rfl (by decide) rfl rfl ?_
      rw [nI_1 sp]
      refine AW.goto (pc := 1156) (tgt := 339) dL_law_1156 (by decide) ?_
      exact ih (sp + 1) t4 0 _ _ _ _ _ _ (by omega) hM5 s5 s6 (by omega) (by omega) (by omega) (by omega) (by omega)
    · refine AW.iinc (v := ((nI sp) + 1)) (L' := [.ref 0, .int (nI t), .ref 1, .ref 2, .null, .int ((nI sp) + 1), .null, .null, .null, .null, .null, .null, .null, .null, .null, .null, .null, .null, .null, .null, .null, .null]) (pc := 1153) dL_law_1153 rfl rfl (by decide) rfl rfl ?_
      rw [nI_1 sp]
      refine AW.goto (pc := 1156) (tgt := 339) dL_law_1156 (by decide) ?_
      exact ih (sp + 1) (now + b0) (1 + 300) _ _ _ _ _ _ (by omega) hM4 s3 s4 (by omega) (by omega) (by omega) (by omega) (by omega)
end LAW
