/-! the law's loop, and its start -/
def w_law (p : Nat → Int32) (o : Nat → Int64) (m : Mem) (K : (Nat → Int64) → Mem → Prop) : Prop :=
  ((p 0 &&& 31) = 0 → wc_0 (p 1) o m K) ∧
  ((p 0 &&& 31) = 1 → wc_1 (p 1) (p 2) (p 3) (p 4) (p 5) (p 6) o m K) ∧
  ((p 0 &&& 31) = 2 → wc_2 (p 1) (p 2) (p 3) (p 4) (p 5) o m K) ∧
  ((p 0 &&& 31) = 3 → wc_3 (p 1) (p 2) (p 3) o m K) ∧
  ((p 0 &&& 31) = 4 → wc_4 (p 1) (p 2) o m K) ∧
  ((p 0 &&& 31) = 5 → wc_5 o m K) ∧
  ((p 0 &&& 31) = 6 → wc_6 o m K) ∧
  ((p 0 &&& 31) = 7 → wc_7 (p 1) (p 2) o m K) ∧
  ((p 0 &&& 31) = 8 → wc_8 (p 1) o m K) ∧
  ((p 0 &&& 31) = 9 → wc_9 o m K) ∧
  ((p 0 &&& 31) = 10 → wc_10 (p 1) o m K) ∧
  ((p 0 &&& 31) = 11 → wc_11 (p 1) o m K) ∧
  ((p 0 &&& 31) = 12 → wc_12 o m K) ∧
  ((p 0 &&& 31) = 13 → wc_13 (p 1) (p 2) o m K) ∧
  ((p 0 &&& 31) = 14 → wc_14 (p 1) o m K) ∧
  ((p 0 &&& 31) = 15 → wc_15 o m K) ∧
  ((p 0 &&& 31) = 16 → wc_16 o m K) ∧
  ((p 0 &&& 31) = 17 → wc_17 (p 1) o m K) ∧
  ((p 0 &&& 31) = 18 → wc_18 (p 1) (p 2) o m K) ∧
  ((p 0 &&& 31) = 19 → wc_19 (p 1) o m K) ∧
  ((p 0 &&& 31) = 20 → wc_20 o m K) ∧
  ((p 0 &&& 31) = 21 → wc_21 (p 1) (p 2) o m K) ∧
  ((p 0 &&& 31) = 22 → wc_22 (p 1) (p 2) (p 3) o m K) ∧
  ((p 0 &&& 31) = 23 → wc_23 (p 1) (p 2) o m K) ∧
  ((p 0 &&& 31) = 24 → wc_24 o m K) ∧
  ((p 0 &&& 31) = 25 → wc_25 (p 1) (p 2) o m K) ∧
  ((p 0 &&& 31) = 26 → wc_26 o m K) ∧
  ((p 0 &&& 31) = 27 → wc_27 o m K) ∧
  (¬ (p 0 &&& 31) = 0 → ¬ (p 0 &&& 31) = 1 → ¬ (p 0 &&& 31) = 2 → ¬ (p 0 &&& 31) = 3 → ¬ (p 0 &&& 31) = 4 → ¬ (p 0 &&& 31) = 5 → ¬ (p 0 &&& 31) = 6 → ¬ (p 0 &&& 31) = 7 → ¬ (p 0 &&& 31) = 8 → ¬ (p 0 &&& 31) = 9 → ¬ (p 0 &&& 31) = 10 → ¬ (p 0 &&& 31) = 11 → ¬ (p 0 &&& 31) = 12 → ¬ (p 0 &&& 31) = 13 → ¬ (p 0 &&& 31) = 14 → ¬ (p 0 &&& 31) = 15 → ¬ (p 0 &&& 31) = 16 → ¬ (p 0 &&& 31) = 17 → ¬ (p 0 &&& 31) = 18 → ¬ (p 0 &&& 31) = 19 → ¬ (p 0 &&& 31) = 20 → ¬ (p 0 &&& 31) = 21 → ¬ (p 0 &&& 31) = 22 → ¬ (p 0 &&& 31) = 23 → ¬ (p 0 &&& 31) = 24 → ¬ (p 0 &&& 31) = 25 → ¬ (p 0 &&& 31) = 26 → ¬ (p 0 &&& 31) = 27 → K o m)
set_option maxRecDepth 100000 in
set_option maxHeartbeats 4000000 in
theorem law_step {n : Nat} {xs p : Nat → Int32} {d k0 mc ms cs ss k t : Nat} {ex : Hp} {o : Nat → Int64} {m : Mem} {K : (Nat → Int64) → Mem → Prop} {i : Int32} (hk0 : 0 < k0) (hd : 40 ≤ d) (hcs : cs + 837 ≤ mc) (hss : ss + 9372 ≤ ms) (ht : tok t) (hk : kok t k)
    (h0 : vp_in i n) (hp0 : xs i.toNatClampNeg = p 0) (hx : ∀ q : Nat, 0 < q → q < 7 → vp_in (i + nI q) n) (hp : ∀ q : Nat, q < 7 → xs (i + nI q).toNatClampNeg = p q)
    (hKK : ∀ {t2 k2 : Nat} {ex2 : Hp}, tok t2 → kok t2 k2 → ∀ (o2 : Nat → Int64) (m2 : Mem), K o2 m2 → AW (aw_ZL n xs) mlaw d k0 mc ms aw_QL 1639 [.ref 0, .ref 1, .ref 47, .ref 61, .int i, .null, .null, .null, .null] [] (lay t2 ex2 o2 m2) k2 (cs + 837) (ss + 9372))
    (hw : w_law p o m K) : AW (aw_ZL n xs) mlaw d k0 mc ms aw_QL 33 [.ref 0, .ref 1, .ref 47, .ref 61, .int i, .null, .null, .null, .null] [] (lay t ex o m) k cs ss := by
  unfold w_law at hw
  refine AW.aload_n (pc := 33) dL_law_33 rfl rfl ?_
  refine AW.iload (pc := 34) dL_law_34 rfl ?_
  refine AW.sld (pc := 36) dL_law_36 hk0 h0 hp0 ?_
  refine AW.bipush (v := 31) (pc := 37) dL_law_37 (by decide) ?_
  refine AW.iand (pc := 39) dL_law_39 ?_
  by_cases s0 : (p 0 &&& 31) = 0
  · have hw := hw.1 s0
    refine AW.tableIn (pc := 40) (tgt := 168) dL_law_40 (by rw [s0]; decide) (by rw [s0]; decide) (off := 128) (by rw [s0]; decide) (by decide) ?_
    exact b_law_0 hk0 hd hcs hss ht hk (hx 1 (by decide) (by decide)) (hp 1 (by decide)) hKK hw
  by_cases s1 : (p 0 &&& 31) = 1
  · have hw := hw.2.1 s1
    refine AW.tableIn (pc := 40) (tgt := 224) dL_law_40 (by rw [s1]; decide) (by rw [s1]; decide) (off := 184) (by rw [s1]; decide) (by decide) ?_
    exact b_law_1 hk0 hd hcs hss ht hk (hx 1 (by decide) (by decide)) (hp 1 (by decide)) (hx 2 (by decide) (by decide)) (hp 2 (by decide)) (hx 3 (by decide) (by decide)) (hp 3 (by decide)) (hx 4 (by decide) (by decide)) (hp 4 (by decide)) (hx 5 (by decide) (by decide)) (hp 5 (by decide)) (hx 6 (by decide) (by decide)) (hp 6 (by decide)) hKK hw
  by_cases s2 : (p 0 &&& 31) = 2
  · have hw := hw.2.2.1 s2
    refine AW.tableIn (pc := 40) (tgt := 342) dL_law_40 (by rw [s2]; decide) (by rw [s2]; decide) (off := 302) (by rw [s2]; decide) (by decide) ?_
    exact b_law_2 hk0 hd hcs hss ht hk (hx 1 (by decide) (by decide)) (hp 1 (by decide)) (hx 2 (by decide) (by decide)) (hp 2 (by decide)) (hx 3 (by decide) (by decide)) (hp 3 (by decide)) (hx 4 (by decide) (by decide)) (hp 4 (by decide)) (hx 5 (by decide) (by decide)) (hp 5 (by decide)) hKK hw
  by_cases s3 : (p 0 &&& 31) = 3
  · have hw := hw.2.2.2.1 s3
    refine AW.tableIn (pc := 40) (tgt := 446) dL_law_40 (by rw [s3]; decide) (by rw [s3]; decide) (off := 406) (by rw [s3]; decide) (by decide) ?_
    exact b_law_3 hk0 hd hcs hss ht hk (hx 1 (by decide) (by decide)) (hp 1 (by decide)) (hx 2 (by decide) (by decide)) (hp 2 (by decide)) (hx 3 (by decide) (by decide)) (hp 3 (by decide)) hKK hw
  by_cases s4 : (p 0 &&& 31) = 4
  · have hw := hw.2.2.2.2.1 s4
    refine AW.tableIn (pc := 40) (tgt := 526) dL_law_40 (by rw [s4]; decide) (by rw [s4]; decide) (off := 486) (by rw [s4]; decide) (by decide) ?_
    exact b_law_4 hk0 hd hcs hss ht hk (hx 1 (by decide) (by decide)) (hp 1 (by decide)) (hx 2 (by decide) (by decide)) (hp 2 (by decide)) hKK hw
  by_cases s5 : (p 0 &&& 31) = 5
  · have hw := hw.2.2.2.2.2.1 s5
    refine AW.tableIn (pc := 40) (tgt := 594) dL_law_40 (by rw [s5]; decide) (by rw [s5]; decide) (off := 554) (by rw [s5]; decide) (by decide) ?_
    exact b_law_5 hk0 hd hcs hss ht hk hKK hw
  by_cases s6 : (p 0 &&& 31) = 6
  · have hw := hw.2.2.2.2.2.2.1 s6
    refine AW.tableIn (pc := 40) (tgt := 607) dL_law_40 (by rw [s6]; decide) (by rw [s6]; decide) (off := 567) (by rw [s6]; decide) (by decide) ?_
    exact b_law_6 hk0 hd hcs hss ht hk hKK hw
  by_cases s7 : (p 0 &&& 31) = 7
  · have hw := hw.2.2.2.2.2.2.2.1 s7
    refine AW.tableIn (pc := 40) (tgt := 620) dL_law_40 (by rw [s7]; decide) (by rw [s7]; decide) (off := 580) (by rw [s7]; decide) (by decide) ?_
    exact b_law_7 hk0 hd hcs hss ht hk (hx 1 (by decide) (by decide)) (hp 1 (by decide)) (hx 2 (by decide) (by decide)) (hp 2 (by decide)) hKK hw
  by_cases s8 : (p 0 &&& 31) = 8
  · have hw := hw.2.2.2.2.2.2.2.2.1 s8
    refine AW.tableIn (pc := 40) (tgt := 688) dL_law_40 (by rw [s8]; decide) (by rw [s8]; decide) (off := 648) (by rw [s8]; decide) (by decide) ?_
    exact b_law_8 hk0 hd hcs hss ht hk (hx 1 (by decide) (by decide)) (hp 1 (by decide)) hKK hw
  by_cases s9 : (p 0 &&& 31) = 9
  · have hw := hw.2.2.2.2.2.2.2.2.2.1 s9
    refine AW.tableIn (pc := 40) (tgt := 744) dL_law_40 (by rw [s9]; decide) (by rw [s9]; decide) (off := 704) (by rw [s9]; decide) (by decide) ?_
    exact b_law_9 hk0 hd hcs hss ht hk hKK hw
  by_cases s10 : (p 0 &&& 31) = 10
  · have hw := hw.2.2.2.2.2.2.2.2.2.2.1 s10
    refine AW.tableIn (pc := 40) (tgt := 757) dL_law_40 (by rw [s10]; decide) (by rw [s10]; decide) (off := 717) (by rw [s10]; decide) (by decide) ?_
    exact b_law_10 hk0 hd hcs hss ht hk (hx 1 (by decide) (by decide)) (hp 1 (by decide)) hKK hw
  by_cases s11 : (p 0 &&& 31) = 11
  · have hw := hw.2.2.2.2.2.2.2.2.2.2.2.1 s11
    refine AW.tableIn (pc := 40) (tgt := 782) dL_law_40 (by rw [s11]; decide) (by rw [s11]; decide) (off := 742) (by rw [s11]; decide) (by decide) ?_
    exact b_law_11 hk0 hd hcs hss ht hk (hx 1 (by decide) (by decide)) (hp 1 (by decide)) hKK hw
  by_cases s12 : (p 0 &&& 31) = 12
  · have hw := hw.2.2.2.2.2.2.2.2.2.2.2.2.1 s12
    refine AW.tableIn (pc := 40) (tgt := 838) dL_law_40 (by rw [s12]; decide) (by rw [s12]; decide) (off := 798) (by rw [s12]; decide) (by decide) ?_
    exact b_law_12 hk0 hd hcs hss ht hk hKK hw
  by_cases s13 : (p 0 &&& 31) = 13
  · have hw := hw.2.2.2.2.2.2.2.2.2.2.2.2.2.1 s13
    refine AW.tableIn (pc := 40) (tgt := 882) dL_law_40 (by rw [s13]; decide) (by rw [s13]; decide) (off := 842) (by rw [s13]; decide) (by decide) ?_
    exact b_law_13 hk0 hd hcs hss ht hk (hx 1 (by decide) (by decide)) (hp 1 (by decide)) (hx 2 (by decide) (by decide)) (hp 2 (by decide)) hKK hw
  by_cases s14 : (p 0 &&& 31) = 14
  · have hw := hw.2.2.2.2.2.2.2.2.2.2.2.2.2.2.1 s14
    refine AW.tableIn (pc := 40) (tgt := 950) dL_law_40 (by rw [s14]; decide) (by rw [s14]; decide) (off := 910) (by rw [s14]; decide) (by decide) ?_
    exact b_law_14 hk0 hd hcs hss ht hk (hx 1 (by decide) (by decide)) (hp 1 (by decide)) hKK hw
  by_cases s15 : (p 0 &&& 31) = 15
  · have hw := hw.2.2.2.2.2.2.2.2.2.2.2.2.2.2.2.1 s15
    refine AW.tableIn (pc := 40) (tgt := 1006) dL_law_40 (by rw [s15]; decide) (by rw [s15]; decide) (off := 966) (by rw [s15]; decide) (by decide) ?_
    exact b_law_15 hk0 hd hcs hss ht hk hKK hw
  by_cases s16 : (p 0 &&& 31) = 16
  · have hw := hw.2.2.2.2.2.2.2.2.2.2.2.2.2.2.2.2.1 s16
    refine AW.tableIn (pc := 40) (tgt := 1050) dL_law_40 (by rw [s16]; decide) (by rw [s16]; decide) (off := 1010) (by rw [s16]; decide) (by decide) ?_
    exact b_law_16 hk0 hd hcs hss ht hk hKK hw
  by_cases s17 : (p 0 &&& 31) = 17
  · have hw := hw.2.2.2.2.2.2.2.2.2.2.2.2.2.2.2.2.2.1 s17
    refine AW.tableIn (pc := 40) (tgt := 1063) dL_law_40 (by rw [s17]; decide) (by rw [s17]; decide) (off := 1023) (by rw [s17]; decide) (by decide) ?_
    exact b_law_17 hk0 hd hcs hss ht hk (hx 1 (by decide) (by decide)) (hp 1 (by decide)) hKK hw
  by_cases s18 : (p 0 &&& 31) = 18
  · have hw := hw.2.2.2.2.2.2.2.2.2.2.2.2.2.2.2.2.2.2.1 s18
    refine AW.tableIn (pc := 40) (tgt := 1119) dL_law_40 (by rw [s18]; decide) (by rw [s18]; decide) (off := 1079) (by rw [s18]; decide) (by decide) ?_
    exact b_law_18 hk0 hd hcs hss ht hk (hx 1 (by decide) (by decide)) (hp 1 (by decide)) (hx 2 (by decide) (by decide)) (hp 2 (by decide)) hKK hw
  by_cases s19 : (p 0 &&& 31) = 19
  · have hw := hw.2.2.2.2.2.2.2.2.2.2.2.2.2.2.2.2.2.2.2.1 s19
    refine AW.tableIn (pc := 40) (tgt := 1187) dL_law_40 (by rw [s19]; decide) (by rw [s19]; decide) (off := 1147) (by rw [s19]; decide) (by decide) ?_
    exact b_law_19 hk0 hd hcs hss ht hk (hx 1 (by decide) (by decide)) (hp 1 (by decide)) hKK hw
  by_cases s20 : (p 0 &&& 31) = 20
  · have hw := hw.2.2.2.2.2.2.2.2.2.2.2.2.2.2.2.2.2.2.2.2.1 s20
    refine AW.tableIn (pc := 40) (tgt := 1243) dL_law_40 (by rw [s20]; decide) (by rw [s20]; decide) (off := 1203) (by rw [s20]; decide) (by decide) ?_
    exact b_law_20 hk0 hd hcs hss ht hk hKK hw
  by_cases s21 : (p 0 &&& 31) = 21
  · have hw := hw.2.2.2.2.2.2.2.2.2.2.2.2.2.2.2.2.2.2.2.2.2.1 s21
    refine AW.tableIn (pc := 40) (tgt := 1256) dL_law_40 (by rw [s21]; decide) (by rw [s21]; decide) (off := 1216) (by rw [s21]; decide) (by decide) ?_
    exact b_law_21 hk0 hd hcs hss ht hk (hx 1 (by decide) (by decide)) (hp 1 (by decide)) (hx 2 (by decide) (by decide)) (hp 2 (by decide)) hKK hw
  by_cases s22 : (p 0 &&& 31) = 22
  · have hw := hw.2.2.2.2.2.2.2.2.2.2.2.2.2.2.2.2.2.2.2.2.2.2.1 s22
    refine AW.tableIn (pc := 40) (tgt := 1324) dL_law_40 (by rw [s22]; decide) (by rw [s22]; decide) (off := 1284) (by rw [s22]; decide) (by decide) ?_
    exact b_law_22 hk0 hd hcs hss ht hk (hx 1 (by decide) (by decide)) (hp 1 (by decide)) (hx 2 (by decide) (by decide)) (hp 2 (by decide)) (hx 3 (by decide) (by decide)) (hp 3 (by decide)) hKK hw
  by_cases s23 : (p 0 &&& 31) = 23
  · have hw := hw.2.2.2.2.2.2.2.2.2.2.2.2.2.2.2.2.2.2.2.2.2.2.2.1 s23
    refine AW.tableIn (pc := 40) (tgt := 1404) dL_law_40 (by rw [s23]; decide) (by rw [s23]; decide) (off := 1364) (by rw [s23]; decide) (by decide) ?_
    exact b_law_23 hk0 hd hcs hss ht hk (hx 1 (by decide) (by decide)) (hp 1 (by decide)) (hx 2 (by decide) (by decide)) (hp 2 (by decide)) hKK hw
  by_cases s24 : (p 0 &&& 31) = 24
  · have hw := hw.2.2.2.2.2.2.2.2.2.2.2.2.2.2.2.2.2.2.2.2.2.2.2.2.1 s24
    refine AW.tableIn (pc := 40) (tgt := 1472) dL_law_40 (by rw [s24]; decide) (by rw [s24]; decide) (off := 1432) (by rw [s24]; decide) (by decide) ?_
    exact b_law_24 hk0 hd hcs hss ht hk hKK hw
  by_cases s25 : (p 0 &&& 31) = 25
  · have hw := hw.2.2.2.2.2.2.2.2.2.2.2.2.2.2.2.2.2.2.2.2.2.2.2.2.2.1 s25
    refine AW.tableIn (pc := 40) (tgt := 1516) dL_law_40 (by rw [s25]; decide) (by rw [s25]; decide) (off := 1476) (by rw [s25]; decide) (by decide) ?_
    exact b_law_25 hk0 hd hcs hss ht hk (hx 1 (by decide) (by decide)) (hp 1 (by decide)) (hx 2 (by decide) (by decide)) (hp 2 (by decide)) hKK hw
  by_cases s26 : (p 0 &&& 31) = 26
  · have hw := hw.2.2.2.2.2.2.2.2.2.2.2.2.2.2.2.2.2.2.2.2.2.2.2.2.2.2.1 s26
    refine AW.tableIn (pc := 40) (tgt := 1584) dL_law_40 (by rw [s26]; decide) (by rw [s26]; decide) (off := 1544) (by rw [s26]; decide) (by decide) ?_
    exact b_law_26 hk0 hd hcs hss ht hk hKK hw
  by_cases s27 : (p 0 &&& 31) = 27
  · have hw := hw.2.2.2.2.2.2.2.2.2.2.2.2.2.2.2.2.2.2.2.2.2.2.2.2.2.2.2.1 s27
    refine AW.tableIn (pc := 40) (tgt := 1625) dL_law_40 (by rw [s27]; decide) (by rw [s27]; decide) (off := 1585) (by rw [s27]; decide) (by decide) ?_
    exact b_law_27 hk0 hd hcs hss ht hk hKK hw
  have hw := hw.2.2.2.2.2.2.2.2.2.2.2.2.2.2.2.2.2.2.2.2.2.2.2.2.2.2.2.2 s0 s1 s2 s3 s4 s5 s6 s7 s8 s9 s10 s11 s12 s13 s14 s15 s16 s17 s18 s19 s20 s21 s22 s23 s24 s25 s26 s27
  refine AW.tableOut (pc := 40) (tgt := 1639) dL_law_40 (by
      have q0 := lv_neT s0 (show (0 : Int32).toInt = 0 by decide)
      have q1 := lv_neT s1 (show (1 : Int32).toInt = 1 by decide)
      have q2 := lv_neT s2 (show (2 : Int32).toInt = 2 by decide)
      have q3 := lv_neT s3 (show (3 : Int32).toInt = 3 by decide)
      have q4 := lv_neT s4 (show (4 : Int32).toInt = 4 by decide)
      have q5 := lv_neT s5 (show (5 : Int32).toInt = 5 by decide)
      have q6 := lv_neT s6 (show (6 : Int32).toInt = 6 by decide)
      have q7 := lv_neT s7 (show (7 : Int32).toInt = 7 by decide)
      have q8 := lv_neT s8 (show (8 : Int32).toInt = 8 by decide)
      have q9 := lv_neT s9 (show (9 : Int32).toInt = 9 by decide)
      have q10 := lv_neT s10 (show (10 : Int32).toInt = 10 by decide)
      have q11 := lv_neT s11 (show (11 : Int32).toInt = 11 by decide)
      have q12 := lv_neT s12 (show (12 : Int32).toInt = 12 by decide)
      have q13 := lv_neT s13 (show (13 : Int32).toInt = 13 by decide)
      have q14 := lv_neT s14 (show (14 : Int32).toInt = 14 by decide)
      have q15 := lv_neT s15 (show (15 : Int32).toInt = 15 by decide)
      have q16 := lv_neT s16 (show (16 : Int32).toInt = 16 by decide)
      have q17 := lv_neT s17 (show (17 : Int32).toInt = 17 by decide)
      have q18 := lv_neT s18 (show (18 : Int32).toInt = 18 by decide)
      have q19 := lv_neT s19 (show (19 : Int32).toInt = 19 by decide)
      have q20 := lv_neT s20 (show (20 : Int32).toInt = 20 by decide)
      have q21 := lv_neT s21 (show (21 : Int32).toInt = 21 by decide)
      have q22 := lv_neT s22 (show (22 : Int32).toInt = 22 by decide)
      have q23 := lv_neT s23 (show (23 : Int32).toInt = 23 by decide)
      have q24 := lv_neT s24 (show (24 : Int32).toInt = 24 by decide)
      have q25 := lv_neT s25 (show (25 : Int32).toInt = 25 by decide)
      have q26 := lv_neT s26 (show (26 : Int32).toInt = 26 by decide)
      have q27 := lv_neT s27 (show (27 : Int32).toInt = 27 by decide)
      omega) (by decide) ?_
  refine AW.widen (cs' := cs + 837) (ss' := ss + 9372) (by omega) (by omega) ?_
  exact hKK ht hk _ _ hw
theorem ny_add {a b : Nat} : nI a + nI b = nI (a + b) := by
  simp [nI, Int32.ofNat_add]
theorem ny_toInt {a : Nat} (h : a < 2 ^ 31) : (nI a).toInt = (a : Int) := by
  unfold nI
  exact Int32.toInt_ofNat_of_lt h
theorem law_lt {n a : Nat} (hn : n ≤ 3584) (ha : a ≤ 3584) : (Int32.ofNat n - 7 < nI a) ↔ n < a + 7 := by
  have h1 : (Int32.ofNat n).toInt = (n : Int) := Int32.toInt_ofNat_of_lt (by omega)
  have h2 : (Int32.ofNat n - 7).toInt = (n : Int) - 7 := by
    rw [Int32.toInt_sub, h1, show (7 : Int32).toInt = 7 by decide]
    exact Int.bmod_eq_of_le (by omega) (by omega)
  rw [Int32.lt_iff_toInt_lt, h2, ny_toInt (by omega)]
  omega
set_option maxRecDepth 100000 in
set_option maxHeartbeats 4000000 in
theorem law_loop {Inv : Nat → Mem → Prop} (hI : ∀ (j : Nat) (m : Mem), j < 512 → Inv j m → ∀ (o : Nat → Int64) (p : Nat → Int32), w_law p o m (fun _ m2 => Inv (j + 1) m2)) {n : Nat} {xs : Nat → Int32} (hn : n ≤ 3584) {d k0 mc ms : Nat} (hk0 : 0 < k0) (hd : 40 ≤ d) :
    ∀ (r j t k cs ss : Nat) (ex : Hp) (o : Nat → Int64) (m : Mem), j + r = 512 → tok t → kok t k → Inv j m → cs + r * 837 ≤ mc → ss + r * 9372 ≤ ms → AW (aw_ZL n xs) mlaw d k0 mc ms aw_QL 23 [.ref 0, .ref 1, .ref 47, .ref 61, .int (nI (7 * j)), .null, .null, .null, .null] [] (lay t ex o m) k cs ss := by
  intro r
  induction r with
  | zero =>
    intro j t k cs ss ex o m hj ht hk hinv hcs hss
    refine AW.iload (pc := 23) dL_law_23 rfl ?_
    refine AW.aload_n (pc := 25) dL_law_25 rfl rfl ?_
    refine AW.slen (pc := 26) dL_law_26 hk0 ?_
    refine AW.bipush (v := 7) (pc := 27) dL_law_27 (by decide) ?_
    refine AW.isub (pc := 29) dL_law_29 ?_
    refine AW.icmp_gt (pc := 30) (tgt := 1645) dL_law_30 (by decide) (fun c => ?_) (fun c => ?_)
    · refine AW.iconst (v := 1) (pc := 1645) dL_law_1645 (by decide) ?_
      exact AW.iret (ty := .boolean) (pc := 1646) dL_law_1646 rfl rfl (by omega) (by omega) rfl
    · exact absurd ((law_lt hn (by omega)).mpr (by omega)) c
  | succ r ih =>
    intro j t k cs ss ex o m hj ht hk hinv hcs hss
    refine AW.iload (pc := 23) dL_law_23 rfl ?_
    refine AW.aload_n (pc := 25) dL_law_25 rfl rfl ?_
    refine AW.slen (pc := 26) dL_law_26 hk0 ?_
    refine AW.bipush (v := 7) (pc := 27) dL_law_27 (by decide) ?_
    refine AW.isub (pc := 29) dL_law_29 ?_
    refine AW.icmp_gt (pc := 30) (tgt := 1645) dL_law_30 (by decide) (fun c => ?_) (fun c => ?_)
    · refine AW.iconst (v := 1) (pc := 1645) dL_law_1645 (by decide) ?_
      exact AW.iret (ty := .boolean) (pc := 1646) dL_law_1646 rfl rfl (by omega) (by omega) rfl
    · have hc : ¬ (n < 7 * j + 7) := fun hh => c ((law_lt hn (by omega)).mpr hh)
      have hn31 : n < 2 ^ 31 := by omega
      refine law_step (p := fun q => xs (7 * j + q)) (K := fun _ m2 => Inv (j + 1) m2) hk0 hd (by omega) (by omega) ht hk (vp_in_nI (by omega) hn31) (by rw [nI_clamp (by omega)]; rfl) (fun q h1 h2 => by rw [ny_add]; exact vp_in_nI (by omega) hn31) ?_ ?_ (hI j m (by omega) hinv o _)
      · intro q hq
        rw [ny_add, nI_clamp (by omega)]
      · intro t2 k2 ex2 ht2 hk2 o2 m2 hinv2
        refine AW.iinc (v := nI (7 * (j + 1))) (L' := [.ref 0, .ref 1, .ref 47, .ref 61, .int (nI (7 * (j + 1))), .null, .null, .null, .null]) (pc := 1639) dL_law_1639 rfl (show nI (7 * j) + nI 7 = _ by rw [ny_add]; rfl) (by decide) rfl rfl ?_
        refine AW.goto (pc := 1642) (tgt := 23) dL_law_1642 (by decide) ?_
        exact ih (j + 1) t2 k2 _ _ ex2 o2 m2 (by omega) ht2 hk2 hinv2 (by omega) (by omega)
