/-! how many bits are set -/
theorem and_split {a0 a1 c0 c1 : Nat} (ha : a0 < 256) (hc : c0 < 256) : (a0 + 256 * a1) &&& (c0 + 256 * c1) = (a0 &&& c0) + 256 * (a1 &&& c1) := by
  have h1 : ((a0 + 256 * a1) &&& (c0 + 256 * c1)) % 2 ^ 8 = (a0 + 256 * a1) % 2 ^ 8 &&& (c0 + 256 * c1) % 2 ^ 8 := Nat.and_mod_two_pow
  have h2 : ((a0 + 256 * a1) &&& (c0 + 256 * c1)) / 2 ^ 8 = (a0 + 256 * a1) / 2 ^ 8 &&& (c0 + 256 * c1) / 2 ^ 8 := Nat.and_div_two_pow
  rw [show (a0 + 256 * a1) % 2 ^ 8 = a0 by omega, show (c0 + 256 * c1) % 2 ^ 8 = c0 by omega] at h1
  rw [show (a0 + 256 * a1) / 2 ^ 8 = a1 by omega, show (c0 + 256 * c1) / 2 ^ 8 = c1 by omega] at h2
  omega
theorem nI_and {a b : Nat} (ha : a < 2 ^ 32) (hb : b < 2 ^ 32) : nI a &&& nI b = nI (a &&& b) := by
  apply Int32.toBitVec_inj.mp
  apply BitVec.eq_of_toNat_eq
  rw [Int32.toBitVec_and, BitVec.toNat_and, pk_tn ha, pk_tn hb, pk_tn (Nat.and_lt_two_pow _ hb)]
def by4 (a b c d : Nat) : Nat := a + 256 * (b + 256 * (c + 256 * d))
theorem by4_and {a b c d e f g h : Nat} (ha : a < 256) (hb : b < 256) (hc : c < 256) (he : e < 256) (hf : f < 256) (hg : g < 256) : by4 a b c d &&& by4 e f g h = by4 (a &&& e) (b &&& f) (c &&& g) (d &&& h) := by
  unfold by4
  rw [and_split ha he, and_split hb hf, and_split hc hg]
def pcb (b : Nat) : Nat := cntB (fun i => b.testBit i) 8
def p1b (b : Nat) : Nat := b - (b / 2 &&& 85)
def p2b (b : Nat) : Nat := (p1b b &&& 51) + (p1b b / 4 &&& 51)
theorem pop_b1 : ∀ b, b < 256 → ∀ c, c < 2 → (b / 2 + 128 * c) &&& 85 = b / 2 &&& 85 := by decide +kernel
theorem pop_b1' : ∀ b, b < 256 → b / 2 &&& 85 ≤ b := by decide +kernel
theorem pop_b2 : ∀ b, b < 256 → ∀ c, c < 4 → (b / 4 + 64 * c) &&& 51 = b / 4 &&& 51 := by decide +kernel
theorem pop_b2' : ∀ b, b < 256 → (b &&& 51) ≤ 51 ∧ (b / 4 &&& 51) ≤ 51 := by decide +kernel
theorem pop_b3 : ∀ b, b < 256 → p2b b ≤ 68 ∧ p2b b % 16 ≤ 4 ∧ p2b b / 16 ≤ 4 ∧ (p2b b + p2b b / 16) % 16 = pcb b ∧ pcb b ≤ 8 := by decide +kernel
theorem pop_m15 (a : Nat) : a &&& 15 = a % 16 := Nat.and_two_pow_sub_one_eq_mod a 4
theorem pop_s1 {b0 b1 b2 b3 : Nat} (h0 : b0 < 256) (h1 : b1 < 256) (h2 : b2 < 256) (h3 : b3 < 256) : by4 b0 b1 b2 b3 - (by4 b0 b1 b2 b3 / 2 &&& 1431655765) = by4 (p1b b0) (p1b b1) (p1b b2) (p1b b3) ∧ (by4 b0 b1 b2 b3 / 2 &&& 1431655765) ≤ by4 b0 b1 b2 b3 := by
  have e1 : by4 b0 b1 b2 b3 / 2 = by4 (b0 / 2 + 128 * (b1 % 2)) (b1 / 2 + 128 * (b2 % 2)) (b2 / 2 + 128 * (b3 % 2)) (b3 / 2) := by unfold by4; omega
  have em : (1431655765 : Nat) = by4 85 85 85 85 := by decide
  rw [e1, em, by4_and (by omega) (by omega) (by omega) (by omega) (by omega) (by omega), pop_b1 b0 h0 _ (by omega), pop_b1 b1 h1 _ (by omega), pop_b1 b2 h2 _ (by omega)]
  have q0 := pop_b1' b0 h0
  have q1 := pop_b1' b1 h1
  have q2 := pop_b1' b2 h2
  have q3 := pop_b1' b3 h3
  unfold by4 p1b
  omega
theorem pop_s2 {c0 c1 c2 c3 : Nat} (h0 : c0 < 256) (h1 : c1 < 256) (h2 : c2 < 256) (h3 : c3 < 256) : (by4 c0 c1 c2 c3 &&& 858993459) + (by4 c0 c1 c2 c3 / 4 &&& 858993459) = by4 ((c0 &&& 51) + (c0 / 4 &&& 51)) ((c1 &&& 51) + (c1 / 4 &&& 51)) ((c2 &&& 51) + (c2 / 4 &&& 51)) ((c3 &&& 51) + (c3 / 4 &&& 51)) := by
  have e1 : by4 c0 c1 c2 c3 / 4 = by4 (c0 / 4 + 64 * (c1 % 4)) (c1 / 4 + 64 * (c2 % 4)) (c2 / 4 + 64 * (c3 % 4)) (c3 / 4) := by unfold by4; omega
  have em : (858993459 : Nat) = by4 51 51 51 51 := by decide
  rw [e1, em, by4_and h0 h1 h2 (by omega) (by omega) (by omega), by4_and (by omega) (by omega) (by omega) (by omega) (by omega) (by omega), pop_b2 c0 h0 _ (by omega), pop_b2 c1 h1 _ (by omega), pop_b2 c2 h2 _ (by omega)]
  unfold by4
  omega
theorem pop_s3 {d0 d1 d2 d3 : Nat} (h0 : d0 ≤ 68) (h1 : d1 ≤ 68) (h2 : d2 ≤ 68) (h3 : d3 ≤ 68) (k1 : d1 % 16 ≤ 4) (k2 : d2 % 16 ≤ 4) (k3 : d3 % 16 ≤ 4) : (by4 d0 d1 d2 d3 + by4 d0 d1 d2 d3 / 16) &&& 252645135 = by4 ((d0 + d0 / 16) % 16) ((d1 + d1 / 16) % 16) ((d2 + d2 / 16) % 16) ((d3 + d3 / 16) % 16) := by
  have e1 : by4 d0 d1 d2 d3 + by4 d0 d1 d2 d3 / 16 = by4 (d0 + d0 / 16 + 16 * (d1 % 16)) (d1 + d1 / 16 + 16 * (d2 % 16)) (d2 + d2 / 16 + 16 * (d3 % 16)) (d3 + d3 / 16) := by unfold by4; omega
  have em : (252645135 : Nat) = by4 15 15 15 15 := by decide
  rw [e1, em, by4_and (by omega) (by omega) (by omega) (by omega) (by omega) (by omega), pop_m15, pop_m15, pop_m15, pop_m15]
  unfold by4
  omega
theorem pop_s4 {p0 p1 p2 p3 : Nat} (h0 : p0 ≤ 8) (h1 : p1 ≤ 8) (h2 : p2 ≤ 8) (h3 : p3 ≤ 8) : by4 p0 p1 p2 p3 + by4 p0 p1 p2 p3 / 256 = by4 (p0 + p1) (p1 + p2) (p2 + p3) p3 := by
  unfold by4; omega
theorem pop_s5 {p0 p1 p2 p3 : Nat} (h0 : p0 ≤ 8) (h1 : p1 ≤ 8) (h2 : p2 ≤ 8) (h3 : p3 ≤ 8) : (by4 (p0 + p1) (p1 + p2) (p2 + p3) p3 + by4 (p0 + p1) (p1 + p2) (p2 + p3) p3 / 65536) % 64 = p0 + p1 + p2 + p3 := by
  have e : by4 (p0 + p1) (p1 + p2) (p2 + p3) p3 / 65536 = (p2 + p3) + 256 * p3 := by unfold by4; omega
  rw [e]
  unfold by4
  omega
def ush (x s : Int32) : Int32 := (x.toUInt32 >>> (s.toUInt32 &&& Int32.toUInt32 31)).toInt32
def j1c (x : Int32) : Int32 := x - (ush x 1 &&& 1431655765)
def j2c (x : Int32) : Int32 := (x &&& 858993459) + (ush x 2 &&& 858993459)
def j3c (x : Int32) : Int32 := (x + ush x 4) &&& 252645135
def j4c (x : Int32) : Int32 := x + ush x 8
def j5c (x : Int32) : Int32 := (x + ush x 16) &&& 63
theorem jbc_eq (x : Int32) : jbc x = j5c (j4c (j3c (j2c (j1c x)))) := rfl
theorem ush_nI {n : Nat} (hn : n < 2 ^ 32) (s : Int32) (k : Nat) (hs : ((s.toUInt32 &&& Int32.toUInt32 31).toBitVec % 32).toNat = k) : ush (nI n) s = nI (n / 2 ^ k) := pk_ushrN hn s k hs
theorem by4_lt {a b c d : Nat} (ha : a < 256) (hb : b < 256) (hc : c < 256) (hd : d < 256) : by4 a b c d < 2 ^ 32 := by unfold by4; omega
theorem jbc_by4 {b0 b1 b2 b3 : Nat} (h0 : b0 < 256) (h1 : b1 < 256) (h2 : b2 < 256) (h3 : b3 < 256) : jbc (nI (by4 b0 b1 b2 b3)) = nI (pcb b0 + pcb b1 + pcb b2 + pcb b3) := by
  have L := by4_lt h0 h1 h2 h3
  have s1 : j1c (nI (by4 b0 b1 b2 b3)) = nI (by4 (p1b b0) (p1b b1) (p1b b2) (p1b b3)) := by
    have q := pop_s1 h0 h1 h2 h3
    unfold j1c
    rw [ush_nI L 1 1 (by decide), show (1431655765 : Int32) = nI 1431655765 by rfl, nI_and (by omega) (by decide), pk_sub q.2]
    exact congrArg nI q.1
  have c : ∀ b, b < 256 → p1b b < 256 := fun b hb => by unfold p1b; omega
  have s2 : j2c (nI (by4 (p1b b0) (p1b b1) (p1b b2) (p1b b3))) = nI (by4 (p2b b0) (p2b b1) (p2b b2) (p2b b3)) := by
    have q := pop_s2 (c b0 h0) (c b1 h1) (c b2 h2) (c b3 h3)
    have L1 := by4_lt (c b0 h0) (c b1 h1) (c b2 h2) (c b3 h3)
    unfold j2c
    rw [ush_nI L1 2 2 (by decide), show (858993459 : Int32) = nI 858993459 by rfl, nI_and L1 (by decide), nI_and (by omega) (by decide), nI_add]
    exact congrArg nI q
  obtain ⟨a01, a02, a03, a04, a05⟩ := pop_b3 b0 h0
  obtain ⟨a11, a12, a13, a14, a15⟩ := pop_b3 b1 h1
  obtain ⟨a21, a22, a23, a24, a25⟩ := pop_b3 b2 h2
  obtain ⟨a31, a32, a33, a34, a35⟩ := pop_b3 b3 h3
  have s3 : j3c (nI (by4 (p2b b0) (p2b b1) (p2b b2) (p2b b3))) = nI (by4 (pcb b0) (pcb b1) (pcb b2) (pcb b3)) := by
    have q := pop_s3 a01 a11 a21 a31 a12 a22 a32
    rw [a04, a14, a24, a34] at q
    have L2 : by4 (p2b b0) (p2b b1) (p2b b2) (p2b b3) < 2 ^ 31 := by unfold by4; omega
    unfold j3c
    rw [ush_nI (by omega) 4 4 (by decide), show (252645135 : Int32) = nI 252645135 by rfl, nI_add, nI_and (by omega) (by decide)]
    exact congrArg nI q
  have s4 : j4c (nI (by4 (pcb b0) (pcb b1) (pcb b2) (pcb b3))) = nI (by4 (pcb b0 + pcb b1) (pcb b1 + pcb b2) (pcb b2 + pcb b3) (pcb b3)) := by
    have q := pop_s4 a05 a15 a25 a35
    have L2 : by4 (pcb b0) (pcb b1) (pcb b2) (pcb b3) < 2 ^ 31 := by unfold by4; omega
    unfold j4c
    rw [ush_nI (by omega) 8 8 (by decide), nI_add]
    exact congrArg nI q
  have s5 : j5c (nI (by4 (pcb b0 + pcb b1) (pcb b1 + pcb b2) (pcb b2 + pcb b3) (pcb b3))) = nI (pcb b0 + pcb b1 + pcb b2 + pcb b3) := by
    have q := pop_s5 a05 a15 a25 a35
    have L2 : by4 (pcb b0 + pcb b1) (pcb b1 + pcb b2) (pcb b2 + pcb b3) (pcb b3) < 2 ^ 31 := by unfold by4; omega
    unfold j5c
    rw [ush_nI (by omega) 16 16 (by decide), nI_add, pk_andN (by omega) 6 (by decide)]
    exact congrArg nI q
  rw [jbc_eq, s1, s2, s3, s4, s5]
theorem cntB_congr {p q : Nat → Bool} : ∀ (n : Nat), (∀ i, i < n → p i = q i) → cntB p n = cntB q n
  | 0, _ => rfl
  | n + 1, h => by
    unfold cntB
    rw [cntB_congr n (fun i hi => h i (by omega)), h n (by omega)]
theorem cntB_addB (p : Nat → Bool) (a : Nat) : ∀ (n : Nat), cntB p (a + n) = cntB p a + cntB (fun i => p (a + i)) n
  | 0 => rfl
  | n + 1 => by
    rw [show a + (n + 1) = (a + n) + 1 by omega]
    show cntB p (a + n) + (if p (a + n) = true then 1 else 0) = cntB p a + (cntB (fun i => p (a + i)) n + (if p (a + n) = true then 1 else 0))
    rw [cntB_addB p a n, Nat.add_assoc]
/-- the formula counts the bits -/
theorem jbc_cnt (x : Int32) : jbc x = nI (cntB (bt x) 32) := by
  have hX : x.toBitVec.toNat < 2 ^ 32 := x.toBitVec.isLt
  have hx : x = nI x.toBitVec.toNat := by
    apply Int32.toBitVec_inj.mp
    apply BitVec.eq_of_toNat_eq
    rw [pk_tn hX]
  have hb : ∀ i, bt x i = x.toBitVec.toNat.testBit i := fun i => rfl
  have hX4 : x.toBitVec.toNat = by4 (x.toBitVec.toNat % 256) (x.toBitVec.toNat / 256 % 256) (x.toBitVec.toNat / 65536 % 256) (x.toBitVec.toNat / 16777216) := by unfold by4; omega
  have hj := jbc_by4 (b0 := x.toBitVec.toNat % 256) (b1 := x.toBitVec.toNat / 256 % 256) (b2 := x.toBitVec.toNat / 65536 % 256) (b3 := x.toBitVec.toNat / 16777216) (by omega) (by omega) (by omega) (by omega)
  rw [← hX4, ← hx] at hj
  rw [hj]
  congr 1
  have e1 : cntB (bt x) 32 = _ := cntB_addB (bt x) 8 24
  have e2 : cntB (fun i => bt x (8 + i)) 24 = _ := cntB_addB (fun i => bt x (8 + i)) 8 16
  have e3 : cntB (fun i => bt x (8 + (8 + i))) 16 = _ := cntB_addB (fun i => bt x (8 + (8 + i))) 8 8
  have t0 : ∀ i, i < 8 → (x.toBitVec.toNat % 256).testBit i = bt x i := fun i hi => by
    rw [hb, show (256 : Nat) = 2 ^ 8 from rfl, Nat.testBit_mod_two_pow, decide_eq_true hi, Bool.true_and]
  have t1 : ∀ i, i < 8 → (x.toBitVec.toNat / 256 % 256).testBit i = bt x (8 + i) := fun i hi => by
    rw [hb, show (256 : Nat) = 2 ^ 8 from rfl, Nat.testBit_mod_two_pow, decide_eq_true hi, Bool.true_and, Nat.testBit_div_two_pow, Nat.add_comm i 8]
  have t2 : ∀ i, i < 8 → (x.toBitVec.toNat / 65536 % 256).testBit i = bt x (8 + (8 + i)) := fun i hi => by
    rw [hb, show (256 : Nat) = 2 ^ 8 from rfl, show (65536 : Nat) = 2 ^ 16 from rfl, Nat.testBit_mod_two_pow, decide_eq_true hi, Bool.true_and, Nat.testBit_div_two_pow, show i + 16 = 8 + (8 + i) by omega]
  have t3 : ∀ i, i < 8 → (x.toBitVec.toNat / 16777216).testBit i = bt x (8 + (8 + (8 + i))) := fun i hi => by
    rw [hb, show (16777216 : Nat) = 2 ^ 24 from rfl, Nat.testBit_div_two_pow, show i + 24 = 8 + (8 + (8 + i)) by omega]
  unfold pcb
  rw [cntB_congr 8 t0, cntB_congr 8 t1, cntB_congr 8 t2, cntB_congr 8 t3]
  rw [e1, e2, e3]
  omega
theorem cntB_none {p : Nat → Bool} (a : Nat) : ∀ (n : Nat), (∀ i, a ≤ i → p i = false) → cntB p (a + n) = cntB p a
  | 0, _ => rfl
  | n + 1, h => by
    rw [show a + (n + 1) = (a + n) + 1 by omega]
    show cntB p (a + n) + _ = _
    rw [cntB_none a n h, h (a + n) (by omega), if_neg (by decide), Nat.add_zero]
theorem S_nus_cnt {g : Mem} {w : Nat} {p : Nat → Bool} : ∀ (n : Nat), (∀ i, i < n → (p i = true ↔ S_uses g i w)) → cntB p n = S_nus g w n
  | 0, _ => rfl
  | n + 1, h => by
    show cntB p n + (if p n = true then 1 else 0) = S_nus g w n + (if g 50 n = nI w ∨ g 51 n = nI w ∨ g 52 n = nI w then 1 else 0)
    rw [S_nus_cnt n (fun i hi => h i (by omega))]
    have := h n (by omega)
    unfold S_uses at this
    by_cases e : p n = true
    · rw [if_pos e, if_pos (this.mp e)]
    · rw [if_neg e, if_neg (fun q => e (this.mpr q))]
theorem users_pop {m g : Mem} {n w : Nat} (hcc : CC m g n) (hw : w < 24) : jbc (m 11 w) = nI (S_nus g w n) := by
  have hn := hcc.1
  have h4 := hcc.2.2.2.1 w hw
  rw [jbc_cnt]
  congr 1
  rw [show (32 : Nat) = n + (32 - n) by omega, cntB_none, S_nus_cnt]
  · exact fun i hi => ⟨fun q => ((h4 i (by omega)).mp q).2, fun q => (h4 i (by omega)).mpr ⟨hi, q⟩⟩
  · intro i hi
    by_cases h32 : i < 32
    · cases hb : bt (m 11 w) i
      · rfl
      · exact absurd ((h4 i h32).mp hb).1 (by omega)
    · unfold bt
      exact BitVec.getLsbD_of_ge _ _ (by omega)
section CASES15
variable {j : Nat} {m : Mem} {o : Nat → Int64}
end CASES15
