/-! the mean: no NaN -/
theorem b64_t : FP.Core.b64.tails = 4503599627370496 := by decide
theorem b64_e : FP.Core.b64.exps = 2048 := by decide
theorem b64_q1 : FP.Core.b64.qmin = -1074 := by decide
theorem b64_q2 : FP.Core.b64.qmax = 971 := by decide
theorem enc_asm {s : Bool} {e t : Nat} (he : e < 2047) (ht : t < 4503599627370496) : FP.Core.assemble FP.Core.b64 s e t % 9223372036854775808 ≤ 9218868437227405312 := by
  unfold FP.Core.assemble
  rw [b64_t, b64_e]
  cases s
  · rw [Bool.toNat_false]; omega
  · rw [Bool.toNat_true]; omega
theorem enc_inf {s : Bool} : FP.Core.encode FP.Core.b64 (.inf s) % 9223372036854775808 ≤ 9218868437227405312 := by
  cases s <;> decide
theorem enc_fin {s : Bool} {c : Nat} {q : Int} (hc : c < 9007199254740992) (h1 : FP.Core.b64.qmin ≤ q) (h2 : q ≤ FP.Core.b64.qmax) : FP.Core.encode FP.Core.b64 (.fin s c q) % 9223372036854775808 ≤ 9218868437227405312 := by
  rw [b64_q1] at h1
  rw [b64_q2] at h2
  show (if c < FP.Core.b64.tails then FP.Core.assemble FP.Core.b64 s 0 c else FP.Core.assemble FP.Core.b64 s ((q - FP.Core.b64.qmin).toNat + 1) (c - FP.Core.b64.tails)) % _ ≤ _
  rw [b64_t, b64_q1]
  split
  · exact enc_asm (by omega) (by omega)
  · exact enc_asm (by omega) (by omega)
theorem enc_bound {s : Bool} {c : Nat} {q : Int} (hc : c < 9007199254740992) (h1 : FP.Core.b64.qmin ≤ q) : FP.Core.encode FP.Core.b64 (FP.Core.bound FP.Core.b64 s c q) % 9223372036854775808 ≤ 9218868437227405312 := by
  unfold FP.Core.bound
  split
  · exact enc_fin hc h1 (by assumption)
  · exact enc_inf
theorem enc_round (s : Bool) (A B : Nat) (e : Int) : FP.Core.encode FP.Core.b64 (FP.Core.roundRatio FP.Core.b64 s A B e) % 9223372036854775808 ≤ 9218868437227405312 := by
  have hq : FP.Core.b64.qmin ≤ FP.Core.quantum FP.Core.b64 A B e := Int.le_max_left _ _
  unfold FP.Core.roundRatio
  split
  · exact enc_fin (by decide) (Int.le_refl _) (by decide)
  · unfold FP.Core.roundAt FP.Core.settle
    split
    · next h => exact enc_bound h hq
    · exact enc_bound (by rw [b64_t]; decide) (by omega)
theorem dec_ne {x : Nat} (h : x % 9223372036854775808 ≤ 9218868437227405312) : ¬ FP.Core.decode FP.Core.b64 x = .nan := by
  unfold FP.Core.decode FP.Core.fieldE FP.Core.fieldT
  rw [b64_t, b64_e]
  split
  · split
    · intro hh; cases hh
    · omega
  · split
    · intro hh; cases hh
    · intro hh; cases hh
def finNZ : FP.Core.Datum → Bool
  | .fin _ c _ => !(c == 0)
  | _ => false
theorem den_ok : ∀ c, c < 25 → 0 < c → finNZ (FP.Core.decode FP.Core.b64 (FP.i2d (nI c)).toNat) = true := by decide +kernel
theorem quo_ok {x y : FP.Core.Datum} (hx : ¬ x = .nan) (hy : finNZ y = true) : FP.Core.encode FP.Core.b64 (FP.Core.quotient FP.Core.b64 x y) % 9223372036854775808 ≤ 9218868437227405312 := by
  cases y with
  | nan => cases hy
  | inf t => cases hy
  | fin t d r =>
    have hd : ¬ d = 0 := by
      intro e
      subst e
      cases hy
    cases x with
    | nan => exact absurd rfl hx
    | inf s => exact enc_inf
    | fin s c q =>
      show FP.Core.encode FP.Core.b64 (if d = 0 then (if c = 0 then .nan else .inf (s != t)) else FP.Core.roundRatio FP.Core.b64 (s != t) c d (q - r)) % _ ≤ _
      rw [if_neg hd]
      exact enc_round _ _ _ _
theorem dv_ok (v : Int32) {c : Nat} (h0 : 0 < c) (hc : c < 25) : vf_n64 (FP.ddiv (FP.i2d v) (FP.i2d (nI c))) := by
  have hB := den_ok c hc h0
  have hA : ¬ FP.Core.decode FP.Core.b64 (FP.i2d v).toNat = .nan := by
    refine dec_ne ?_
    show (UInt64.ofNat (FP.Core.fromInt FP.Core.b64 v.toInt)).toNat % _ ≤ _
    rw [UInt64.toNat_ofNat']
    have h1 := enc_round (decide (v.toInt < 0)) v.toInt.natAbs 1 0
    have h2 : FP.Core.fromInt FP.Core.b64 v.toInt = FP.Core.encode FP.Core.b64 (FP.Core.roundRatio FP.Core.b64 (decide (v.toInt < 0)) v.toInt.natAbs 1 0) := rfl
    rw [h2]
    omega
  have hD : FP.Core.div FP.Core.b64 (FP.i2d v).toNat (FP.i2d (nI c)).toNat % 9223372036854775808 ≤ 9218868437227405312 := quo_ok hA hB
  show UInt64.ofNat (FP.Core.div FP.Core.b64 (FP.i2d v).toNat (FP.i2d (nI c)).toNat) &&& 0x7fffffffffffffff ≤ 0x7ff0000000000000
  rw [UInt64.le_iff_toNat_le, UInt64.toNat_and, UInt64.toNat_ofNat']
  have h63 : ∀ a : Nat, a &&& 9223372036854775807 = a % 9223372036854775808 := fun a => Nat.and_two_pow_sub_one_eq_mod a 63
  show _ &&& 9223372036854775807 ≤ 9218868437227405312
  rw [h63]
  omega
/-! the mean -/
def S_mnL (g : Mem) (n : Nat) (A : Nat → Int32) : Nat → Nat → Int32 → Nat → Int32 × Nat
  | 0, _, s, c => (s, c)
  | r + 1, w, s, c => if S_drv g n w = -1 then S_mnL g n A r (w + 1) s c else if A w = -1 then S_mnL g n A r (w + 1) s c else S_mnL g n A r (w + 1) (s + A w) (c + 1)
theorem S_mnL_le {g : Mem} {n : Nat} {A : Nat → Int32} : ∀ (r w : Nat) (s : Int32) (c : Nat), (S_mnL g n A r w s c).2 ≤ c + r
  | 0, _, _, c => Nat.le_refl c
  | r + 1, w, s, c => by
    unfold S_mnL
    split
    · have := S_mnL_le (g := g) (n := n) (A := A) r (w + 1) s c; omega
    · split
      · have := S_mnL_le (g := g) (n := n) (A := A) r (w + 1) s c; omega
      · have := S_mnL_le (g := g) (n := n) (A := A) r (w + 1) (s + A w) (c + 1); omega
section MEAN
variable {m g : Mem} {n : Nat} {A : Nat → Int32}
theorem drivers_0 {w : Nat} (hcc : CC m g n) (hw : w < 24) : m 12 w ≤ 0 ↔ S_drv g n w = -1 := by
  have hn := hcc.1
  have hle := S_ndr_le g w n
  rw [hcc.2.2.2.2.1 w hw, drv_0 hn]
  constructor
  · intro h
    rcases Nat.eq_zero_or_pos (S_ndr g w n) with e | e
    · exact e
    · exact absurd h (nI_nle e (by omega))
  · intro h
    rw [h]; decide
theorem s_N_meanL {E : Int32 → Int32 → Int32 → Mem → Prop} {K : UInt64 → Mem → Prop} (hcc : CC m g n) (hA : ∀ w, w < 24 → m 20 w = A w) : ∀ (r w f : Nat) (s : Int32) (c : Nat), w + r = 24 → r < f →
    E (S_mnL g n A r w s c).1 (nI (S_mnL g n A r w s c).2) (nI 24) m → w_N_meanArrival_6 f s (nI c) (nI w) m E K := by
  intro r
  induction r with
  | zero =>
    intro w f s c hw hf hE
    have e : w = 24 := by omega
    subst e
    obtain ⟨f, rfl⟩ : ∃ q, f = q + 1 := ⟨f - 1, by omega⟩
    unfold w_N_meanArrival_6
    exact ⟨fun _ => hE, fun h => absurd (show (24 : Int32) ≤ nI 24 by decide) h⟩
  | succ r ih =>
    intro w f s c hw hf hE
    obtain ⟨f, rfl⟩ : ∃ q, f = q + 1 := ⟨f - 1, by omega⟩
    have hd := drivers_0 hcc (w := w) (by omega)
    unfold w_N_meanArrival_6
    unfold S_mnL at hE
    rw [nI_clamp (by omega), hA w (by omega), nA1, nA1]
    refine ⟨fun h => absurd ((nI_le24 (by omega)).mp h) (by omega), fun _ => ⟨vp_in_nI (by omega) (by decide), fun h => ?_, fun h => ⟨vp_in_nI (by omega) (by decide), fun e => ?_, fun ne => ⟨vp_in_nI (by omega) (by decide), ?_⟩⟩⟩⟩
    · rw [if_pos (hd.mp h)] at hE; exact ih (w + 1) f s c (by omega) (by omega) hE
    · rw [if_neg (fun q => h (hd.mpr q)), if_pos e] at hE; exact ih (w + 1) f s c (by omega) (by omega) hE
    · rw [if_neg (fun q => h (hd.mpr q)), if_neg ne] at hE; exact ih (w + 1) f (s + A w) (c + 1) (by omega) (by omega) hE
theorem s_M_meanL {E : Int32 → Int32 → Int32 → Mem → Prop} {K : UInt64 → Mem → Prop} (hc : MC m g n) (hA : ∀ w, w < 24 → m 58 w = A w) : ∀ (r w f : Nat) (s : Int32) (c : Nat), w + r = 24 → r < f →
    E (S_mnL g n A r w s c).1 (nI (S_mnL g n A r w s c).2) (nI 24) m → w_M_meanArrival_15 f s (nI c) (nI w) m E K := by
  intro r
  induction r with
  | zero =>
    intro w f s c hw hf hE
    have e : w = 24 := by omega
    subst e
    obtain ⟨f, rfl⟩ : ∃ q, f = q + 1 := ⟨f - 1, by omega⟩
    unfold w_M_meanArrival_15
    exact ⟨fun _ => hE, fun h => absurd (show (24 : Int32) ≤ nI 24 by decide) h⟩
  | succ r ih =>
    intro w f s c hw hf hE
    obtain ⟨f, rfl⟩ : ∃ q, f = q + 1 := ⟨f - 1, by omega⟩
    unfold w_M_meanArrival_15
    unfold S_mnL at hE
    refine ⟨fun h => absurd ((nI_le24 (by omega)).mp h) (by omega), fun _ => p_M_driver hc ⟨fun h => ?_, fun h => ?_⟩⟩
    · rw [if_pos h] at hE; rw [nA1]; exact ih (w + 1) f s c (by omega) (by omega) hE
    · rw [if_neg h] at hE
      rw [nI_clamp (by omega), hA w (by omega), nA1, nA1]
      refine ⟨vp_in_nI (by omega) (by decide), fun ne => ⟨vp_in_nI (by omega) (by decide), ?_⟩, fun e => ?_⟩
      · rw [if_neg ne] at hE; exact ih (w + 1) f (s + A w) (c + 1) (by omega) (by omega) hE
      · rw [if_pos e] at hE; exact ih (w + 1) f s c (by omega) (by omega) hE
end MEAN
section CASES16
variable {j : Nat} {m : Mem} {o : Nat → Int64}
theorem mean_end {r : UInt64} {P : Prop} (hP : P) : (((Op.cmpValue (FP.dcmp r r) .l) = 0 → P) ∧ (¬ ((Op.cmpValue (FP.dcmp r r) .l) = 0) → (((Op.cmpValue (FP.dcmp r r) .l) = 0 → False) ∧ (¬ ((Op.cmpValue (FP.dcmp r r) .l) = 0) → ((¬ ((Op.cmpValue (FP.dcmp r r) .l) = 0) → P) ∧ ((Op.cmpValue (FP.dcmp r r) .l) = 0 → False)))))) :=
  ⟨fun _ => hP, fun n1 => ⟨fun e => n1 e, fun _ => ⟨fun _ => hP, fun e => n1 e⟩⟩⟩
theorem case_26 (h : Inv j m) : wc_26 o m (fun _ m2 => Inv (j + 1) m2) := by
  obtain ⟨g, n, h⟩ := h
  have hA := h.2.2.2.2.2.2.2.2.2.2.2.1
  have c1 : MC (up2 m 47 0 0) g n := h.1.thr
  have hle := S_mnL_le (g := g) (n := n) (A := AR g n (g 53)) 24 0 0 0
  unfold wc_26 w_N_meanArrival w_M_meanArrival
  refine s_N_meanL (c := 0) h.2.1 hA 24 0 25 0 (by omega) (by omega) ⟨fun ne => ⟨?_, ?_⟩, fun e => ?_⟩
  · refine dv_ok _ ?_ (by omega)
    rcases Nat.eq_zero_or_pos (S_mnL g n (AR g n (g 53)) 24 0 0 0).2 with e | e
    · rw [e] at ne; exact absurd rfl ne
    · exact e
  · intro m1 em
    subst em
    refine p_M_tellArrivals c1 h.2.2.1 h.2.2.2.1 fun m2 f2 A2 => ?_
    refine s_M_meanL (c := 0) (c1.ft f2) A2 24 0 25 0 (by omega) (by omega) ⟨fun _ => ⟨?_, ?_⟩, fun e => absurd e ne⟩
    · refine dv_ok _ ?_ (by omega)
      rcases Nat.eq_zero_or_pos (S_mnL g n (AR g n (g 53)) 24 0 0 0).2 with e | e
      · rw [e] at ne; exact absurd rfl ne
      · exact e
    · exact mean_end ⟨g, n, h.same (by omega) (SM.thrown.trans (SM.ft f2))⟩
  · intro m1 em
    subst em
    refine p_M_tellArrivals c1 h.2.2.1 h.2.2.2.1 fun m2 f2 A2 => ?_
    refine s_M_meanL (c := 0) (c1.ft f2) A2 24 0 25 0 (by omega) (by omega) ⟨fun ne => absurd e ne, fun _ => ?_⟩
    exact mean_end ⟨g, n, h.same (by omega) (SM.thrown.trans (SM.ft f2))⟩
end CASES16
