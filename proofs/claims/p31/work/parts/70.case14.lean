/-! the case that adds a gate -/
def GW (p1 p2 p3 p4 p5 : Int32) : Prop := isW p2 ∧ isW p3 ∧ (¬ p1 < 2 → isW p4) ∧ (p1 = 7 → isW p5)
def KD (p1 p6 : Int32) : Prop := (∃ k : Nat, k < 8 ∧ p1 = nI k) ∧ (∃ d : Nat, d ≤ 20 ∧ p6 = nI d)
theorem within20 {p : Int32} {m : Mem} {K : Int32 → Mem → Prop} (h1 : (∃ k : Nat, k ≤ 20 ∧ p = nI k) → K 1 m) (h0 : ¬ (∃ k : Nat, k ≤ 20 ∧ p = nI k) → K 0 m) : w_N_isWithin p 20 m K :=
  s_within (fun a b => h1 (in0k (n := 20) rfl (by decide) a b)) (fun hb => h0 fun ⟨k, hk, e⟩ => by rw [e] at hb; exact absurd hb (out_hi (n := 20) rfl (by decide) hk))
section CASES14
variable {j n : Nat} {m g : Mem} {o : Nat → Int64} {p1 p2 p3 p4 p5 p6 : Int32}
theorem s_N_addGate {K : Int32 → Mem → Prop} {X : String → Mem → Prop} (hcc : CC m g n) (h1 : ¬ KD p1 p6 → X "java/lang/IllegalArgumentException" m) (h2 : KD p1 p6 → ¬ GW p1 p2 p3 p4 p5 → X "java/lang/IndexOutOfBoundsException" m)
    (h3 : KD p1 p6 → GW p1 p2 p3 p4 p5 → ¬ n < 30 → X "java/lang/IllegalStateException" m) (h4 : KD p1 p6 → GW p1 p2 p3 p4 p5 → n < 30 → w_N_addLine p1 p2 p3 (if p1 < 2 then p3 else p4) (if p1 = 7 then p5 else p3) p6 m K) : w_N_gate p1 p2 p3 p4 p5 p6 m K X := by
  have hn := hcc.1
  unfold w_N_gate w_N_checkDelay w_N_checkRoom
  refine ⟨fun lt => h1 (fun hh => ?_), fun ge => ⟨fun le => within20 (fun hd => ⟨fun _ => ?_, fun e => absurd e (by decide)⟩) (fun hd => ⟨fun e => absurd rfl e, fun _ => h1 (fun hh => hd hh.2)⟩), fun nle => h1 (fun hh => ?_)⟩⟩
  · obtain ⟨⟨k, hk, rfl⟩, -⟩ := hh
    exact nI_pos (show k < 2 ^ 31 by omega) lt
  · have kd : KD p1 p6 := ⟨by obtain ⟨k, hk, e⟩ := nI_of2 (M := 7) (n := 7) (by decide) ge le; exact ⟨k, by omega, e⟩, hd⟩
    intro J hJ
    suffices q : J (if p1 < 2 then p3 else p4) m by
      refine ⟨fun lt => ?_, fun nlt => ?_⟩
      · rw [if_pos lt] at q; exact q
      · rw [if_neg nlt] at q; exact q
    refine hJ _ _ fun J2 hJ2 => ?_
    suffices q : J2 (if p1 = 7 then p5 else p3) m by
      refine ⟨fun n7 => ?_, fun e7 => ?_⟩
      · rw [if_neg n7] at q; exact q
      · rw [if_pos e7] at q; exact q
    refine hJ2 _ _ ?_
    refine s_N_checkWire (fun w hw e2 => ?_) (fun no => h2 kd fun hh => no hh.1)
    refine s_N_checkWire (fun w3 hw3 e3 => ?_) (fun no => h2 kd fun hh => no hh.2.1)
    refine s_N_checkWire (fun w4 hw4 e4 => ?_) (fun no => h2 kd fun hh => ?_)
    · refine s_N_checkWire (fun w5 hw5 e5 => ?_) (fun no => h2 kd fun hh => ?_)
      · have W : GW p1 p2 p3 p4 p5 := ⟨⟨w, hw, e2⟩, ⟨w3, hw3, e3⟩, fun hk => ⟨w4, hw4, by rw [if_neg hk] at e4; exact e4⟩, fun hk => ⟨w5, hw5, by rw [if_pos hk] at e5; exact e5⟩⟩
        show (m 2 11 < 30 → _) ∧ (¬ m 2 11 < 30 → _)
        rw [hcc.2.1]
        exact ⟨fun lt => h4 kd W ((nI_lt30 hn).mp lt), fun nlt => h3 kd W (fun lt => nlt ((nI_lt30 hn).mpr lt))⟩
      · by_cases h7 : p1 = 7
        · rw [if_pos h7] at no; exact no (hh.2.2.2 h7)
        · rw [if_neg h7] at no; exact no hh.2.1
    · by_cases h7 : p1 < 2
      · rw [if_pos h7] at no; exact no hh.2.1
      · rw [if_neg h7] at no; exact no (hh.2.2.1 h7)
  · obtain ⟨⟨k, hk, rfl⟩, -⟩ := hh
    exact nle ((nI_leI (b := 7) (by omega) (by decide)).mpr (by omega))
end CASES14
section CASES14b
variable {j : Nat} {m : Mem} {o : Nat → Int64}
end CASES14b
