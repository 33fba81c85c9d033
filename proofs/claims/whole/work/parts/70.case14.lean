/-! the case that adds a gate -/
def GW (p1 p2 p3 p4 p5 : Int32) : Prop := isW p2 ∧ isW p3 ∧ (¬ p1 < 2 → isW p4) ∧ (p1 = 7 → isW p5)
def KD (p1 p6 : Int32) : Prop := (∃ k : Nat, k < 8 ∧ p1 = nI k) ∧ (∃ d : Nat, d ≤ 20 ∧ p6 = nI d)
theorem isIn7 {p : Int32} {m : Mem} {K : Int32 → Mem → Prop} (h1 : (∃ k : Nat, k < 8 ∧ p = nI k) → K 1 m) (h0 : ¬ (∃ k : Nat, k < 8 ∧ p = nI k) → K 0 m) : w_M_isIn p 0 7 m K :=
  s_isIn (fun a b => h1 (by obtain ⟨k, hk, e⟩ := in0k (n := 7) rfl (by decide) a b; exact ⟨k, by omega, e⟩)) (fun hb => h0 fun ⟨k, hk, e⟩ => by rw [e] at hb; exact absurd hb (out_hi (n := 7) rfl (by decide) (by omega)))
theorem isIn20 {p : Int32} {m : Mem} {K : Int32 → Mem → Prop} (h1 : (∃ k : Nat, k ≤ 20 ∧ p = nI k) → K 1 m) (h0 : ¬ (∃ k : Nat, k ≤ 20 ∧ p = nI k) → K 0 m) : w_M_isIn p 0 20 m K :=
  s_isIn (fun a b => h1 (in0k (n := 20) rfl (by decide) a b)) (fun hb => h0 fun ⟨k, hk, e⟩ => by rw [e] at hb; exact absurd hb (out_hi (n := 20) rfl (by decide) hk))
theorem within20 {p : Int32} {m : Mem} {K : Int32 → Mem → Prop} (h1 : (∃ k : Nat, k ≤ 20 ∧ p = nI k) → K 1 m) (h0 : ¬ (∃ k : Nat, k ≤ 20 ∧ p = nI k) → K 0 m) : w_N_isWithin p 20 m K :=
  s_within (fun a b => h1 (in0k (n := 20) rfl (by decide) a b)) (fun hb => h0 fun ⟨k, hk, e⟩ => by rw [e] at hb; exact absurd hb (out_hi (n := 20) rfl (by decide) hk))
section CASES14
variable {j n : Nat} {m g : Mem} {o : Nat → Int64} {p1 p2 p3 p4 p5 p6 : Int32}
theorem s_N_addGate {K : Int32 → Mem → Prop} {X : String → Mem → Prop} (hcc : CC m g n) (h1 : ¬ KD p1 p6 → X "java/lang/IllegalArgumentException" m) (h2 : KD p1 p6 → ¬ GW p1 p2 p3 p4 p5 → X "java/lang/IndexOutOfBoundsException" m)
    (h3 : KD p1 p6 → GW p1 p2 p3 p4 p5 → ¬ n < 30 → X "java/lang/IllegalStateException" m) (h4 : KD p1 p6 → GW p1 p2 p3 p4 p5 → n < 30 → w_N_addLine p1 p2 p3 (if p1 < 2 then p3 else p4) (if p1 = 7 then p5 else p3) p6 m K) : w_N_gate p1 p2 p3 p4 p5 p6 m K X := by
  have hn := hcc.1
  unfold w_N_gate w_N_checkDelay w_N_checkRoom
  refine ⟨fun lt => h1 (fun hh => ?_), fun ge => ⟨fun le => within20 (fun hd => ⟨fun _ => ?_, fun e => absurd e (by decide)⟩) (fun hd => ⟨fun e => absurd rfl e, fun _ => h1 (fun hh => hd hh.2)⟩), fun nle => h1 (fun hh => ?_)⟩⟩
  · obtain ⟨⟨k, hk, rfl⟩, -⟩ := hh
    exact nI_pos (show k < 2 ^ 31 by omega) lt
  · have kd : KD p1 p6 := ⟨by obtain ⟨k, hk, e⟩ := nI_of2 (M := 7) (n := 7) (by decide) ge le; exact ⟨k, by omega, e⟩, hd⟩
    intro J hJ
    suffices q : J (if p1 < 2 then p3 else p4) m by
      refine ⟨fun lt => ?_, fun nlt => ?_⟩
      · rw [if_pos lt] at q; exact q
      · rw [if_neg nlt] at q; exact q
    refine hJ _ _ fun J2 hJ2 => ?_
    suffices q : J2 (if p1 = 7 then p5 else p3) m by
      refine ⟨fun n7 => ?_, fun e7 => ?_⟩
      · rw [if_neg n7] at q; exact q
      · rw [if_pos e7] at q; exact q
    refine hJ2 _ _ ?_
    refine s_N_checkWire (fun w hw e2 => ?_) (fun no => h2 kd fun hh => no hh.1)
    refine s_N_checkWire (fun w3 hw3 e3 => ?_) (fun no => h2 kd fun hh => no hh.2.1)
    refine s_N_checkWire (fun w4 hw4 e4 => ?_) (fun no => h2 kd fun hh => ?_)
    · refine s_N_checkWire (fun w5 hw5 e5 => ?_) (fun no => h2 kd fun hh => ?_)
      · have W : GW p1 p2 p3 p4 p5 := ⟨⟨w, hw, e2⟩, ⟨w3, hw3, e3⟩, fun hk => ⟨w4, hw4, by rw [if_neg hk] at e4; exact e4⟩, fun hk => ⟨w5, hw5, by rw [if_pos hk] at e5; exact e5⟩⟩
        show (m 2 11 < 30 → _) ∧ (¬ m 2 11 < 30 → _)
        rw [hcc.2.1]
        exact ⟨fun lt => h4 kd W ((nI_lt30 hn).mp lt), fun nlt => h3 kd W (fun lt => nlt ((nI_lt30 hn).mpr lt))⟩
      · by_cases h7 : p1 = 7
        · rw [if_pos h7] at no; exact no (hh.2.2.2 h7)
        · rw [if_neg h7] at no; exact no hh.2.1
    · by_cases h7 : p1 < 2
      · rw [if_pos h7] at no; exact no hh.2.1
      · rw [if_neg h7] at no; exact no (hh.2.2.1 h7)
  · obtain ⟨⟨k, hk, rfl⟩, -⟩ := hh
    exact nle ((nI_leI (b := 7) (by omega) (by decide)).mpr (by omega))
theorem s_M_many {k : Nat} {K : Int32 → Mem → Prop} (hk : k < 8) (hK : ∀ r : Int32, (r ≤ 1 ↔ nI k < 2) → (r ≤ 2 ↔ ¬ nI k = 7) → K r m) : w_M_many (nI k) m K := by
  have : k = 0 ∨ k = 1 ∨ k = 2 ∨ k = 3 ∨ k = 4 ∨ k = 5 ∨ k = 6 ∨ k = 7 := by omega
  unfold w_M_many
  rcases this with rfl | rfl | rfl | rfl | rfl | rfl | rfl | rfl <;> exact ⟨fun a => ⟨fun b => by first | exact absurd a (by decide) | exact absurd b (by decide) | exact hK _ (by decide) (by decide), fun b => by first | exact absurd a (by decide) | exact absurd b (by decide) | exact hK _ (by decide) (by decide)⟩, fun a => by first | exact absurd a (by decide) | exact hK _ (by decide) (by decide)⟩
theorem s_M_addGate {K : Int32 → Mem → Prop} (hc : MC (up2 m 47 0 0) g n) (h1 : ¬ KD p1 p6 → w_M_no 1 (up2 m 47 0 0) K) (h2 : KD p1 p6 → ¬ GW p1 p2 p3 p4 p5 → w_M_no 2 (up2 m 47 0 0) K)
    (h3 : KD p1 p6 → GW p1 p2 p3 p4 p5 → ¬ n < 30 → w_M_no 3 (up2 m 47 0 0) K) (h4 : KD p1 p6 → GW p1 p2 p3 p4 p5 → n < 30 → w_M_add p1 p2 p3 (if p1 < 2 then -1 else p4) (if p1 = 7 then p5 else -1) p6 (up2 m 47 0 0) K) : w_M_gate p1 p2 p3 p4 p5 p6 m K := by
  have hn := hc.1
  unfold w_M_gate
  intro m1 em
  subst em
  refine isIn7 (fun hk => ⟨fun e => absurd e (by decide), fun _ => isIn20 (fun hd => ⟨fun _ => ?_, fun e => absurd e (by decide)⟩) (fun no => ⟨fun e => absurd rfl e, fun _ => h1 fun hh => no hh.2⟩)⟩) (fun no => ⟨fun _ => h1 fun hh => no hh.1, fun e => absurd rfl e⟩)
  have kd : KD p1 p6 := ⟨hk, hd⟩
  obtain ⟨k, hk8, ek⟩ := hk
  rw [ek]
  refine s_M_many hk8 fun r r1 r2 => ?_
  rw [← ek] at r1 r2
  rw [← ek]
  refine s_M_isWire (fun w hw e2 => ⟨fun e => absurd e (by decide), fun _ => ?_⟩) (fun no => ⟨fun _ => h2 kd (fun hh => no hh.1), fun e => absurd rfl e⟩)
  refine s_M_isWire (fun w3 hw3 e3 => ⟨fun e => absurd e (by decide), fun _ => ?_⟩) (fun no => ⟨fun _ => h2 kd (fun hh => no hh.2.1), fun e => absurd rfl e⟩)
  intro J hJ
  have jA : (¬ p1 < 2 → isW p4) → J (up2 m 47 0 0) := by
    intro i4
    refine hJ _ fun J2 hJ2 => ?_
    have jB : (p1 = 7 → isW p5) → J2 (up2 m 47 0 0) := by
      intro i5
      have W : GW p1 p2 p3 p4 p5 := ⟨⟨w, hw, e2⟩, ⟨w3, hw3, e3⟩, i4, i5⟩
      refine hJ2 _ ?_
      rw [hc.2.1]
      refine ⟨fun ne => ?_, fun e => h3 kd W ((nI_ne30 hn).mp e)⟩
      intro J3 hJ3
      have hlt : n < 30 := by
        by_cases h : n < 30
        · exact h
        · exact absurd ((nI_ne30 hn).mpr h) ne
      have q := h4 kd W hlt
      have j3 : J3 (if p1 < 2 then -1 else p4) (up2 m 47 0 0) := hJ3 _ _ ⟨fun le => by rw [if_neg (r2.mp le)] at q; exact q, fun nle => by
        by_cases h7 : p1 = 7
        · rw [if_pos h7] at q; exact q
        · exact absurd (r2.mpr h7) nle⟩
      exact ⟨fun le => by rw [if_pos (r1.mp le)] at j3; exact j3, fun nle => by
        by_cases h7 : p1 < 2
        · exact absurd (r1.mpr h7) nle
        · rw [if_neg h7] at j3; exact j3⟩
    exact ⟨fun le => jB fun h => absurd h (r2.mp le), fun nle => s_M_isWire (fun w5 hw5 e5 => ⟨fun _ => jB fun _ => ⟨w5, hw5, e5⟩, fun e => absurd e (by decide)⟩) (fun no => ⟨fun e => absurd rfl e, fun _ => h2 kd fun hh => by
      by_cases h7 : p1 = 7
      · exact no (hh.2.2.2 h7)
      · exact nle (r2.mpr h7)⟩)⟩
  exact ⟨fun le => jA fun h => absurd (r1.mp le) h, fun nle => s_M_isWire (fun w4 hw4 e4 => ⟨fun e => absurd e (by decide), fun _ => jA fun _ => ⟨w4, hw4, e4⟩⟩) (fun no => ⟨fun _ => h2 kd fun hh => no (hh.2.2.1 fun h => nle (r1.mpr h)), fun e => absurd rfl e⟩)⟩
end CASES14
section CASES14b
variable {j : Nat} {m : Mem} {o : Nat → Int64}
theorem case_1 {p1 p2 p3 p4 p5 p6 : Int32} (h : Inv j m) : wc_1 p1 p2 p3 p4 p5 p6 o m (fun _ m2 => Inv (j + 1) m2) := by
  obtain ⟨g, n, h⟩ := h
  have hn := h.1.1
  have c1 : MC (up2 m 47 0 0) g n := h.1.thr
  unfold wc_1 w_L_gate w_M_thrown
  refine s_N_addGate h.2.1 (fun no => ⟨fun _ => ?_, fun e => absurd e (by decide), fun e => absurd e (by decide), fun ne => absurd rfl ne⟩) (fun kd no => ⟨fun e => absurd e (by decide), fun _ => ?_, fun e => absurd e (by decide), fun _ ne => absurd rfl ne⟩)
    (fun kd W n30 => ⟨fun e => absurd e (by decide), fun e => absurd e (by decide), fun _ => ?_, fun _ _ ne => absurd rfl ne⟩) (fun kd W n30 => ?_)
  · exact s_M_addGate c1 (fun _ => end_no h SM.thrown (by decide)) (fun kd => absurd kd no) (fun kd => absurd kd no) (fun kd => absurd kd no)
  · exact s_M_addGate c1 (fun nk => absurd kd nk) (fun _ _ => end_no h SM.thrown (by decide)) (fun _ W => absurd W no) (fun _ W => absurd W no)
  · exact s_M_addGate c1 (fun nk => absurd kd nk) (fun _ nW => absurd W nW) (fun _ _ _ => end_no h SM.thrown (by decide)) (fun _ _ lt => absurd lt n30)
  · obtain ⟨k, hk, ek⟩ := kd.1
    obtain ⟨w, hw, ew⟩ := W.1
    subst ew
    have h2k : p1 < 2 ↔ k < 2 := by rw [ek]; exact nI_ltI (b := 2) (by omega) (by decide)
    have h7k : p1 = 7 ↔ k = 7 := by rw [ek]; exact nI_eq (b := 7) (by omega) (by decide)
    refine add_both (k := p1) (ga := p3) (gb := if p1 < 2 then -1 else p4) (gc := if p1 = 7 then p5 else -1) h n30 hw (Or.inr W.2.1) ?_ ?_ rfl (fun x hx => ?_) (Or.inr (Or.inr ⟨k, hk, ek, ek, ?_, ?_⟩)) ?_ kd.2 fun m1 hh => ?_
    · by_cases hb : p1 < 2
      · rw [if_pos hb]; exact Or.inr W.2.1
      · rw [if_neg hb]; exact Or.inr (W.2.2.1 hb)
    · by_cases hb : p1 = 7
      · rw [if_pos hb]; exact Or.inr (W.2.2.2 hb)
      · rw [if_neg hb]; exact Or.inr W.2.1
    · have hm1 : ¬ (-1 : Int32) = nI x := fun e => nI_m1 (by omega) e.symm
      by_cases hb : p1 < 2
      · by_cases hc : p1 = 7
        · rw [hc] at hb; exact absurd hb (by decide)
        · rw [if_pos hb, if_neg hc, if_pos hb, if_neg hc]
          exact ⟨fun q => Or.inl (q.elim id (fun q => q.elim id id)), fun q => q.elim Or.inl (fun q => q.elim (fun q => absurd q hm1) (fun q => absurd q hm1))⟩
      · by_cases hc : p1 = 7
        · rw [if_neg hb, if_pos hc, if_neg hb, if_pos hc]
        · rw [if_neg hb, if_neg hc, if_neg hb, if_neg hc]
          exact ⟨fun q => q.elim Or.inl (fun q => q.elim (fun q => Or.inr (Or.inl q)) Or.inl), fun q => q.elim Or.inl (fun q => q.elim (fun q => Or.inr (Or.inl q)) (fun q => absurd q hm1))⟩
    · by_cases hb : p1 < 2
      · rw [if_pos hb, if_neg (by have := h2k.mp hb; omega)]
      · rw [if_neg hb, if_pos (by by_cases q : 2 ≤ k; exact q; exact absurd (h2k.mpr (by omega)) hb), if_neg hb]
    · by_cases hb : p1 = 7
      · rw [if_pos hb, if_pos (h7k.mp hb), if_pos hb]
      · rw [if_neg hb, if_neg (fun q => hb (h7k.mpr q))]
    · unfold WFl
      rw [ga48, ga49, ga50, ga51, ga52, ga53, if_pos rfl, if_pos rfl, if_pos rfl, if_pos rfl, if_pos rfl, if_pos rfl]
      refine ⟨⟨w, hw, rfl⟩, Or.inr (Or.inr ⟨k, hk, ek, W.2.1, ?_, ?_⟩)⟩
      · by_cases hb : p1 < 2
        · rw [if_neg (by have := h2k.mp hb; omega), if_pos hb]
        · rw [if_pos (by by_cases q : 2 ≤ k; exact q; exact absurd (h2k.mpr (by omega)) hb), if_neg hb]; exact W.2.2.1 hb
      · by_cases hb : p1 = 7
        · rw [if_pos (h7k.mp hb), if_pos hb]; exact W.2.2.2 hb
        · rw [if_neg (fun q => hb (h7k.mpr q)), if_neg hb]
    · obtain ⟨c2, ad⟩ := hh _ rfl
      exact s_M_addGate c2 (fun nk => absurd kd nk) (fun _ nW => absurd W nW) (fun _ _ nlt => absurd n30 nlt) (fun _ _ _ => ad _ fun m' i' t' => fin_ok t' updL_0 ⟨_, _, i'⟩)
end CASES14b
