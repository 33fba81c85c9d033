/-! ways through gates, and the reference's rings -/
def anyB (p : Nat → Bool) : Nat → Bool
  | 0 => false
  | n + 1 => anyB p n || p n
theorem anyB_iff {p : Nat → Bool} : ∀ (n : Nat), anyB p n = true ↔ ∃ i, i < n ∧ p i = true
  | 0 => ⟨fun h => (by cases h), fun ⟨i, h, _⟩ => (by omega)⟩
  | n + 1 => by
    unfold anyB
    rw [Bool.or_eq_true, anyB_iff n]
    constructor
    · rintro (⟨i, h1, h2⟩ | h)
      · exact ⟨i, by omega, h2⟩
      · exact ⟨n, by omega, h⟩
    · rintro ⟨i, h1, h2⟩
      by_cases e : i = n
      · subst e; exact Or.inr h2
      · exact Or.inl ⟨i, by omega, h2⟩
def usB (g : Mem) (l w : Nat) : Bool := decide (g 50 l = nI w) || decide (g 51 l = nI w) || decide (g 52 l = nI w)
theorem usB_iff {g : Mem} {l w : Nat} : usB g l w = true ↔ S_uses g l w := by
  simp only [usB, S_uses, Bool.or_eq_true, decide_eq_true_eq, or_assoc]
/-- a gate leads from wire i to wire j -/
def edB (g : Mem) (n i j : Nat) : Bool := anyB (fun l => decide (¬ g 48 l < 0) && usB g l i && decide (g 49 l = nI j)) n
theorem edB_iff {g : Mem} {n i j : Nat} : edB g n i j = true ↔ ∃ l, l < n ∧ ¬ g 48 l < 0 ∧ S_uses g l i ∧ g 49 l = nI j := by
  unfold edB
  rw [anyB_iff]
  constructor
  · rintro ⟨l, h1, h2⟩
    simp only [Bool.and_eq_true, decide_eq_true_eq, usB_iff] at h2
    exact ⟨l, h1, h2.1.1, h2.1.2, h2.2⟩
  · rintro ⟨l, h1, h2, h3, h4⟩
    refine ⟨l, h1, ?_⟩
    simp only [Bool.and_eq_true, decide_eq_true_eq, usB_iff]
    exact ⟨⟨h2, h3⟩, h4⟩
def pth (g : Mem) (n : Nat) : Nat → Nat → Nat → Bool
  | 0, i, j => decide (i = j) || edB g n i j
  | k + 1, i, j => pth g n k i j || (pth g n k i k && pth g n k k j)
theorem pth_s {g : Mem} {n k i j : Nat} : pth g n (k + 1) i j = true ↔ (pth g n k i j = true ∨ (pth g n k i k = true ∧ pth g n k k j = true)) := by
  rw [pth, Bool.or_eq_true, Bool.and_eq_true]
theorem pth_0 {g : Mem} {n i j : Nat} : pth g n 0 i j = true ↔ (i = j ∨ edB g n i j = true) := by
  rw [pth, Bool.or_eq_true, decide_eq_true_eq]
theorem pth_up {g : Mem} {n i j : Nat} : ∀ (d k : Nat), pth g n k i j = true → pth g n (k + d) i j = true
  | 0, _, h => h
  | d + 1, k, h => pth_s.mpr (Or.inl (pth_up d k h))
/-- a set that edges don't leave is not left by a way -/
theorem pth_closed {g : Mem} {n : Nat} {C : Nat → Prop} (hC : ∀ i j, i < 24 → j < 24 → C i → edB g n i j = true → C j) : ∀ (k i j : Nat), k ≤ 24 → i < 24 → j < 24 → C i → pth g n k i j = true → C j
  | 0, i, j, _, hi, hj, h, hp => by
    rcases pth_0.mp hp with e | e
    · subst e; exact h
    · exact hC i j hi hj h e
  | k + 1, i, j, hk, hi, hj, h, hp => by
    rcases pth_s.mp hp with e | ⟨e1, e2⟩
    · exact pth_closed hC k i j (by omega) hi hj h e
    · exact pth_closed hC k k j (by omega) (by omega) hj (pth_closed hC k i k (by omega) hi (by omega) h e1) e2
theorem pth_trans_k {g : Mem} {n : Nat} : ∀ (k i a j : Nat), a < k → pth g n k i a = true → pth g n k a j = true → pth g n k i j = true
  | 0, _, _, _, h, _, _ => by omega
  | k + 1, i, a, j, ha, h1, h2 => by
    refine pth_s.mpr ?_
    by_cases e : a = k
    · subst e
      right
      refine ⟨?_, ?_⟩
      · rcases pth_s.mp h1 with h | h
        · exact h
        · exact h.1
      · rcases pth_s.mp h2 with h | h
        · exact h
        · exact h.2
    · have hk : a < k := by omega
      rcases pth_s.mp h1 with h | ⟨h, h'⟩ <;> rcases pth_s.mp h2 with q | ⟨q, q'⟩
      · exact Or.inl (pth_trans_k k i a j hk h q)
      · exact Or.inr ⟨pth_trans_k k i a k hk h q, q'⟩
      · exact Or.inr ⟨h, pth_trans_k k k a j hk h' q⟩
      · exact Or.inr ⟨h, q'⟩
/-- from wire i one can come to wire j through gates -/
def rch (g : Mem) (n i j : Nat) : Bool := pth g n 24 i j
theorem rch_refl {g : Mem} {n i : Nat} : rch g n i i = true := by
  have := pth_up 24 0 (pth_0.mpr (Or.inl rfl) : pth g n 0 i i = true)
  exact this
theorem rch_edge {g : Mem} {n i j : Nat} (h : edB g n i j = true) : rch g n i j = true := by
  have := pth_up 24 0 (pth_0.mpr (Or.inr h) : pth g n 0 i j = true)
  exact this
theorem rch_trans {g : Mem} {n i a j : Nat} (ha : a < 24) (h1 : rch g n i a = true) (h2 : rch g n a j = true) : rch g n i j = true := pth_trans_k 24 i a j ha h1 h2
def ringB (g : Mem) (n l : Nat) : Bool := anyB (fun w => rch g n (cl (g 49 l)) w && usB g l w) 24
theorem ringB_iff {g : Mem} {n l : Nat} : ringB g n l = true ↔ ∃ w, w < 24 ∧ rch g n (cl (g 49 l)) w = true ∧ S_uses g l w := by
  unfold ringB
  rw [anyB_iff]
  constructor
  · rintro ⟨w, h1, h2⟩
    rw [Bool.and_eq_true, usB_iff] at h2
    exact ⟨w, h1, h2.1, h2.2⟩
  · rintro ⟨w, h1, h2, h3⟩
    exact ⟨w, h1, by rw [Bool.and_eq_true, usB_iff]; exact ⟨h2, h3⟩⟩
/-- how many are met -/
def cm (x : Rw) : Nat → Nat
  | 0 => 0
  | w + 1 => cm x w + (if x w = 0 then 0 else 1)
theorem cm_le (x : Rw) : ∀ w, cm x w ≤ w
  | 0 => Nat.le_refl _
  | w + 1 => by have := cm_le x w; unfold cm; split <;> omega
theorem cm_upd_out {x : Rw} {a : Nat} : ∀ w, w ≤ a → cm (upd x a 1) w = cm x w
  | 0, _ => rfl
  | w + 1, h => by unfold cm; rw [cm_upd_out w (by omega), upd_ne (by omega)]
theorem cm_upd {x : Rw} {a : Nat} (hx : x a = 0) : ∀ w, a < w → cm (upd x a 1) w = cm x w + 1
  | 0, h => by omega
  | w + 1, h => by
    unfold cm
    by_cases e : w = a
    · subst e
      rw [cm_upd_out w (Nat.le_refl _), upd_same, if_neg (by decide), if_pos hx]
    · rw [cm_upd hx w (by omega), upd_ne e]; omega
section MR5
variable {m g : Mem} {n : Nat} {ρ : Rw}
theorem s_M_usesAny_2 {x : Rw} {l : Nat} {E : Int32 → Int32 → Mem → Prop} {K : Int32 → Mem → Prop} (hc : MC m g n) (hl : l < 30) : ∀ (r w f : Nat), w + r = 24 → r < f →
    ((∃ q, w ≤ q ∧ q < 24 ∧ ¬ x q = 0 ∧ S_uses g l q) → K 1 (va_up m 60 ρ)) → (¬ (∃ q, w ≤ q ∧ q < 24 ∧ ¬ x q = 0 ∧ S_uses g l q) → E (nI l) (nI 24) (va_up m 60 ρ)) → w_M_usesAny_2 f x (nI l) (nI w) (va_up m 60 ρ) E K := by
  intro r
  induction r with
  | zero =>
    intro w f hw hf h1 h0
    have e : w = 24 := by omega
    subst e
    obtain ⟨f, rfl⟩ : ∃ q, f = q + 1 := ⟨f - 1, by omega⟩
    unfold w_M_usesAny_2
    exact ⟨fun _ => h0 (fun ⟨q, a, b, _⟩ => by omega), fun h => absurd (show (24 : Int32) ≤ nI 24 by decide) h⟩
  | succ r ih =>
    intro w f hw hf h1 h0
    obtain ⟨f, rfl⟩ : ∃ q, f = q + 1 := ⟨f - 1, by omega⟩
    unfold w_M_usesAny_2
    rw [nI_clamp (by omega)]
    have nx : ∀ (hno : x w = 0 ∨ ¬ S_uses g l w), w_M_usesAny_2 f x (nI l) (nI w + 1) (va_up m 60 ρ) E K := by
      intro hno
      rw [nA1]
      refine ih (w + 1) f (by omega) (by omega) (fun ⟨q, a, b, c, d⟩ => h1 ⟨q, by omega, b, c, d⟩) (fun hn => h0 fun ⟨q, a, b, c, d⟩ => ?_)
      by_cases e : q = w
      · subst e; exact hno.elim c (fun hh => hh d)
      · exact hn ⟨q, by omega, b, c, d⟩
    refine ⟨fun h => absurd ((nI_le24 (by omega)).mp h) (by omega), fun _ => ⟨vp_in_nI (by omega) (by decide), fun e => nx (Or.inl e), fun ne => ?_⟩⟩
    refine s_M_uses hc hl (fun hu => ⟨fun e => absurd e (by decide), fun _ => h1 ⟨w, Nat.le_refl _, by omega, ne, hu⟩⟩) (fun hu => ⟨fun _ => nx (Or.inr hu), fun e => absurd rfl e⟩)
theorem s_M_usesAny {x : Rw} {l : Nat} {K : Int32 → Mem → Prop} (hc : MC m g n) (hl : l < 30) (h1 : (∃ q, q < 24 ∧ ¬ x q = 0 ∧ S_uses g l q) → K 1 (va_up m 60 ρ)) (h0 : ¬ (∃ q, q < 24 ∧ ¬ x q = 0 ∧ S_uses g l q) → K 0 (va_up m 60 ρ)) : w_M_usesAny x (nI l) (va_up m 60 ρ) K := by
  unfold w_M_usesAny
  exact s_M_usesAny_2 hc hl 24 0 31 (by omega) (by omega) (fun ⟨q, _, b, c, d⟩ => h1 ⟨q, b, c, d⟩) (fun hn => h0 fun ⟨q, b, c, d⟩ => hn ⟨q, Nat.zero_le _, b, c, d⟩)
/-- what is met can be come to from d -/
def metS (g : Mem) (n d : Nat) (x : Rw) : Prop := ∀ w, w < 24 → ¬ x w = 0 → rch g n d w = true
theorem s_M_isInRing_25 {d : Nat} {x1 : Int32} {x0 : Rw} {E : Int32 → Int32 → Int32 → Rw → Mem → Prop} {K : Int32 → Mem → Prop} (hc : MC m g n) (hwf : ∀ l, l < n → WFl g l) (hd : d < 24) : ∀ (r l f : Nat) (x : Rw) (x3 : Int32), l + r = n → r < f → metS g n d x → ¬ x d = 0 →
    ((x3 = 0 ∧ x = x0 ∧ ∀ q, q < l → ¬ g 48 q < 0 → (¬ x (cl (g 49 q)) = 0 ∨ ∀ w, w < 24 → ¬ x w = 0 → ¬ S_uses g q w)) ∨ (x3 = 1 ∧ cm x0 24 < cm x 24)) →
    (∀ (x' : Rw) (x3' : Int32), metS g n d x' → ¬ x' d = 0 → ((x3' = 0 ∧ x' = x0 ∧ ∀ q, q < n → ¬ g 48 q < 0 → (¬ x' (cl (g 49 q)) = 0 ∨ ∀ w, w < 24 → ¬ x' w = 0 → ¬ S_uses g q w)) ∨ (x3' = 1 ∧ cm x0 24 < cm x' 24)) → E x1 x3' (nI n) x' (va_up m 60 ρ)) →
    w_M_isInRing_25 f x1 x3 (nI l) x (va_up m 60 ρ) E K := by
  intro r
  induction r with
  | zero =>
    intro l f x x3 hl hf hm hxd hinv hE
    have e : l = n := by omega
    subst e
    obtain ⟨f, rfl⟩ : ∃ q, f = q + 1 := ⟨f - 1, by omega⟩
    unfold w_M_isInRing_25
    rw [hc.lines]
    exact ⟨fun _ => hE x x3 hm hxd hinv, fun h => absurd (nI_le (Nat.le_refl _) (by have := hc.1; omega)) h⟩
  | succ r ih =>
    intro l f x x3 hl hf hm hxd hinv hE
    have hn := hc.1
    obtain ⟨f, rfl⟩ : ∃ q, f = q + 1 := ⟨f - 1, by omega⟩
    unfold w_M_isInRing_25
    rw [hc.lines]
    have hw := hwf l (by omega)
    obtain ⟨hw1, hw2⟩ := hw.1.cl
    have e49 : (va_up m 60 ρ) 49 (nI l).toNatClampNeg = nI (cl (g 49 l)) := by rw [up_ne (by decide), hc.2.2.2.1, nI_clamp (by omega)]; exact hw1
    have keep : (¬ g 48 l < 0 → (¬ x (cl (g 49 l)) = 0 ∨ ∀ w, w < 24 → ¬ x w = 0 → ¬ S_uses g l w)) → w_M_isInRing_25 f x1 x3 (nI l + 1) x (va_up m 60 ρ) E K := by
      intro hq
      rw [nA1]
      refine ih (l + 1) f x x3 (by omega) (by omega) hm hxd ?_ hE
      rcases hinv with ⟨a, b, c⟩ | h
      · refine Or.inl ⟨a, b, fun q hq1 => ?_⟩
        by_cases e : q = l
        · subst e; exact hq
        · exact c q (by omega)
      · exact Or.inr h
    refine ⟨fun h => absurd h (nI_ge (by omega) (by omega)), fun _ => ?_⟩
    refine s_M_isGate hc (by omega) (fun hk => ⟨fun e => absurd e (by decide), fun _ => ?_⟩) (fun hk => ⟨fun _ => keep fun h => absurd hk h, fun e => absurd rfl e⟩)
    rw [e49, nI_clamp (show cl (g 49 l) < 2 ^ 31 by omega)]
    refine ⟨vp_in_nI (by omega) (by decide), vp_in_nI hw2 (by decide), fun ne => keep fun _ => Or.inl ne, fun e0 => ?_⟩
    refine s_M_usesAny hc (by omega) (fun hu => ⟨fun _ => ⟨vp_in_nI (by omega) (by decide), ?_⟩, fun e => absurd e (by decide)⟩) (fun hu => ⟨fun e => absurd rfl e, fun _ => keep fun _ => Or.inr fun w a b c => hu ⟨w, a, b, c⟩⟩)
    rw [e49, nI_clamp (show cl (g 49 l) < 2 ^ 31 by omega)]
    refine ⟨vp_in_nI hw2 (by decide), ?_⟩
    intro g11 eg
    subst eg
    obtain ⟨q, hq, hxq, huq⟩ := hu
    have hcm := cm_upd e0 24 hw2
    rw [nA1]
    refine ih (l + 1) f _ 1 (by omega) (by omega) ?_ ?_ (Or.inr ⟨rfl, ?_⟩) hE
    · intro w hw3 hxw
      by_cases e : w = cl (g 49 l)
      · subst e
        refine rch_trans hq (hm q hq hxq) (rch_edge (edB_iff.mpr ⟨l, by omega, hk, huq, hw1⟩))
      · rw [upd_ne e] at hxw; exact hm w hw3 hxw
    · by_cases e : d = cl (g 49 l)
      · subst e; rw [upd_same]; decide
      · rw [upd_ne e]; exact hxd
    · rcases hinv with ⟨a, b, c⟩ | ⟨a, b⟩
      · subst b; omega
      · omega
theorem s_M_isInRing_16 {d : Nat} {x1 : Int32} {E : Int32 → Int32 → Rw → Mem → Prop} {K : Int32 → Mem → Prop} (hc : MC m g n) (hwf : ∀ l, l < n → WFl g l) (hd : d < 24)
    (hE : ∀ (x' : Rw) (x3' : Int32), (∀ w, w < 24 → (¬ x' w = 0 ↔ rch g n d w = true)) → E x1 x3' x' (va_up m 60 ρ)) : ∀ (f : Nat) (x : Rw) (x3 : Int32), metS g n d x → ¬ x d = 0 →
    ((x3 = 0 ∧ 1 ≤ f ∧ ∀ q, q < n → ¬ g 48 q < 0 → (¬ x (cl (g 49 q)) = 0 ∨ ∀ w, w < 24 → ¬ x w = 0 → ¬ S_uses g q w)) ∨ (x3 = 1 ∧ 24 - cm x 24 + 2 ≤ f)) →
    w_M_isInRing_16 f x1 x3 x (va_up m 60 ρ) E K := by
  intro f
  induction f with
  | zero => intro x x3 _ _ h; rcases h with ⟨_, h, _⟩ | ⟨_, h⟩ <;> omega
  | succ f ih =>
    intro x x3 hm hxd h
    unfold w_M_isInRing_16
    rcases h with ⟨e3, _, hcl⟩ | ⟨e3, hf⟩
    · subst e3
      refine ⟨fun _ => hE x 0 fun w hw => ⟨hm w hw, fun hr => ?_⟩, fun h => absurd rfl h⟩
      refine pth_closed (C := fun w => ¬ x w = 0) ?_ 24 d w (Nat.le_refl _) hd hw hxd hr
      intro i j hi hj hxi hed
      obtain ⟨l, hl, hk, hu, e⟩ := edB_iff.mp hed
      rcases hcl l hl hk with h | h
      · have : cl (g 49 l) = j := by rw [e]; exact cl_nI (by omega)
        rw [this] at h; exact h
      · exact absurd hu (h i hi hxi)
    · subst e3
      refine ⟨fun h => absurd h (by decide), fun _ => ?_⟩
      refine s_M_isInRing_25 (x0 := x) hc hwf hd n 0 31 x 0 (by omega) (by have := hc.1; omega) hm hxd (Or.inl ⟨rfl, rfl, fun q hq => by omega⟩) fun x' x3' hm' hxd' hinv => ?_
      refine ih x' x3' hm' hxd' ?_
      rcases hinv with ⟨a, b, c⟩ | ⟨a, b⟩
      · exact Or.inl ⟨a, by omega, c⟩
      · refine Or.inr ⟨a, ?_⟩
        have := cm_le x' 24
        omega
theorem s_M_isInRing {l : Nat} {K : Int32 → Mem → Prop} (hc : MC m g n) (hwf : ∀ l, l < n → WFl g l) (hl : l < n) (h1 : ringB g n l = true → K 1 (va_up m 60 ρ)) (h0 : ringB g n l = false → K 0 (va_up m 60 ρ)) : w_M_isInRing (nI l) (va_up m 60 ρ) K := by
  have hn := hc.1
  have hw := (hwf l hl).1.cl
  unfold w_M_isInRing
  have e49 : (va_up m 60 ρ) 49 (nI l).toNatClampNeg = nI (cl (g 49 l)) := by rw [up_ne (by decide), hc.2.2.2.1, nI_clamp (by omega)]; exact hw.1
  rw [e49, nI_clamp (show cl (g 49 l) < 2 ^ 31 by omega)]
  refine ⟨vp_in_nI (by omega) (by decide), vp_in_nI hw.2 (by decide), ?_⟩
  intro g1 e1
  subst e1
  have hd : ¬ (upd (fun _ => (0 : Int32)) (cl (g 49 l)) 1) (cl (g 49 l)) = 0 := by rw [upd_same]; decide
  refine s_M_isInRing_16 hc hwf hw.2 ?_ 25 _ 1 ?_ hd (Or.inr ⟨rfl, ?_⟩)
  · intro x' x3' hx
    have hiff : (∃ q, q < 24 ∧ ¬ x' q = 0 ∧ S_uses g l q) ↔ ringB g n l = true := by
      rw [ringB_iff]
      constructor
      · rintro ⟨q, a, b, c⟩; exact ⟨q, a, (hx q a).mp b, c⟩
      · rintro ⟨q, a, b, c⟩; exact ⟨q, a, (hx q a).mpr b, c⟩
    refine s_M_usesAny hc (by omega) (fun hu => ⟨by decide, h1 (hiff.mp hu)⟩) (fun hu => ⟨by decide, h0 ?_⟩)
    cases hb : ringB g n l
    · rfl
    · exact absurd (hiff.mpr hb) hu
  · intro w hw2 hxw
    by_cases e : w = cl (g 49 l)
    · subst e; exact rch_refl
    · rw [upd_ne e] at hxw; exact absurd rfl hxw
  · have hz : cm (fun _ => (0 : Int32)) 24 = 0 := by decide
    have := cm_upd (x := fun _ => (0 : Int32)) (a := cl (g 49 l)) rfl 24 hw.2
    omega
end MR5
