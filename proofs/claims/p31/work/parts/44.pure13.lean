/-! the class's reach, by bits -/
def FX (m m' : Mem) : Prop := ∀ i, (i < 14 ∨ 18 < i) → m' i = m i
theorem FX.refl (m : Mem) : FX m m := fun _ _ => rfl
theorem FX.trans {a b c : Mem} (h1 : FX a b) (h2 : FX b c) : FX a c := fun i hi => (h2 i hi).trans (h1 i hi)
theorem FX.up {j : Nat} {a b : Mem} {v : Rw} (h : FX a b) (hj : 14 ≤ j ∧ j ≤ 18) : FX a (va_up b j v) := fun i hi => by
  rw [up_ne (by omega)]; exact h i hi
theorem CC.fx {m m' g : Mem} {n : Nat} (h : CC m g n) (hm : FX m m') : CC m' g n := h.same fun i h1 h2 => hm i (Or.inl (by omega))
/-- the rows of reach are the relation F -/
def RM (m : Mem) (F : Nat → Nat → Prop) : Prop := ∀ i, i < 24 → ∀ j, j < 32 → (bt (m 18 i) j = true ↔ (j < 24 ∧ F i j))
theorem RM.ext {m : Mem} {F G : Nat → Nat → Prop} (h : RM m F) (hFG : ∀ i j, i < 24 → j < 24 → (F i j ↔ G i j)) : RM m G := fun i hi j hj => by
  rw [h i hi j hj]
  constructor
  · rintro ⟨a, b⟩; exact ⟨a, (hFG i j hi a).mp b⟩
  · rintro ⟨a, b⟩; exact ⟨a, (hFG i j hi a).mpr b⟩
/-- only cell 18 has changed -/
def F18 (m m' : Mem) : Prop := ∀ i, i ≠ 18 → m' i = m i
theorem F18.refl (m : Mem) : F18 m m := fun _ _ => rfl
theorem F18.trans {a b c : Mem} (h1 : F18 a b) (h2 : F18 b c) : F18 a c := fun i hi => (h2 i hi).trans (h1 i hi)
theorem F18.up {a b : Mem} {v : Rw} (h : F18 a b) : F18 a (va_up b 18 v) := fun i hi => by rw [up_ne hi]; exact h i hi
theorem CC.f18 {m m' g : Mem} {n : Nat} (h : CC m g n) (hm : F18 m m') : CC m' g n := h.same fun i h1 h2 => hm i (by omega)
/-- edges by the lines below l only -/
def edL (g : Mem) (l i j : Nat) : Prop := ∃ q, q < l ∧ ¬ g 48 q < 0 ∧ S_uses g q i ∧ g 49 q = nI j
section FR1
variable {m g : Mem} {n : Nat}
theorem s_F_findReach_19 {i : Nat} {E : Int32 → Int32 → Mem → Prop} {K : Mem → Prop} (hwf : ∀ l, l < n → WFl g l) (hi : i < 24) : ∀ (r l f : Nat) (m : Mem), l + r = n → r < f → CC m g n → (∀ j, j < 32 → (bt (m 18 i) j = true ↔ (j < 24 ∧ (i = j ∨ edL g l i j)))) →
    (∀ m', F18 m m' → (∀ a, a ≠ i → m' 18 a = m 18 a) → (∀ j, j < 32 → (bt (m' 18 i) j = true ↔ (j < 24 ∧ (i = j ∨ edL g n i j)))) → E (nI i) (nI n) m') → w_F_findReach_19 f (nI i) (nI l) m E K := by
  intro r
  induction r with
  | zero =>
    intro l f m hl hf hcc hR hE
    have e : l = n := by omega
    subst e
    obtain ⟨f, rfl⟩ : ∃ q, f = q + 1 := ⟨f - 1, by omega⟩
    unfold w_F_findReach_19
    rw [hcc.2.1]
    exact ⟨fun _ => hE m (F18.refl m) (fun _ _ => rfl) hR, fun h => absurd (nI_le (Nat.le_refl _) (by have := hcc.1; omega)) h⟩
  | succ r ih =>
    intro l f m hl hf hcc hR hE
    have hn := hcc.1
    obtain ⟨f, rfl⟩ : ∃ q, f = q + 1 := ⟨f - 1, by omega⟩
    unfold w_F_findReach_19
    rw [hcc.2.1]
    have hw := hwf l (by omega)
    obtain ⟨hw1, hw2⟩ := hw.1.cl
    have keep : (∀ j, ¬ (¬ g 48 l < 0 ∧ S_uses g l i ∧ g 49 l = nI j)) → w_F_findReach_19 f (nI i) (nI l + 1) m E K := by
      intro hno
      rw [nA1]
      refine ih (l + 1) f m (by omega) (by omega) hcc (fun j hj => ?_) hE
      rw [hR j hj]
      constructor
      · rintro ⟨h0, h | ⟨q, h1, h2⟩⟩
        · exact ⟨h0, Or.inl h⟩
        · exact ⟨h0, Or.inr ⟨q, by omega, h2⟩⟩
      · rintro ⟨h0, h | ⟨q, h1, h2⟩⟩
        · exact ⟨h0, Or.inl h⟩
        · by_cases eq : q = l
          · subst eq; exact absurd h2 (hno j)
          · exact ⟨h0, Or.inr ⟨q, by omega, h2⟩⟩
    refine ⟨fun h => absurd h (nI_ge (by omega) (by omega)), fun _ => ?_⟩
    refine s_C_isGate hcc (by omega) hw (fun hk => ⟨fun e => absurd e (by decide), fun _ => ?_⟩) (fun hk => ⟨fun _ => keep fun j h => h.1 hk, fun e => absurd rfl e⟩)
    refine s_C_isUsedBy hcc (by omega) hi (fun hu => ⟨fun e => absurd e (by decide), fun _ => ?_⟩) (fun hu => ⟨fun _ => keep fun j h => hu h.2.1, fun e => absurd rfl e⟩)
    refine ⟨vp_in_nI hi (by decide), vp_in_nI (by omega) (by decide), vp_in_nI hi (by decide), ?_⟩
    rw [nI_clamp (by omega), nI_clamp (by omega), (hcc.2.2.1 l (by omega)).1, hw1]
    intro m10 e10
    have f10 : F18 m m10 := by rw [e10]; exact F18.up (F18.refl m)
    have o10 : ∀ a, a ≠ i → m10 18 a = m 18 a := fun a ha => by rw [e10]; unfold up2; rw [up_same, upd_ne ha]
    rw [nA1]
    refine ih (l + 1) f m10 (by omega) (by omega) (hcc.f18 f10) ?_ fun m' f' o' r' => hE m' (f10.trans f') (fun a ha => (o' a ha).trans (o10 a ha)) r'
    intro b hb
    rw [e10]
    unfold up2
    rw [up_same, upd_same, bt_or, Bool.or_eq_true, bt_one (by omega), decide_eq_true_eq, hR b hb]
    constructor
    · rintro (⟨h1, h2⟩ | h)
      · refine ⟨h1, h2.imp id fun ⟨q, a1, a2⟩ => ⟨q, by omega, a2⟩⟩
      · subst h; exact ⟨hw2, Or.inr ⟨l, by omega, hk, hu, hw1⟩⟩
    · rintro ⟨h1, h2 | ⟨q, a1, a2, a3, a4⟩⟩
      · exact Or.inl ⟨h1, Or.inl h2⟩
      · by_cases eq : q = l
        · subst eq
          right
          rw [a4]; exact cl_nI (by omega)
        · exact Or.inl ⟨h1, Or.inr ⟨q, by omega, a2, a3, a4⟩⟩
theorem s_F_findReach_2 {E : Int32 → Mem → Prop} {K : Mem → Prop} (hwf : ∀ l, l < n → WFl g l) : ∀ (r i f : Nat) (m : Mem), i + r = 24 → r < f → CC m g n → (∀ a, a < i → ∀ j, j < 32 → (bt (m 18 a) j = true ↔ (j < 24 ∧ (a = j ∨ edL g n a j)))) →
    (∀ m', F18 m m' → RM m' (fun a b => pth g n 0 a b = true) → E (nI 24) m') → w_F_findReach_2 f (nI i) m E K := by
  intro r
  induction r with
  | zero =>
    intro i f m hl hf hcc hR hE
    have e : i = 24 := by omega
    subst e
    obtain ⟨f, rfl⟩ : ∃ q, f = q + 1 := ⟨f - 1, by omega⟩
    unfold w_F_findReach_2
    refine ⟨fun _ => hE m (F18.refl m) fun a ha j hj => ?_, fun h => absurd (show (24 : Int32) ≤ nI 24 by decide) h⟩
    rw [hR a ha j hj]; dsimp only; rw [pth_0, edB_iff]; rfl
  | succ r ih =>
    intro i f m hl hf hcc hR hE
    have hi : i < 24 := by omega
    obtain ⟨f, rfl⟩ : ∃ q, f = q + 1 := ⟨f - 1, by omega⟩
    unfold w_F_findReach_2
    refine ⟨fun h => absurd ((nI_le24 (by omega)).mp h) (by omega), fun _ => ⟨vp_in_nI hi (by decide), ?_⟩⟩
    rw [nI_clamp (by omega)]
    intro m2 e2
    have f2 : F18 m m2 := by rw [e2]; exact F18.up (F18.refl m)
    have o2 : ∀ a, a ≠ i → m2 18 a = m 18 a := fun a ha => by rw [e2]; unfold up2; rw [up_same, upd_ne ha]
    refine s_F_findReach_19 hwf hi n 0 31 m2 (by omega) (by have := hcc.1; omega) (hcc.f18 f2) ?_ fun m3 f3 o3 r3 => ?_
    · intro b hb
      rw [e2]
      unfold up2
      rw [up_same, upd_same, bt_one (by omega), decide_eq_true_eq]
      constructor
      · intro h; subst h; exact ⟨hi, Or.inl rfl⟩
      · rintro ⟨h1, h2 | ⟨q, hq, _⟩⟩
        · exact h2
        · omega
    · rw [nA1]
      refine ih (i + 1) f m3 (by omega) (by omega) ((hcc.f18 f2).f18 f3) ?_ fun m' f' r' => hE m' ((f2.trans f3).trans f') r'
      intro a ha j hj
      by_cases e : a = i
      · subst e; exact r3 j hj
      · rw [o3 a e, o2 a e]; exact hR a (by omega) j hj
theorem s_F_findReach_83 {v : Nat} {E : Int32 → Int32 → Mem → Prop} {K : Mem → Prop} (hv : v < 24) : ∀ (r i f : Nat) (m : Mem), i + r = 24 → r < f → RM m (fun a b => if a < i then pth g n (v + 1) a b = true else pth g n v a b = true) →
    (∀ m', F18 m m' → RM m' (fun a b => pth g n (v + 1) a b = true) → E (nI v) (nI 24) m') → w_F_findReach_83 f (nI v) (nI i) m E K := by
  intro r
  induction r with
  | zero =>
    intro i f m hl hf hR hE
    have e : i = 24 := by omega
    subst e
    obtain ⟨f, rfl⟩ : ∃ q, f = q + 1 := ⟨f - 1, by omega⟩
    unfold w_F_findReach_83
    exact ⟨fun _ => hE m (F18.refl m) (hR.ext fun a b ha hb => by rw [if_pos ha]), fun h => absurd (show (24 : Int32) ≤ nI 24 by decide) h⟩
  | succ r ih =>
    intro i f m hl hf hR hE
    have hi : i < 24 := by omega
    obtain ⟨f, rfl⟩ : ∃ q, f = q + 1 := ⟨f - 1, by omega⟩
    unfold w_F_findReach_83
    rw [nI_clamp (by omega), nI_clamp (by omega), bt_test (by omega)]
    -- row v is the same at both stages
    have hvv : ∀ b, (if v < i then pth g n (v + 1) v b = true else pth g n v v b = true) ↔ pth g n v v b = true := by
      intro b
      split
      · rw [pth_s]
        constructor
        · rintro (h | h)
          · exact h
          · exact h.2
        · exact Or.inl
      · exact Iff.rfl
    have hiv : bt (m 18 i) v = true ↔ pth g n v i v = true := by
      rw [hR i hi v (by omega)]; dsimp only; rw [if_neg (Nat.lt_irrefl i)]
      exact ⟨fun h => h.2, fun h => ⟨hv, h⟩⟩
    refine ⟨fun h => absurd ((nI_le24 (by omega)).mp h) (by omega), fun _ => ⟨vp_in_nI hi (by decide), fun e0 => ?_, fun ne => ⟨vp_in_nI hi (by decide), vp_in_nI hv (by decide), vp_in_nI hi (by decide), ?_⟩⟩⟩
    · have hno : ¬ pth g n v i v = true := fun h => by rw [hiv.mpr h] at e0; cases e0
      rw [nA1]
      refine ih (i + 1) f m (by omega) (by omega) (hR.ext fun a b ha hb => ?_) hE
      by_cases e : a = i
      · subst e
        rw [if_neg (Nat.lt_irrefl a), if_pos (Nat.lt_succ_self a), pth_s]
        exact ⟨Or.inl, fun h => h.elim id fun h => absurd h.1 hno⟩
      · by_cases hlt : a < i
        · rw [if_pos hlt, if_pos (by omega)]
        · rw [if_neg hlt, if_neg (by omega)]
    · have hyes : pth g n v i v = true := hiv.mp (by cases h : bt (m 18 i) v; exact absurd h ne; rfl)
      intro m19 e19
      have f19 : F18 m m19 := by rw [e19]; exact F18.up (F18.refl m)
      rw [nA1]
      refine ih (i + 1) f m19 (by omega) (by omega) ?_ fun m' f' r' => hE m' (f19.trans f') r'
      intro a ha b hb
      rw [e19]
      unfold up2
      rw [up_same]
      by_cases e : a = i
      · subst e
        rw [upd_same, bt_or, Bool.or_eq_true, hR a ha b hb, hR v hv b hb]; dsimp only; rw [hvv b, if_neg (Nat.lt_irrefl a), if_pos (Nat.lt_succ_self a), pth_s]
        constructor
        · rintro (⟨h1, h2⟩ | ⟨h1, h2⟩)
          · exact ⟨h1, Or.inl h2⟩
          · exact ⟨h1, Or.inr ⟨hyes, h2⟩⟩
        · rintro ⟨h1, h2 | h2⟩
          · exact Or.inl ⟨h1, h2⟩
          · exact Or.inr ⟨h1, h2.2⟩
      · rw [upd_ne e, hR a ha b hb]; dsimp only
        by_cases hlt : a < i
        · rw [if_pos hlt, if_pos (by omega)]
        · rw [if_neg hlt, if_neg (by omega)]
theorem s_F_findReach_75 {E : Int32 → Mem → Prop} {K : Mem → Prop} : ∀ (r v f : Nat) (m : Mem), v + r = 24 → r < f → RM m (fun a b => pth g n v a b = true) →
    (∀ m', F18 m m' → RM m' (fun a b => rch g n a b = true) → E (nI 24) m') → w_F_findReach_75 f (nI v) m E K := by
  intro r
  induction r with
  | zero =>
    intro v f m hl hf hR hE
    have e : v = 24 := by omega
    subst e
    obtain ⟨f, rfl⟩ : ∃ q, f = q + 1 := ⟨f - 1, by omega⟩
    unfold w_F_findReach_75
    exact ⟨fun _ => hE m (F18.refl m) hR, fun h => absurd (show (24 : Int32) ≤ nI 24 by decide) h⟩
  | succ r ih =>
    intro v f m hl hf hR hE
    obtain ⟨f, rfl⟩ : ∃ q, f = q + 1 := ⟨f - 1, by omega⟩
    unfold w_F_findReach_75
    refine ⟨fun h => absurd ((nI_le24 (by omega)).mp h) (by omega), fun _ => ?_⟩
    refine s_F_findReach_83 (g := g) (n := n) (by omega) 24 0 25 m (by omega) (by omega) (hR.ext fun a b ha hb => by rw [if_neg (Nat.not_lt_zero a)]) fun m' f' r' => ?_
    rw [nA1]
    exact ih (v + 1) f m' (by omega) (by omega) r' fun m2 f2 r2 => hE m2 (f'.trans f2) r2
theorem s_F_findReach {K : Mem → Prop} (hcc : CC m g n) (hwf : ∀ l, l < n → WFl g l) (hK : ∀ m', F18 m m' → RM m' (fun a b => rch g n a b = true) → K m') : w_F_findReach m K := by
  unfold w_F_findReach
  refine s_F_findReach_2 hwf 24 0 25 m (by omega) (by omega) hcc (fun a ha => absurd ha (Nat.not_lt_zero a)) fun m1 f1 r1 => ?_
  exact s_F_findReach_75 24 0 25 m1 (by omega) (by omega) r1 fun m2 f2 r2 => hK m2 (f1.trans f2) r2
end FR1
