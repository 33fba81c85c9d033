/-! ways through gates, and the reference's rings -/
def anyB (p : Nat → Bool) : Nat → Bool
  | 0 => false
  | n + 1 => anyB p n || p n
theorem anyB_iff {p : Nat → Bool} : ∀ (n : Nat), anyB p n = true ↔ ∃ i, i < n ∧ p i = true
  | 0 => ⟨fun h => (by cases h), fun ⟨i, h, _⟩ => (by omega)⟩
  | n + 1 => by
    unfold anyB
    rw [Bool.or_eq_true, anyB_iff n]
    constructor
    · rintro (⟨i, h1, h2⟩ | h)
      · exact ⟨i, by omega, h2⟩
      · exact ⟨n, by omega, h⟩
    · rintro ⟨i, h1, h2⟩
      by_cases e : i = n
      · subst e; exact Or.inr h2
      · exact Or.inl ⟨i, by omega, h2⟩
def usB (g : Mem) (l w : Nat) : Bool := decide (g 50 l = nI w) || decide (g 51 l = nI w) || decide (g 52 l = nI w)
theorem usB_iff {g : Mem} {l w : Nat} : usB g l w = true ↔ S_uses g l w := by
  simp only [usB, S_uses, Bool.or_eq_true, decide_eq_true_eq, or_assoc]
/-- a gate leads from wire i to wire j -/
def edB (g : Mem) (n i j : Nat) : Bool := anyB (fun l => decide (¬ g 48 l < 0) && usB g l i && decide (g 49 l = nI j)) n
theorem edB_iff {g : Mem} {n i j : Nat} : edB g n i j = true ↔ ∃ l, l < n ∧ ¬ g 48 l < 0 ∧ S_uses g l i ∧ g 49 l = nI j := by
  unfold edB
  rw [anyB_iff]
  constructor
  · rintro ⟨l, h1, h2⟩
    simp only [Bool.and_eq_true, decide_eq_true_eq, usB_iff] at h2
    exact ⟨l, h1, h2.1.1, h2.1.2, h2.2⟩
  · rintro ⟨l, h1, h2, h3, h4⟩
    refine ⟨l, h1, ?_⟩
    simp only [Bool.and_eq_true, decide_eq_true_eq, usB_iff]
    exact ⟨⟨h2, h3⟩, h4⟩
def pth (g : Mem) (n : Nat) : Nat → Nat → Nat → Bool
  | 0, i, j => decide (i = j) || edB g n i j
  | k + 1, i, j => pth g n k i j || (pth g n k i k && pth g n k k j)
theorem pth_s {g : Mem} {n k i j : Nat} : pth g n (k + 1) i j = true ↔ (pth g n k i j = true ∨ (pth g n k i k = true ∧ pth g n k k j = true)) := by
  rw [pth, Bool.or_eq_true, Bool.and_eq_true]
theorem pth_0 {g : Mem} {n i j : Nat} : pth g n 0 i j = true ↔ (i = j ∨ edB g n i j = true) := by
  rw [pth, Bool.or_eq_true, decide_eq_true_eq]
theorem pth_up {g : Mem} {n i j : Nat} : ∀ (d k : Nat), pth g n k i j = true → pth g n (k + d) i j = true
  | 0, _, h => h
  | d + 1, k, h => pth_s.mpr (Or.inl (pth_up d k h))
/-- a set that edges don't leave is not left by a way -/
theorem pth_closed {g : Mem} {n : Nat} {C : Nat → Prop} (hC : ∀ i j, i < 24 → j < 24 → C i → edB g n i j = true → C j) : ∀ (k i j : Nat), k ≤ 24 → i < 24 → j < 24 → C i → pth g n k i j = true → C j
  | 0, i, j, _, hi, hj, h, hp => by
    rcases pth_0.mp hp with e | e
    · subst e; exact h
    · exact hC i j hi hj h e
  | k + 1, i, j, hk, hi, hj, h, hp => by
    rcases pth_s.mp hp with e | ⟨e1, e2⟩
    · exact pth_closed hC k i j (by omega) hi hj h e
    · exact pth_closed hC k k j (by omega) (by omega) hj (pth_closed hC k i k (by omega) hi (by omega) h e1) e2
theorem pth_trans_k {g : Mem} {n : Nat} : ∀ (k i a j : Nat), a < k → pth g n k i a = true → pth g n k a j = true → pth g n k i j = true
  | 0, _, _, _, h, _, _ => by omega
  | k + 1, i, a, j, ha, h1, h2 => by
    refine pth_s.mpr ?_
    by_cases e : a = k
    · subst e
      right
      refine ⟨?_, ?_⟩
      · rcases pth_s.mp h1 with h | h
        · exact h
        · exact h.1
      · rcases pth_s.mp h2 with h | h
        · exact h
        · exact h.2
    · have hk : a < k := by omega
      rcases pth_s.mp h1 with h | ⟨h, h'⟩ <;> rcases pth_s.mp h2 with q | ⟨q, q'⟩
      · exact Or.inl (pth_trans_k k i a j hk h q)
      · exact Or.inr ⟨pth_trans_k k i a k hk h q, q'⟩
      · exact Or.inr ⟨h, pth_trans_k k k a j hk h' q⟩
      · exact Or.inr ⟨h, q'⟩
/-- from wire i one can come to wire j through gates -/
def rch (g : Mem) (n i j : Nat) : Bool := pth g n 24 i j
theorem rch_refl {g : Mem} {n i : Nat} : rch g n i i = true := by
  have := pth_up 24 0 (pth_0.mpr (Or.inl rfl) : pth g n 0 i i = true)
  exact this
theorem rch_edge {g : Mem} {n i j : Nat} (h : edB g n i j = true) : rch g n i j = true := by
  have := pth_up 24 0 (pth_0.mpr (Or.inr h) : pth g n 0 i j = true)
  exact this
theorem rch_trans {g : Mem} {n i a j : Nat} (ha : a < 24) (h1 : rch g n i a = true) (h2 : rch g n a j = true) : rch g n i j = true := pth_trans_k 24 i a j ha h1 h2
def ringB (g : Mem) (n l : Nat) : Bool := anyB (fun w => rch g n (cl (g 49 l)) w && usB g l w) 24
theorem ringB_iff {g : Mem} {n l : Nat} : ringB g n l = true ↔ ∃ w, w < 24 ∧ rch g n (cl (g 49 l)) w = true ∧ S_uses g l w := by
  unfold ringB
  rw [anyB_iff]
  constructor
  · rintro ⟨w, h1, h2⟩
    rw [Bool.and_eq_true, usB_iff] at h2
    exact ⟨w, h1, h2.1, h2.2⟩
  · rintro ⟨w, h1, h2, h3⟩
    exact ⟨w, h1, by rw [Bool.and_eq_true, usB_iff]; exact ⟨h2, h3⟩⟩
/-- how many are met -/
def cm (x : Rw) : Nat → Nat
  | 0 => 0
  | w + 1 => cm x w + (if x w = 0 then 0 else 1)
theorem cm_le (x : Rw) : ∀ w, cm x w ≤ w
  | 0 => Nat.le_refl _
  | w + 1 => by have := cm_le x w; unfold cm; split <;> omega
theorem cm_upd_out {x : Rw} {a : Nat} : ∀ w, w ≤ a → cm (upd x a 1) w = cm x w
  | 0, _ => rfl
  | w + 1, h => by unfold cm; rw [cm_upd_out w (by omega), upd_ne (by omega)]
theorem cm_upd {x : Rw} {a : Nat} (hx : x a = 0) : ∀ w, a < w → cm (upd x a 1) w = cm x w + 1
  | 0, h => by omega
  | w + 1, h => by
    unfold cm
    by_cases e : w = a
    · subst e
      rw [cm_upd_out w (Nat.le_refl _), upd_same, if_neg (by decide), if_pos hx]
    · rw [cm_upd hx w (by omega), upd_ne e]; omega
section MR5
variable {m g : Mem} {n : Nat} {ρ : Rw}
/-- what is met can be come to from d -/
def metS (g : Mem) (n d : Nat) (x : Rw) : Prop := ∀ w, w < 24 → ¬ x w = 0 → rch g n d w = true
end MR5
