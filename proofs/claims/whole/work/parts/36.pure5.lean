/-! the class's run, against the reference's row -/
def FR (r : Nat) (m m' : Mem) : Prop := ∀ i, (i < r ∨ r + 11 < i) → m' i = m i
theorem FR.refl (r : Nat) (m : Mem) : FR r m m := fun _ _ => rfl
theorem FR.trans {r : Nat} {a b c : Mem} (h1 : FR r a b) (h2 : FR r b c) : FR r a c := fun i hi => (h2 i hi).trans (h1 i hi)
theorem FR.up {r j : Nat} {a b : Mem} {v : Rw} (h : FR r a b) (hj : r ≤ j ∧ j ≤ r + 11) : FR r a (va_up b j v) := fun i hi => by
  rw [up_ne (by omega)]; exact h i hi
/-- the class's run at r is the reference's row ρ -/
def RR (r : Nat) (m : Mem) (ρ : Rw) : Prop :=
  (∀ w, w < 24 → m (r + 1) w = ρ (6 + w)) ∧ (∀ w, w < 24 → m (r + 2) w = ρ (30 + w)) ∧ (∀ w, w < 24 → m (r + 3) w = ρ (54 + w)) ∧ (∀ w, w < 24 → m (r + 4) w = ρ (78 + w)) ∧
  (∀ l, l < 30 → m (r + 5) l = ρ (102 + l)) ∧ (∀ l, l < 30 → ¬ ρ (102 + l) = -1 → m (r + 6) l = ρ (132 + l) ∧ m (r + 7) l = ρ (162 + l)) ∧ (∀ l, l < 30 → m (r + 8) l = ρ (192 + l)) ∧
  m r 12 = ρ 5 ∧ m r 13 = ρ 0 ∧ m r 14 = ρ 4 ∧ m r 15 = ρ 1 ∧ m r 16 = ρ 2 ∧ m r 17 = ρ 3 ∧
  (∀ h, h < 40 → h < cl (ρ 5) → m (r + 9) h = ρ (222 + 3 * h) ∧ m (r + 10) h = ρ (222 + 3 * h + 1) ∧ m (r + 11) h = ρ (222 + 3 * h + 2))
theorem RR.pend {r : Nat} {m g : Mem} {n : Nat} {ρ : Rw} {l : Nat} {v : Int32} (hl : l < 30) (h8 : m 8 l = g 53 l) (hr : 23 ≤ r) (h : RR r m ρ) : RR r (up2 (up2 (up2 (up2 m (r + 5) l v) (r + 6) l (m r 13 + m 8 l)) (r + 7) l (m r 14)) r 14 (m r 14 + 1)) (S_pend g ρ l v) := by
  obtain ⟨a0, a1, a2, a3, a4, a5, a6, a7, a8, a9, a10, a11, a12, a13⟩ := h
  unfold S_pend
  refine ⟨?_, ?_, ?_, ?_, ?_, ?_, ?_, ?_, ?_, ?_, ?_, ?_, ?_, ?_⟩
  · intro w hw; simp (disch := omega) only [up2, up_same, up_ne, upd_same, upd_ne]; exact a0 w hw
  · intro w hw; simp (disch := omega) only [up2, up_same, up_ne, upd_same, upd_ne]; exact a1 w hw
  · intro w hw; simp (disch := omega) only [up2, up_same, up_ne, upd_same, upd_ne]; exact a2 w hw
  · intro w hw; simp (disch := omega) only [up2, up_same, up_ne, upd_same, upd_ne]; exact a3 w hw
  · intro w hw
    by_cases e : w = l
    · subst e; simp (disch := omega) only [up2, up_same, up_ne, upd_same, upd_ne]; try (first | exact a4 w hw | simp only [*] | rw [a4 w hw])
    · simp (disch := omega) only [up2, up_same, up_ne, upd_same, upd_ne]; exact a4 w hw
  · intro w hw
    by_cases e : w = l
    · subst e; intro hp2; simp (disch := omega) only [up2, up_same, up_ne, upd_same, upd_ne]; rw [a8, a9, h8]; exact ⟨rfl, rfl⟩
    · simp (disch := omega) only [up2, up_same, up_ne, upd_same, upd_ne]; exact a5 w hw
  · intro w hw; simp (disch := omega) only [up2, up_same, up_ne, upd_same, upd_ne]; exact a6 w hw
  · first | (simp (disch := omega) only [up2, up_same, up_ne, upd_same, upd_ne]; exact a7) | (simp (disch := omega) only [up2, up_same, up_ne, upd_same, upd_ne]; rw [a7]) | (simp (disch := omega) only [up2, up_same, up_ne, upd_same, upd_ne]; simp only [*])
  · first | (simp (disch := omega) only [up2, up_same, up_ne, upd_same, upd_ne]; exact a8) | (simp (disch := omega) only [up2, up_same, up_ne, upd_same, upd_ne]; rw [a8]) | (simp (disch := omega) only [up2, up_same, up_ne, upd_same, upd_ne]; simp only [*])
  · first | (simp (disch := omega) only [up2, up_same, up_ne, upd_same, upd_ne]; exact a9) | (simp (disch := omega) only [up2, up_same, up_ne, upd_same, upd_ne]; rw [a9]) | (simp (disch := omega) only [up2, up_same, up_ne, upd_same, upd_ne]; simp only [*])
  · first | (simp (disch := omega) only [up2, up_same, up_ne, upd_same, upd_ne]; exact a10) | (simp (disch := omega) only [up2, up_same, up_ne, upd_same, upd_ne]; rw [a10]) | (simp (disch := omega) only [up2, up_same, up_ne, upd_same, upd_ne]; simp only [*])
  · first | (simp (disch := omega) only [up2, up_same, up_ne, upd_same, upd_ne]; exact a11) | (simp (disch := omega) only [up2, up_same, up_ne, upd_same, upd_ne]; rw [a11]) | (simp (disch := omega) only [up2, up_same, up_ne, upd_same, upd_ne]; simp only [*])
  · first | (simp (disch := omega) only [up2, up_same, up_ne, upd_same, upd_ne]; exact a12) | (simp (disch := omega) only [up2, up_same, up_ne, upd_same, upd_ne]; rw [a12]) | (simp (disch := omega) only [up2, up_same, up_ne, upd_same, upd_ne]; simp only [*])
  · intro q hq; simp (disch := omega) only [up2, up_same, up_ne, upd_same, upd_ne]; exact a13 q hq
theorem RR.swal {r : Nat} {m g : Mem} {n : Nat} {ρ : Rw} {l : Nat} (hl : l < 30) (h : RR r m ρ) : RR r (up2 (up2 m (r + 5) l (-1)) r 15 (m r 15 + 1)) (upd (upd ρ (102 + l) (-1)) 1 (ρ 1 + 1)) := by
  obtain ⟨a0, a1, a2, a3, a4, a5, a6, a7, a8, a9, a10, a11, a12, a13⟩ := h
  refine ⟨?_, ?_, ?_, ?_, ?_, ?_, ?_, ?_, ?_, ?_, ?_, ?_, ?_, ?_⟩
  · intro w hw; simp (disch := omega) only [up2, up_same, up_ne, upd_same, upd_ne]; exact a0 w hw
  · intro w hw; simp (disch := omega) only [up2, up_same, up_ne, upd_same, upd_ne]; exact a1 w hw
  · intro w hw; simp (disch := omega) only [up2, up_same, up_ne, upd_same, upd_ne]; exact a2 w hw
  · intro w hw; simp (disch := omega) only [up2, up_same, up_ne, upd_same, upd_ne]; exact a3 w hw
  · intro w hw
    by_cases e : w = l
    · subst e; simp (disch := omega) only [up2, up_same, up_ne, upd_same, upd_ne]; try (first | exact a4 w hw | simp only [*] | rw [a4 w hw])
    · simp (disch := omega) only [up2, up_same, up_ne, upd_same, upd_ne]; exact a4 w hw
  · intro w hw
    by_cases e : w = l
    · subst e; intro hp2; exact absurd (by simp (disch := omega) only [upd_ne, upd_same]) hp2
    · simp (disch := omega) only [up2, up_same, up_ne, upd_same, upd_ne]; exact a5 w hw
  · intro w hw; simp (disch := omega) only [up2, up_same, up_ne, upd_same, upd_ne]; exact a6 w hw
  · first | (simp (disch := omega) only [up2, up_same, up_ne, upd_same, upd_ne]; exact a7) | (simp (disch := omega) only [up2, up_same, up_ne, upd_same, upd_ne]; rw [a7]) | (simp (disch := omega) only [up2, up_same, up_ne, upd_same, upd_ne]; simp only [*])
  · first | (simp (disch := omega) only [up2, up_same, up_ne, upd_same, upd_ne]; exact a8) | (simp (disch := omega) only [up2, up_same, up_ne, upd_same, upd_ne]; rw [a8]) | (simp (disch := omega) only [up2, up_same, up_ne, upd_same, upd_ne]; simp only [*])
  · first | (simp (disch := omega) only [up2, up_same, up_ne, upd_same, upd_ne]; exact a9) | (simp (disch := omega) only [up2, up_same, up_ne, upd_same, upd_ne]; rw [a9]) | (simp (disch := omega) only [up2, up_same, up_ne, upd_same, upd_ne]; simp only [*])
  · first | (simp (disch := omega) only [up2, up_same, up_ne, upd_same, upd_ne]; exact a10) | (simp (disch := omega) only [up2, up_same, up_ne, upd_same, upd_ne]; rw [a10]) | (simp (disch := omega) only [up2, up_same, up_ne, upd_same, upd_ne]; simp only [*])
  · first | (simp (disch := omega) only [up2, up_same, up_ne, upd_same, upd_ne]; exact a11) | (simp (disch := omega) only [up2, up_same, up_ne, upd_same, upd_ne]; rw [a11]) | (simp (disch := omega) only [up2, up_same, up_ne, upd_same, upd_ne]; simp only [*])
  · first | (simp (disch := omega) only [up2, up_same, up_ne, upd_same, upd_ne]; exact a12) | (simp (disch := omega) only [up2, up_same, up_ne, upd_same, upd_ne]; rw [a12]) | (simp (disch := omega) only [up2, up_same, up_ne, upd_same, upd_ne]; simp only [*])
  · intro q hq; simp (disch := omega) only [up2, up_same, up_ne, upd_same, upd_ne]; exact a13 q hq
theorem RR.rise {r : Nat} {m g : Mem} {n : Nat} {ρ : Rw} {l : Nat} (hl : l < 30) (h : RR r m ρ) : RR r (up2 m (r + 8) l (m r 13)) (upd ρ (192 + l) (ρ 0)) := by
  obtain ⟨a0, a1, a2, a3, a4, a5, a6, a7, a8, a9, a10, a11, a12, a13⟩ := h
  refine ⟨?_, ?_, ?_, ?_, ?_, ?_, ?_, ?_, ?_, ?_, ?_, ?_, ?_, ?_⟩
  · intro w hw; simp (disch := omega) only [up2, up_same, up_ne, upd_same, upd_ne]; exact a0 w hw
  · intro w hw; simp (disch := omega) only [up2, up_same, up_ne, upd_same, upd_ne]; exact a1 w hw
  · intro w hw; simp (disch := omega) only [up2, up_same, up_ne, upd_same, upd_ne]; exact a2 w hw
  · intro w hw; simp (disch := omega) only [up2, up_same, up_ne, upd_same, upd_ne]; exact a3 w hw
  · intro w hw; simp (disch := omega) only [up2, up_same, up_ne, upd_same, upd_ne]; exact a4 w hw
  · intro w hw; simp (disch := omega) only [up2, up_same, up_ne, upd_same, upd_ne]; exact a5 w hw
  · intro w hw
    by_cases e : w = l
    · subst e; simp (disch := omega) only [up2, up_same, up_ne, upd_same, upd_ne]; try (first | exact a6 w hw | simp only [*] | rw [a6 w hw])
    · simp (disch := omega) only [up2, up_same, up_ne, upd_same, upd_ne]; exact a6 w hw
  · first | (simp (disch := omega) only [up2, up_same, up_ne, upd_same, upd_ne]; exact a7) | (simp (disch := omega) only [up2, up_same, up_ne, upd_same, upd_ne]; rw [a7]) | (simp (disch := omega) only [up2, up_same, up_ne, upd_same, upd_ne]; simp only [*])
  · first | (simp (disch := omega) only [up2, up_same, up_ne, upd_same, upd_ne]; exact a8) | (simp (disch := omega) only [up2, up_same, up_ne, upd_same, upd_ne]; rw [a8]) | (simp (disch := omega) only [up2, up_same, up_ne, upd_same, upd_ne]; simp only [*])
  · first | (simp (disch := omega) only [up2, up_same, up_ne, upd_same, upd_ne]; exact a9) | (simp (disch := omega) only [up2, up_same, up_ne, upd_same, upd_ne]; rw [a9]) | (simp (disch := omega) only [up2, up_same, up_ne, upd_same, upd_ne]; simp only [*])
  · first | (simp (disch := omega) only [up2, up_same, up_ne, upd_same, upd_ne]; exact a10) | (simp (disch := omega) only [up2, up_same, up_ne, upd_same, upd_ne]; rw [a10]) | (simp (disch := omega) only [up2, up_same, up_ne, upd_same, upd_ne]; simp only [*])
  · first | (simp (disch := omega) only [up2, up_same, up_ne, upd_same, upd_ne]; exact a11) | (simp (disch := omega) only [up2, up_same, up_ne, upd_same, upd_ne]; rw [a11]) | (simp (disch := omega) only [up2, up_same, up_ne, upd_same, upd_ne]; simp only [*])
  · first | (simp (disch := omega) only [up2, up_same, up_ne, upd_same, upd_ne]; exact a12) | (simp (disch := omega) only [up2, up_same, up_ne, upd_same, upd_ne]; rw [a12]) | (simp (disch := omega) only [up2, up_same, up_ne, upd_same, upd_ne]; simp only [*])
  · intro q hq; simp (disch := omega) only [up2, up_same, up_ne, upd_same, upd_ne]; exact a13 q hq
theorem RR.chg0 {r : Nat} {m g : Mem} {n : Nat} {ρ : Rw} {x : Nat} {v : Int32} (hx : x < 24) (h : RR r m ρ) : RR r (up2 (up2 (up2 (up2 m (r + 1) x v) (r + 2) x (m r 13)) (r + 3) x (m (r + 3) x + 1)) r 17 (m r 17 + 1)) (S_chg0 x v ρ) := by
  obtain ⟨a0, a1, a2, a3, a4, a5, a6, a7, a8, a9, a10, a11, a12, a13⟩ := h
  unfold S_chg0
  refine ⟨?_, ?_, ?_, ?_, ?_, ?_, ?_, ?_, ?_, ?_, ?_, ?_, ?_, ?_⟩
  · intro w hw
    by_cases e : w = x
    · subst e; simp (disch := omega) only [up2, up_same, up_ne, upd_same, upd_ne]; try (first | exact a0 w hw | simp only [*] | rw [a0 w hw])
    · simp (disch := omega) only [up2, up_same, up_ne, upd_same, upd_ne]; exact a0 w hw
  · intro w hw
    by_cases e : w = x
    · subst e; simp (disch := omega) only [up2, up_same, up_ne, upd_same, upd_ne]; try (first | exact a1 w hw | simp only [*] | rw [a1 w hw])
    · simp (disch := omega) only [up2, up_same, up_ne, upd_same, upd_ne]; exact a1 w hw
  · intro w hw
    by_cases e : w = x
    · subst e; simp (disch := omega) only [up2, up_same, up_ne, upd_same, upd_ne]; try (first | exact a2 w hw | simp only [*] | rw [a2 w hw])
    · simp (disch := omega) only [up2, up_same, up_ne, upd_same, upd_ne]; exact a2 w hw
  · intro w hw; simp (disch := omega) only [up2, up_same, up_ne, upd_same, upd_ne]; exact a3 w hw
  · intro w hw; simp (disch := omega) only [up2, up_same, up_ne, upd_same, upd_ne]; exact a4 w hw
  · intro w hw; simp (disch := omega) only [up2, up_same, up_ne, upd_same, upd_ne]; exact a5 w hw
  · intro w hw; simp (disch := omega) only [up2, up_same, up_ne, upd_same, upd_ne]; exact a6 w hw
  · first | (simp (disch := omega) only [up2, up_same, up_ne, upd_same, upd_ne]; exact a7) | (simp (disch := omega) only [up2, up_same, up_ne, upd_same, upd_ne]; rw [a7]) | (simp (disch := omega) only [up2, up_same, up_ne, upd_same, upd_ne]; simp only [*])
  · first | (simp (disch := omega) only [up2, up_same, up_ne, upd_same, upd_ne]; exact a8) | (simp (disch := omega) only [up2, up_same, up_ne, upd_same, upd_ne]; rw [a8]) | (simp (disch := omega) only [up2, up_same, up_ne, upd_same, upd_ne]; simp only [*])
  · first | (simp (disch := omega) only [up2, up_same, up_ne, upd_same, upd_ne]; exact a9) | (simp (disch := omega) only [up2, up_same, up_ne, upd_same, upd_ne]; rw [a9]) | (simp (disch := omega) only [up2, up_same, up_ne, upd_same, upd_ne]; simp only [*])
  · first | (simp (disch := omega) only [up2, up_same, up_ne, upd_same, upd_ne]; exact a10) | (simp (disch := omega) only [up2, up_same, up_ne, upd_same, upd_ne]; rw [a10]) | (simp (disch := omega) only [up2, up_same, up_ne, upd_same, upd_ne]; simp only [*])
  · first | (simp (disch := omega) only [up2, up_same, up_ne, upd_same, upd_ne]; exact a11) | (simp (disch := omega) only [up2, up_same, up_ne, upd_same, upd_ne]; rw [a11]) | (simp (disch := omega) only [up2, up_same, up_ne, upd_same, upd_ne]; simp only [*])
  · first | (simp (disch := omega) only [up2, up_same, up_ne, upd_same, upd_ne]; exact a12) | (simp (disch := omega) only [up2, up_same, up_ne, upd_same, upd_ne]; rw [a12]) | (simp (disch := omega) only [up2, up_same, up_ne, upd_same, upd_ne]; simp only [*])
  · intro q hq; simp (disch := omega) only [up2, up_same, up_ne, upd_same, upd_ne]; exact a13 q hq
theorem RR.come {r : Nat} {m g : Mem} {n : Nat} {ρ : Rw} {l : Nat} (hl : l < 30) (hp : ¬ ρ (102 + l) = -1) (h : RR r m ρ) : RR r (up2 (up2 m r 13 (m (r + 6) l)) (r + 5) l (-1)) (upd (upd ρ (102 + l) (-1)) 0 (ρ (132 + l))) := by
  obtain ⟨a0, a1, a2, a3, a4, a5, a6, a7, a8, a9, a10, a11, a12, a13⟩ := h
  have a5l := (a5 l hl hp).1
  refine ⟨?_, ?_, ?_, ?_, ?_, ?_, ?_, ?_, ?_, ?_, ?_, ?_, ?_, ?_⟩
  · intro w hw; simp (disch := omega) only [up2, up_same, up_ne, upd_same, upd_ne]; exact a0 w hw
  · intro w hw; simp (disch := omega) only [up2, up_same, up_ne, upd_same, upd_ne]; exact a1 w hw
  · intro w hw; simp (disch := omega) only [up2, up_same, up_ne, upd_same, upd_ne]; exact a2 w hw
  · intro w hw; simp (disch := omega) only [up2, up_same, up_ne, upd_same, upd_ne]; exact a3 w hw
  · intro w hw
    by_cases e : w = l
    · subst e; simp (disch := omega) only [up2, up_same, up_ne, upd_same, upd_ne]; try (first | exact a4 w hw | simp only [*] | rw [a4 w hw])
    · simp (disch := omega) only [up2, up_same, up_ne, upd_same, upd_ne]; exact a4 w hw
  · intro w hw
    by_cases e : w = l
    · subst e; intro hp2; exact absurd (by simp (disch := omega) only [upd_ne, upd_same]) hp2
    · simp (disch := omega) only [up2, up_same, up_ne, upd_same, upd_ne]; exact a5 w hw
  · intro w hw; simp (disch := omega) only [up2, up_same, up_ne, upd_same, upd_ne]; exact a6 w hw
  · first | (simp (disch := omega) only [up2, up_same, up_ne, upd_same, upd_ne]; exact a7) | (simp (disch := omega) only [up2, up_same, up_ne, upd_same, upd_ne]; rw [a7]) | (simp (disch := omega) only [up2, up_same, up_ne, upd_same, upd_ne]; simp only [*])
  · first | (simp (disch := omega) only [up2, up_same, up_ne, upd_same, upd_ne]; exact a8) | (simp (disch := omega) only [up2, up_same, up_ne, upd_same, upd_ne]; rw [a8]) | (simp (disch := omega) only [up2, up_same, up_ne, upd_same, upd_ne]; simp only [*])
  · first | (simp (disch := omega) only [up2, up_same, up_ne, upd_same, upd_ne]; exact a9) | (simp (disch := omega) only [up2, up_same, up_ne, upd_same, upd_ne]; rw [a9]) | (simp (disch := omega) only [up2, up_same, up_ne, upd_same, upd_ne]; simp only [*])
  · first | (simp (disch := omega) only [up2, up_same, up_ne, upd_same, upd_ne]; exact a10) | (simp (disch := omega) only [up2, up_same, up_ne, upd_same, upd_ne]; rw [a10]) | (simp (disch := omega) only [up2, up_same, up_ne, upd_same, upd_ne]; simp only [*])
  · first | (simp (disch := omega) only [up2, up_same, up_ne, upd_same, upd_ne]; exact a11) | (simp (disch := omega) only [up2, up_same, up_ne, upd_same, upd_ne]; rw [a11]) | (simp (disch := omega) only [up2, up_same, up_ne, upd_same, upd_ne]; simp only [*])
  · first | (simp (disch := omega) only [up2, up_same, up_ne, upd_same, upd_ne]; exact a12) | (simp (disch := omega) only [up2, up_same, up_ne, upd_same, upd_ne]; rw [a12]) | (simp (disch := omega) only [up2, up_same, up_ne, upd_same, upd_ne]; simp only [*])
  · intro q hq; simp (disch := omega) only [up2, up_same, up_ne, upd_same, upd_ne]; exact a13 q hq
