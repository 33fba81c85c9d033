/-! the class's run, against the reference's row -/
def FR (r : Nat) (m m' : Mem) : Prop := ∀ i, (i < r ∨ r + 11 < i) → m' i = m i
theorem FR.refl (r : Nat) (m : Mem) : FR r m m := fun _ _ => rfl
theorem FR.trans {r : Nat} {a b c : Mem} (h1 : FR r a b) (h2 : FR r b c) : FR r a c := fun i hi => (h2 i hi).trans (h1 i hi)
theorem FR.up {r j : Nat} {a b : Mem} {v : Rw} (h : FR r a b) (hj : r ≤ j ∧ j ≤ r + 11) : FR r a (va_up b j v) := fun i hi => by
  rw [up_ne (by omega)]; exact h i hi
/-- the class's run at r is the reference's row ρ -/
def RR (r : Nat) (m : Mem) (ρ : Rw) : Prop :=
  (∀ w, w < 24 → m (r + 1) w = ρ (6 + w)) ∧ (∀ w, w < 24 → m (r + 2) w = ρ (30 + w)) ∧ (∀ w, w < 24 → m (r + 3) w = ρ (54 + w)) ∧ (∀ w, w < 24 → m (r + 4) w = ρ (78 + w)) ∧
  (∀ l, l < 30 → m (r + 5) l = ρ (102 + l)) ∧ (∀ l, l < 30 → ¬ ρ (102 + l) = -1 → m (r + 6) l = ρ (132 + l) ∧ m (r + 7) l = ρ (162 + l)) ∧ (∀ l, l < 30 → m (r + 8) l = ρ (192 + l)) ∧
  m r 12 = ρ 5 ∧ m r 13 = ρ 0 ∧ m r 14 = ρ 4 ∧ m r 15 = ρ 1 ∧ m r 16 = ρ 2 ∧ m r 17 = ρ 3 ∧
  (∀ h, h < 40 → h < cl (ρ 5) → m (r + 9) h = ρ (222 + 3 * h) ∧ m (r + 10) h = ρ (222 + 3 * h + 1) ∧ m (r + 11) h = ρ (222 + 3 * h + 2))
theorem RR.pend {r : Nat} {m g : Mem} {n : Nat} {ρ : Rw} {l : Nat} {v : Int32} (hl : l < 30) (h8 : m 8 l = g 53 l) (hr : 23 ≤ r) (h : RR r m ρ) : RR r (up2 (up2 (up2 (up2 m (r + 5) l v) (r + 6) l (m r 13 + m 8 l)) (r + 7) l (m r 14)) r 14 (m r 14 + 1)) (S_pend g ρ l v) := by
  obtain ⟨a0, a1, a2, a3, a4, a5, a6, a7, a8, a9, a10, a11, a12, a13⟩ := h
  unfold S_pend
  refine ⟨?_, ?_, ?_, ?_, ?_, ?_, ?_, ?_, ?_, ?_, ?_, ?_, ?_, ?_⟩
  · intro w hw; simp (disch := omega) only [up2, up_same, up_ne, upd_same, upd_ne]; exact a0 w hw
  · intro w hw; simp (disch := omega) only [up2, up_same, up_ne, upd_same, upd_ne]; exact a1 w hw
  · intro w hw; simp (disch := omega) only [up2, up_same, up_ne, upd_same, upd_ne]; exact a2 w hw
  · intro w hw; simp (disch := omega) only [up2, up_same, up_ne, upd_same, upd_ne]; exact a3 w hw
  · intro w hw
    by_cases e : w = l
    · subst e; simp (disch := omega) only [up2, up_same, up_ne, upd_same, upd_ne]; try (first | exact a4 w hw | simp only [*] | rw [a4 w hw])
    · simp (disch := omega) only [up2, up_same, up_ne, upd_same, upd_ne]; exact a4 w hw
  · intro w hw
    by_cases e : w = l
    · subst e; intro hp2; simp (disch := omega) only [up2, up_same, up_ne, upd_same, upd_ne]; rw [a8, a9, h8]; exact ⟨rfl, rfl⟩
    · simp (disch := omega) only [up2, up_same, up_ne, upd_same, upd_ne]; exact a5 w hw
  · intro w hw; simp (disch := omega) only [up2, up_same, up_ne, upd_same, upd_ne]; exact a6 w hw
  · first | (simp (disch := omega) only [up2, up_same, up_ne, upd_same, upd_ne]; exact a7) | (simp (disch := omega) only [up2, up_same, up_ne, upd_same, upd_ne]; rw [a7]) | (simp (disch := omega) only [up2, up_same, up_ne, upd_same, upd_ne]; simp only [*])
  · first | (simp (disch := omega) only [up2, up_same, up_ne, upd_same, upd_ne]; exact a8) | (simp (disch := omega) only [up2, up_same, up_ne, upd_same, upd_ne]; rw [a8]) | (simp (disch := omega) only [up2, up_same, up_ne, upd_same, upd_ne]; simp only [*])
  · first | (simp (disch := omega) only [up2, up_same, up_ne, upd_same, upd_ne]; exact a9) | (simp (disch := omega) only [up2, up_same, up_ne, upd_same, upd_ne]; rw [a9]) | (simp (disch := omega) only [up2, up_same, up_ne, upd_same, upd_ne]; simp only [*])
  · first | (simp (disch := omega) only [up2, up_same, up_ne, upd_same, upd_ne]; exact a10) | (simp (disch := omega) only [up2, up_same, up_ne, upd_same, upd_ne]; rw [a10]) | (simp (disch := omega) only [up2, up_same, up_ne, upd_same, upd_ne]; simp only [*])
  · first | (simp (disch := omega) only [up2, up_same, up_ne, upd_same, upd_ne]; exact a11) | (simp (disch := omega) only [up2, up_same, up_ne, upd_same, upd_ne]; rw [a11]) | (simp (disch := omega) only [up2, up_same, up_ne, upd_same, upd_ne]; simp only [*])
  · first | (simp (disch := omega) only [up2, up_same, up_ne, upd_same, upd_ne]; exact a12) | (simp (disch := omega) only [up2, up_same, up_ne, upd_same, upd_ne]; rw [a12]) | (simp (disch := omega) only [up2, up_same, up_ne, upd_same, upd_ne]; simp only [*])
  · intro q hq; simp (disch := omega) only [up2, up_same, up_ne, upd_same, upd_ne]; exact a13 q hq
theorem RR.swal {r : Nat} {m g : Mem} {n : Nat} {ρ : Rw} {l : Nat} (hl : l < 30) (h : RR r m ρ) : RR r (up2 (up2 m (r + 5) l (-1)) r 15 (m r 15 + 1)) (upd (upd ρ (102 + l) (-1)) 1 (ρ 1 + 1)) := by
  obtain ⟨a0, a1, a2, a3, a4, a5, a6, a7, a8, a9, a10, a11, a12, a13⟩ := h
  refine ⟨?_, ?_, ?_, ?_, ?_, ?_, ?_, ?_, ?_, ?_, ?_, ?_, ?_, ?_⟩
  · intro w hw; simp (disch := omega) only [up2, up_same, up_ne, upd_same, upd_ne]; exact a0 w hw
  · intro w hw; simp (disch := omega) only [up2, up_same, up_ne, upd_same, upd_ne]; exact a1 w hw
  · intro w hw; simp (disch := omega) only [up2, up_same, up_ne, upd_same, upd_ne]; exact a2 w hw
  · intro w hw; simp (disch := omega) only [up2, up_same, up_ne, upd_same, upd_ne]; exact a3 w hw
  · intro w hw
    by_cases e : w = l
    · subst e; simp (disch := omega) only [up2, up_same, up_ne, upd_same, upd_ne]; try (first | exact a4 w hw | simp only [*] | rw [a4 w hw])
    · simp (disch := omega) only [up2, up_same, up_ne, upd_same, upd_ne]; exact a4 w hw
  · intro w hw
    by_cases e : w = l
    · subst e; intro hp2; exact absurd (by simp (disch := omega) only [upd_ne, upd_same]) hp2
    · simp (disch := omega) only [up2, up_same, up_ne, upd_same, upd_ne]; exact a5 w hw
  · intro w hw; simp (disch := omega) only [up2, up_same, up_ne, upd_same, upd_ne]; exact a6 w hw
  · first | (simp (disch := omega) only [up2, up_same, up_ne, upd_same, upd_ne]; exact a7) | (simp (disch := omega) only [up2, up_same, up_ne, upd_same, upd_ne]; rw [a7]) | (simp (disch := omega) only [up2, up_same, up_ne, upd_same, upd_ne]; simp only [*])
  · first | (simp (disch := omega) only [up2, up_same, up_ne, upd_same, upd_ne]; exact a8) | (simp (disch := omega) only [up2, up_same, up_ne, upd_same, upd_ne]; rw [a8]) | (simp (disch := omega) only [up2, up_same, up_ne, upd_same, upd_ne]; simp only [*])
  · first | (simp (disch := omega) only [up2, up_same, up_ne, upd_same, upd_ne]; exact a9) | (simp (disch := omega) only [up2, up_same, up_ne, upd_same, upd_ne]; rw [a9]) | (simp (disch := omega) only [up2, up_same, up_ne, upd_same, upd_ne]; simp only [*])
  · first | (simp (disch := omega) only [up2, up_same, up_ne, upd_same, upd_ne]; exact a10) | (simp (disch := omega) only [up2, up_same, up_ne, upd_same, upd_ne]; rw [a10]) | (simp (disch := omega) only [up2, up_same, up_ne, upd_same, upd_ne]; simp only [*])
  · first | (simp (disch := omega) only [up2, up_same, up_ne, upd_same, upd_ne]; exact a11) | (simp (disch := omega) only [up2, up_same, up_ne, upd_same, upd_ne]; rw [a11]) | (simp (disch := omega) only [up2, up_same, up_ne, upd_same, upd_ne]; simp only [*])
  · first | (simp (disch := omega) only [up2, up_same, up_ne, upd_same, upd_ne]; exact a12) | (simp (disch := omega) only [up2, up_same, up_ne, upd_same, upd_ne]; rw [a12]) | (simp (disch := omega) only [up2, up_same, up_ne, upd_same, upd_ne]; simp only [*])
  · intro q hq; simp (disch := omega) only [up2, up_same, up_ne, upd_same, upd_ne]; exact a13 q hq
theorem RR.rise {r : Nat} {m g : Mem} {n : Nat} {ρ : Rw} {l : Nat} (hl : l < 30) (h : RR r m ρ) : RR r (up2 m (r + 8) l (m r 13)) (upd ρ (192 + l) (ρ 0)) := by
  obtain ⟨a0, a1, a2, a3, a4, a5, a6, a7, a8, a9, a10, a11, a12, a13⟩ := h
  refine ⟨?_, ?_, ?_, ?_, ?_, ?_, ?_, ?_, ?_, ?_, ?_, ?_, ?_, ?_⟩
  · intro w hw; simp (disch := omega) only [up2, up_same, up_ne, upd_same, upd_ne]; exact a0 w hw
  · intro w hw; simp (disch := omega) only [up2, up_same, up_ne, upd_same, upd_ne]; exact a1 w hw
  · intro w hw; simp (disch := omega) only [up2, up_same, up_ne, upd_same, upd_ne]; exact a2 w hw
  · intro w hw; simp (disch := omega) only [up2, up_same, up_ne, upd_same, upd_ne]; exact a3 w hw
  · intro w hw; simp (disch := omega) only [up2, up_same, up_ne, upd_same, upd_ne]; exact a4 w hw
  · intro w hw; simp (disch := omega) only [up2, up_same, up_ne, upd_same, upd_ne]; exact a5 w hw
  · intro w hw
    by_cases e : w = l
    · subst e; simp (disch := omega) only [up2, up_same, up_ne, upd_same, upd_ne]; try (first | exact a6 w hw | simp only [*] | rw [a6 w hw])
    · simp (disch := omega) only [up2, up_same, up_ne, upd_same, upd_ne]; exact a6 w hw
  · first | (simp (disch := omega) only [up2, up_same, up_ne, upd_same, upd_ne]; exact a7) | (simp (disch := omega) only [up2, up_same, up_ne, upd_same, upd_ne]; rw [a7]) | (simp (disch := omega) only [up2, up_same, up_ne, upd_same, upd_ne]; simp only [*])
  · first | (simp (disch := omega) only [up2, up_same, up_ne, upd_same, upd_ne]; exact a8) | (simp (disch := omega) only [up2, up_same, up_ne, upd_same, upd_ne]; rw [a8]) | (simp (disch := omega) only [up2, up_same, up_ne, upd_same, upd_ne]; simp only [*])
  · first | (simp (disch := omega) only [up2, up_same, up_ne, upd_same, upd_ne]; exact a9) | (simp (disch := omega) only [up2, up_same, up_ne, upd_same, upd_ne]; rw [a9]) | (simp (disch := omega) only [up2, up_same, up_ne, upd_same, upd_ne]; simp only [*])
  · first | (simp (disch := omega) only [up2, up_same, up_ne, upd_same, upd_ne]; exact a10) | (simp (disch := omega) only [up2, up_same, up_ne, upd_same, upd_ne]; rw [a10]) | (simp (disch := omega) only [up2, up_same, up_ne, upd_same, upd_ne]; simp only [*])
  · first | (simp (disch := omega) only [up2, up_same, up_ne, upd_same, upd_ne]; exact a11) | (simp (disch := omega) only [up2, up_same, up_ne, upd_same, upd_ne]; rw [a11]) | (simp (disch := omega) only [up2, up_same, up_ne, upd_same, upd_ne]; simp only [*])
  · first | (simp (disch := omega) only [up2, up_same, up_ne, upd_same, upd_ne]; exact a12) | (simp (disch := omega) only [up2, up_same, up_ne, upd_same, upd_ne]; rw [a12]) | (simp (disch := omega) only [up2, up_same, up_ne, upd_same, upd_ne]; simp only [*])
  · intro q hq; simp (disch := omega) only [up2, up_same, up_ne, upd_same, upd_ne]; exact a13 q hq
theorem RR.chg0 {r : Nat} {m g : Mem} {n : Nat} {ρ : Rw} {x : Nat} {v : Int32} (hx : x < 24) (h : RR r m ρ) : RR r (up2 (up2 (up2 (up2 m (r + 1) x v) (r + 2) x (m r 13)) (r + 3) x (m (r + 3) x + 1)) r 17 (m r 17 + 1)) (S_chg0 x v ρ) := by
  obtain ⟨a0, a1, a2, a3, a4, a5, a6, a7, a8, a9, a10, a11, a12, a13⟩ := h
  unfold S_chg0
  refine ⟨?_, ?_, ?_, ?_, ?_, ?_, ?_, ?_, ?_, ?_, ?_, ?_, ?_, ?_⟩
  · intro w hw
    by_cases e : w = x
    · subst e; simp (disch := omega) only [up2, up_same, up_ne, upd_same, upd_ne]; try (first | exact a0 w hw | simp only [*] | rw [a0 w hw])
    · simp (disch := omega) only [up2, up_same, up_ne, upd_same, upd_ne]; exact a0 w hw
  · intro w hw
    by_cases e : w = x
    · subst e; simp (disch := omega) only [up2, up_same, up_ne, upd_same, upd_ne]; try (first | exact a1 w hw | simp only [*] | rw [a1 w hw])
    · simp (disch := omega) only [up2, up_same, up_ne, upd_same, upd_ne]; exact a1 w hw
  · intro w hw
    by_cases e : w = x
    · subst e; simp (disch := omega) only [up2, up_same, up_ne, upd_same, upd_ne]; try (first | exact a2 w hw | simp only [*] | rw [a2 w hw])
    · simp (disch := omega) only [up2, up_same, up_ne, upd_same, upd_ne]; exact a2 w hw
  · intro w hw; simp (disch := omega) only [up2, up_same, up_ne, upd_same, upd_ne]; exact a3 w hw
  · intro w hw; simp (disch := omega) only [up2, up_same, up_ne, upd_same, upd_ne]; exact a4 w hw
  · intro w hw; simp (disch := omega) only [up2, up_same, up_ne, upd_same, upd_ne]; exact a5 w hw
  · intro w hw; simp (disch := omega) only [up2, up_same, up_ne, upd_same, upd_ne]; exact a6 w hw
  · first | (simp (disch := omega) only [up2, up_same, up_ne, upd_same, upd_ne]; exact a7) | (simp (disch := omega) only [up2, up_same, up_ne, upd_same, upd_ne]; rw [a7]) | (simp (disch := omega) only [up2, up_same, up_ne, upd_same, upd_ne]; simp only [*])
  · first | (simp (disch := omega) only [up2, up_same, up_ne, upd_same, upd_ne]; exact a8) | (simp (disch := omega) only [up2, up_same, up_ne, upd_same, upd_ne]; rw [a8]) | (simp (disch := omega) only [up2, up_same, up_ne, upd_same, upd_ne]; simp only [*])
  · first | (simp (disch := omega) only [up2, up_same, up_ne, upd_same, upd_ne]; exact a9) | (simp (disch := omega) only [up2, up_same, up_ne, upd_same, upd_ne]; rw [a9]) | (simp (disch := omega) only [up2, up_same, up_ne, upd_same, upd_ne]; simp only [*])
  · first | (simp (disch := omega) only [up2, up_same, up_ne, upd_same, upd_ne]; exact a10) | (simp (disch := omega) only [up2, up_same, up_ne, upd_same, upd_ne]; rw [a10]) | (simp (disch := omega) only [up2, up_same, up_ne, upd_same, upd_ne]; simp only [*])
  · first | (simp (disch := omega) only [up2, up_same, up_ne, upd_same, upd_ne]; exact a11) | (simp (disch := omega) only [up2, up_same, up_ne, upd_same, upd_ne]; rw [a11]) | (simp (disch := omega) only [up2, up_same, up_ne, upd_same, upd_ne]; simp only [*])
  · first | (simp (disch := omega) only [up2, up_same, up_ne, upd_same, upd_ne]; exact a12) | (simp (disch := omega) only [up2, up_same, up_ne, upd_same, upd_ne]; rw [a12]) | (simp (disch := omega) only [up2, up_same, up_ne, upd_same, upd_ne]; simp only [*])
  · intro q hq; simp (disch := omega) only [up2, up_same, up_ne, upd_same, upd_ne]; exact a13 q hq
theorem RR.come {r : Nat} {m g : Mem} {n : Nat} {ρ : Rw} {l : Nat} (hl : l < 30) (hp : ¬ ρ (102 + l) = -1) (h : RR r m ρ) : RR r (up2 (up2 m r 13 (m (r + 6) l)) (r + 5) l (-1)) (upd (upd ρ (102 + l) (-1)) 0 (ρ (132 + l))) := by
  obtain ⟨a0, a1, a2, a3, a4, a5, a6, a7, a8, a9, a10, a11, a12, a13⟩ := h
  have a5l := (a5 l hl hp).1
  refine ⟨?_, ?_, ?_, ?_, ?_, ?_, ?_, ?_, ?_, ?_, ?_, ?_, ?_, ?_⟩
  · intro w hw; simp (disch := omega) only [up2, up_same, up_ne, upd_same, upd_ne]; exact a0 w hw
  · intro w hw; simp (disch := omega) only [up2, up_same, up_ne, upd_same, upd_ne]; exact a1 w hw
  · intro w hw; simp (disch := omega) only [up2, up_same, up_ne, upd_same, upd_ne]; exact a2 w hw
  · intro w hw; simp (disch := omega) only [up2, up_same, up_ne, upd_same, upd_ne]; exact a3 w hw
  · intro w hw
    by_cases e : w = l
    · subst e; simp (disch := omega) only [up2, up_same, up_ne, upd_same, upd_ne]; try (first | exact a4 w hw | simp only [*] | rw [a4 w hw])
    · simp (disch := omega) only [up2, up_same, up_ne, upd_same, upd_ne]; exact a4 w hw
  · intro w hw
    by_cases e : w = l
    · subst e; intro hp2; exact absurd (by simp (disch := omega) only [upd_ne, upd_same]) hp2
    · simp (disch := omega) only [up2, up_same, up_ne, upd_same, upd_ne]; exact a5 w hw
  · intro w hw; simp (disch := omega) only [up2, up_same, up_ne, upd_same, upd_ne]; exact a6 w hw
  · first | (simp (disch := omega) only [up2, up_same, up_ne, upd_same, upd_ne]; exact a7) | (simp (disch := omega) only [up2, up_same, up_ne, upd_same, upd_ne]; rw [a7]) | (simp (disch := omega) only [up2, up_same, up_ne, upd_same, upd_ne]; simp only [*])
  · first | (simp (disch := omega) only [up2, up_same, up_ne, upd_same, upd_ne]; exact a8) | (simp (disch := omega) only [up2, up_same, up_ne, upd_same, upd_ne]; rw [a8]) | (simp (disch := omega) only [up2, up_same, up_ne, upd_same, upd_ne]; simp only [*])
  · first | (simp (disch := omega) only [up2, up_same, up_ne, upd_same, upd_ne]; exact a9) | (simp (disch := omega) only [up2, up_same, up_ne, upd_same, upd_ne]; rw [a9]) | (simp (disch := omega) only [up2, up_same, up_ne, upd_same, upd_ne]; simp only [*])
  · first | (simp (disch := omega) only [up2, up_same, up_ne, upd_same, upd_ne]; exact a10) | (simp (disch := omega) only [up2, up_same, up_ne, upd_same, upd_ne]; rw [a10]) | (simp (disch := omega) only [up2, up_same, up_ne, upd_same, upd_ne]; simp only [*])
  · first | (simp (disch := omega) only [up2, up_same, up_ne, upd_same, upd_ne]; exact a11) | (simp (disch := omega) only [up2, up_same, up_ne, upd_same, upd_ne]; rw [a11]) | (simp (disch := omega) only [up2, up_same, up_ne, upd_same, upd_ne]; simp only [*])
  · first | (simp (disch := omega) only [up2, up_same, up_ne, upd_same, upd_ne]; exact a12) | (simp (disch := omega) only [up2, up_same, up_ne, upd_same, upd_ne]; rw [a12]) | (simp (disch := omega) only [up2, up_same, up_ne, upd_same, upd_ne]; simp only [*])
  · intro q hq; simp (disch := omega) only [up2, up_same, up_ne, upd_same, upd_ne]; exact a13 q hq
theorem S_give_lo {n i : Nat} {ρ : Rw} (hn : n ≤ 30) (h : i < 102 ∨ 132 ≤ i) : S_give n ρ i = ρ i := by
  rw [S_give, S_giveL_at, if_neg (by omega)]
theorem S_give_in {n l : Nat} {ρ : Rw} (hn : n ≤ 30) (hp : ∀ l, n ≤ l → l < 30 → ρ (102 + l) = -1) (h : l < 30) : S_give n ρ (102 + l) = -1 := by
  rw [S_give, S_giveL_at]
  by_cases hl : l < n
  · rw [if_pos (by omega)]
  · rw [if_neg (by omega)]; exact hp l (by omega) h
theorem S_begin_lo {i : Nat} {ρ : Rw} (h : i < 54 ∨ 102 ≤ i) : S_begin ρ i = ρ i := by
  rw [S_begin, if_neg (by omega), if_neg (by omega)]
theorem S_begin_54 {w : Nat} {ρ : Rw} (h : w < 24) : S_begin ρ (54 + w) = 0 := by
  rw [S_begin, if_pos (by omega)]
theorem S_begin_78 {w : Nat} {ρ : Rw} (h : w < 24) : S_begin ρ (78 + w) = ρ (6 + w) := by
  rw [S_begin, if_neg (by omega), if_pos (by omega), show 78 + w - 72 = 6 + w by omega]
theorem jfill_in {f : Rw} {n w : Nat} {v : Int32} (h : w < n) : jfill f n v w = v := by simp [jfill, h]
theorem cpy_in {f g : Rw} {n w : Nat} (h : w < n) : va_cpy f g 0 0 n w = f w := by
  simp only [va_cpy]
  rw [if_pos (by omega), show 0 + (w - 0) = w by omega]
theorem RR.haz {r : Nat} {m g : Mem} {n : Nat} {ρ : Rw} {q0 : Nat} {c w0 : Int32} (h40 : q0 < 40) (e5 : ρ 5 = nI q0) (h : RR r m ρ) : RR r (up2 (up2 (up2 (up2 m (r + 9) q0 c) (r + 10) q0 w0) (r + 11) q0 (m r 13)) r 12 (m r 12 + 1)) (S_haz ρ c w0) := by
  obtain ⟨a0, a1, a2, a3, a4, a5, a6, a7, a8, a9, a10, a11, a12, a13⟩ := h
  have h5 : ¬ ρ 5 = 40 := fun e => by have := (nI_eq (b := 40) (by omega) (by decide)).mp (e5.symm.trans e); omega
  unfold S_haz
  rw [if_neg h5, show cl (ρ 5) = q0 by rw [e5]; exact cl_nI (by omega)]
  rw [e5, cl_nI (by omega)] at a13
  refine ⟨?_, ?_, ?_, ?_, ?_, ?_, ?_, ?_, ?_, ?_, ?_, ?_, ?_, ?_⟩
  · intro w hw; simp (disch := omega) only [up2, up_same, up_ne, upd_same, upd_ne]; exact a0 w hw
  · intro w hw; simp (disch := omega) only [up2, up_same, up_ne, upd_same, upd_ne]; exact a1 w hw
  · intro w hw; simp (disch := omega) only [up2, up_same, up_ne, upd_same, upd_ne]; exact a2 w hw
  · intro w hw; simp (disch := omega) only [up2, up_same, up_ne, upd_same, upd_ne]; exact a3 w hw
  · intro w hw; simp (disch := omega) only [up2, up_same, up_ne, upd_same, upd_ne]; exact a4 w hw
  · intro w hw; simp (disch := omega) only [up2, up_same, up_ne, upd_same, upd_ne]; exact a5 w hw
  · intro w hw; simp (disch := omega) only [up2, up_same, up_ne, upd_same, upd_ne]; exact a6 w hw
  · first | (simp (disch := omega) only [up2, up_same, up_ne, upd_same, upd_ne]; exact a7) | (simp (disch := omega) only [up2, up_same, up_ne, upd_same, upd_ne]; rw [a7]) | (simp (disch := omega) only [up2, up_same, up_ne, upd_same, upd_ne]; simp only [*])
  · first | (simp (disch := omega) only [up2, up_same, up_ne, upd_same, upd_ne]; exact a8) | (simp (disch := omega) only [up2, up_same, up_ne, upd_same, upd_ne]; rw [a8]) | (simp (disch := omega) only [up2, up_same, up_ne, upd_same, upd_ne]; simp only [*])
  · first | (simp (disch := omega) only [up2, up_same, up_ne, upd_same, upd_ne]; exact a9) | (simp (disch := omega) only [up2, up_same, up_ne, upd_same, upd_ne]; rw [a9]) | (simp (disch := omega) only [up2, up_same, up_ne, upd_same, upd_ne]; simp only [*])
  · first | (simp (disch := omega) only [up2, up_same, up_ne, upd_same, upd_ne]; exact a10) | (simp (disch := omega) only [up2, up_same, up_ne, upd_same, upd_ne]; rw [a10]) | (simp (disch := omega) only [up2, up_same, up_ne, upd_same, upd_ne]; simp only [*])
  · first | (simp (disch := omega) only [up2, up_same, up_ne, upd_same, upd_ne]; exact a11) | (simp (disch := omega) only [up2, up_same, up_ne, upd_same, upd_ne]; rw [a11]) | (simp (disch := omega) only [up2, up_same, up_ne, upd_same, upd_ne]; simp only [*])
  · first | (simp (disch := omega) only [up2, up_same, up_ne, upd_same, upd_ne]; exact a12) | (simp (disch := omega) only [up2, up_same, up_ne, upd_same, upd_ne]; rw [a12]) | (simp (disch := omega) only [up2, up_same, up_ne, upd_same, upd_ne]; simp only [*])
  · intro q hq hlt
    simp (disch := omega) only [upd_ne, upd_same, e5, nA1, cl_nI] at hlt
    by_cases e : q = q0
    · subst e; simp (disch := omega) only [up2, up_same, up_ne, upd_same, upd_ne, true_and]; exact a8
    · simp (disch := omega) only [up2, up_same, up_ne, upd_same, upd_ne]; exact a13 q hq (by omega)
theorem RR.give {r : Nat} {m g : Mem} {n : Nat} {ρ : Rw} (hn : n ≤ 30) (hp : ∀ l, n ≤ l → l < 30 → ρ (102 + l) = -1) (h : RR r m ρ) : RR r (va_up (up2 m r 16 (m r 16 + 1)) (r + 5) (jfill ((up2 m r 16 (m r 16 + 1)) (r + 5)) 30 (-1))) (S_give n (upd ρ 2 (ρ 2 + 1))) := by
  obtain ⟨a0, a1, a2, a3, a4, a5, a6, a7, a8, a9, a10, a11, a12, a13⟩ := h
  have hp2 : ∀ l, n ≤ l → l < 30 → (upd ρ 2 (ρ 2 + 1)) (102 + l) = -1 := fun l h1 h2 => by rw [upd_ne (by omega)]; exact hp l h1 h2
  refine ⟨?_, ?_, ?_, ?_, ?_, ?_, ?_, ?_, ?_, ?_, ?_, ?_, ?_, ?_⟩
  · intro w hw; simp (disch := omega) only [up2, up_same, up_ne, upd_same, upd_ne, S_give_lo]; exact a0 w hw
  · intro w hw; simp (disch := omega) only [up2, up_same, up_ne, upd_same, upd_ne, S_give_lo]; exact a1 w hw
  · intro w hw; simp (disch := omega) only [up2, up_same, up_ne, upd_same, upd_ne, S_give_lo]; exact a2 w hw
  · intro w hw; simp (disch := omega) only [up2, up_same, up_ne, upd_same, upd_ne, S_give_lo]; exact a3 w hw
  · intro w hw; rw [S_give_in hn hp2 hw, up_same, jfill_in hw]
  · intro w hw hq; rw [S_give_in hn hp2 hw] at hq; exact absurd rfl hq
  · intro w hw; simp (disch := omega) only [up2, up_same, up_ne, upd_same, upd_ne, S_give_lo]; exact a6 w hw
  · first | (simp (disch := omega) only [up2, up_same, up_ne, upd_same, upd_ne, S_give_lo]; exact a7) | (simp (disch := omega) only [up2, up_same, up_ne, upd_same, upd_ne, S_give_lo]; rw [a7]) | (simp (disch := omega) only [up2, up_same, up_ne, upd_same, upd_ne, S_give_lo]; simp only [*])
  · first | (simp (disch := omega) only [up2, up_same, up_ne, upd_same, upd_ne, S_give_lo]; exact a8) | (simp (disch := omega) only [up2, up_same, up_ne, upd_same, upd_ne, S_give_lo]; rw [a8]) | (simp (disch := omega) only [up2, up_same, up_ne, upd_same, upd_ne, S_give_lo]; simp only [*])
  · first | (simp (disch := omega) only [up2, up_same, up_ne, upd_same, upd_ne, S_give_lo]; exact a9) | (simp (disch := omega) only [up2, up_same, up_ne, upd_same, upd_ne, S_give_lo]; rw [a9]) | (simp (disch := omega) only [up2, up_same, up_ne, upd_same, upd_ne, S_give_lo]; simp only [*])
  · first | (simp (disch := omega) only [up2, up_same, up_ne, upd_same, upd_ne, S_give_lo]; exact a10) | (simp (disch := omega) only [up2, up_same, up_ne, upd_same, upd_ne, S_give_lo]; rw [a10]) | (simp (disch := omega) only [up2, up_same, up_ne, upd_same, upd_ne, S_give_lo]; simp only [*])
  · first | (simp (disch := omega) only [up2, up_same, up_ne, upd_same, upd_ne, S_give_lo]; exact a11) | (simp (disch := omega) only [up2, up_same, up_ne, upd_same, upd_ne, S_give_lo]; rw [a11]) | (simp (disch := omega) only [up2, up_same, up_ne, upd_same, upd_ne, S_give_lo]; simp only [*])
  · first | (simp (disch := omega) only [up2, up_same, up_ne, upd_same, upd_ne, S_give_lo]; exact a12) | (simp (disch := omega) only [up2, up_same, up_ne, upd_same, upd_ne, S_give_lo]; rw [a12]) | (simp (disch := omega) only [up2, up_same, up_ne, upd_same, upd_ne, S_give_lo]; simp only [*])
  · intro q hq; simp (disch := omega) only [up2, up_same, up_ne, upd_same, upd_ne, S_give_lo]; exact a13 q hq
theorem RR.begin {r : Nat} {m g : Mem} {n : Nat} {ρ : Rw}  (h : RR r m ρ) : RR r (va_up (va_up m (r + 3) (jfill (m (r + 3)) 24 0)) (r + 4) (va_cpy ((va_up m (r + 3) (jfill (m (r + 3)) 24 0)) (r + 1)) ((va_up m (r + 3) (jfill (m (r + 3)) 24 0)) (r + 4)) 0 0 24)) (S_begin ρ) := by
  obtain ⟨a0, a1, a2, a3, a4, a5, a6, a7, a8, a9, a10, a11, a12, a13⟩ := h
  refine ⟨?_, ?_, ?_, ?_, ?_, ?_, ?_, ?_, ?_, ?_, ?_, ?_, ?_, ?_⟩
  · intro w hw; simp (disch := omega) only [up2, up_same, up_ne, upd_same, upd_ne, S_begin_lo]; exact a0 w hw
  · intro w hw; simp (disch := omega) only [up2, up_same, up_ne, upd_same, upd_ne, S_begin_lo]; exact a1 w hw
  · intro w hw; rw [S_begin_54 hw, up_ne (by omega), up_same, jfill_in hw]
  · intro w hw; rw [S_begin_78 hw, up_same, cpy_in hw, up_ne (by omega)]; exact a0 w hw
  · intro w hw; simp (disch := omega) only [up2, up_same, up_ne, upd_same, upd_ne, S_begin_lo]; exact a4 w hw
  · intro w hw; simp (disch := omega) only [up2, up_same, up_ne, upd_same, upd_ne, S_begin_lo]; exact a5 w hw
  · intro w hw; simp (disch := omega) only [up2, up_same, up_ne, upd_same, upd_ne, S_begin_lo]; exact a6 w hw
  · first | (simp (disch := omega) only [up2, up_same, up_ne, upd_same, upd_ne, S_begin_lo]; exact a7) | (simp (disch := omega) only [up2, up_same, up_ne, upd_same, upd_ne, S_begin_lo]; rw [a7]) | (simp (disch := omega) only [up2, up_same, up_ne, upd_same, upd_ne, S_begin_lo]; simp only [*])
  · first | (simp (disch := omega) only [up2, up_same, up_ne, upd_same, upd_ne, S_begin_lo]; exact a8) | (simp (disch := omega) only [up2, up_same, up_ne, upd_same, upd_ne, S_begin_lo]; rw [a8]) | (simp (disch := omega) only [up2, up_same, up_ne, upd_same, upd_ne, S_begin_lo]; simp only [*])
  · first | (simp (disch := omega) only [up2, up_same, up_ne, upd_same, upd_ne, S_begin_lo]; exact a9) | (simp (disch := omega) only [up2, up_same, up_ne, upd_same, upd_ne, S_begin_lo]; rw [a9]) | (simp (disch := omega) only [up2, up_same, up_ne, upd_same, upd_ne, S_begin_lo]; simp only [*])
  · first | (simp (disch := omega) only [up2, up_same, up_ne, upd_same, upd_ne, S_begin_lo]; exact a10) | (simp (disch := omega) only [up2, up_same, up_ne, upd_same, upd_ne, S_begin_lo]; rw [a10]) | (simp (disch := omega) only [up2, up_same, up_ne, upd_same, upd_ne, S_begin_lo]; simp only [*])
  · first | (simp (disch := omega) only [up2, up_same, up_ne, upd_same, upd_ne, S_begin_lo]; exact a11) | (simp (disch := omega) only [up2, up_same, up_ne, upd_same, upd_ne, S_begin_lo]; rw [a11]) | (simp (disch := omega) only [up2, up_same, up_ne, upd_same, upd_ne, S_begin_lo]; simp only [*])
  · first | (simp (disch := omega) only [up2, up_same, up_ne, upd_same, upd_ne, S_begin_lo]; exact a12) | (simp (disch := omega) only [up2, up_same, up_ne, upd_same, upd_ne, S_begin_lo]; rw [a12]) | (simp (disch := omega) only [up2, up_same, up_ne, upd_same, upd_ne, S_begin_lo]; simp only [*])
  · intro q hq; simp (disch := omega) only [up2, up_same, up_ne, upd_same, upd_ne, S_begin_lo]; exact a13 q hq
