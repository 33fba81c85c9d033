/-! the invariant of the law's loop -/
def Iv (j : Nat) (m g : Mem) (n : Nat) : Prop :=
  MC m g n ∧ CC m g n ∧ (∀ l, l < n → WFl g l) ∧ (∀ l, l < n → ∃ d : Nat, d ≤ 20 ∧ g 53 l = nI d) ∧ (∀ l, l < 30 → m 9 l = g 54 l ∧ m 10 l = g 55 l) ∧ RW g n (m 60) ∧ RR 23 m (m 60) ∧
  (m 1 6 = m 47 11 ∧ (m 47 11 = 0 ∨ m 47 11 = 1)) ∧ CF m (FL g n) ∧ CI_ m g n n ∧ m 14 5 = (if (FLw g n 24).length = 0 then 0 else 1) ∧ (∀ w, w < 24 → m 20 w = AR g n (g 53) w) ∧ (∃ k : Nat, k ≤ j ∧ (m 60) 2 = nI k)
/-- what matters is the same -/
def SM (m m' : Mem) : Prop := (∀ i, ((1 ≤ i ∧ i ≤ 17) ∨ (19 ≤ i ∧ i ≤ 20) ∨ (23 ≤ i ∧ i ≤ 34) ∨ (48 ≤ i ∧ i ≤ 55) ∨ i = 60) → m' i = m i) ∧ m' 47 1 = m 47 1 ∧ m' 47 11 = m 47 11
theorem SM.refl (m : Mem) : SM m m := ⟨fun _ _ => rfl, rfl, rfl⟩
theorem SM.trans {a b c : Mem} (h1 : SM a b) (h2 : SM b c) : SM a c := ⟨fun i hi => (h2.1 i hi).trans (h1.1 i hi), h2.2.1.trans h1.2.1, h2.2.2.trans h1.2.2⟩
theorem SM.thrown {m : Mem} {v : Int32} : SM m (up2 m 47 0 v) := ⟨fun i hi => by unfold up2; rw [up_ne (by omega)], by simp (disch := omega) only [up2, up_same, upd_ne], by simp (disch := omega) only [up2, up_same, upd_ne]⟩
theorem Iv.same {j j2 n : Nat} {m m' g : Mem} (h : Iv j m g n) (hj : j ≤ j2) (hm : SM m m') : Iv j2 m' g n := by
  obtain ⟨a1, a2, a3, a4, a5, a6, a7, a8, a9, a10, a11, a12, k, a13, a14⟩ := h
  obtain ⟨s, s1, s11⟩ := hm
  refine ⟨?_, a2.same fun i h1 h2 => s i (by omega), a3, a4, fun l hl => ?_, ?_, ?_, ?_, ?_, fun q hq => ?_, ?_, fun w hw => ?_, k, by omega, ?_⟩
  · unfold MC at a1 ⊢
    rw [s1, s 48 (by omega), s 49 (by omega), s 50 (by omega), s 51 (by omega), s 52 (by omega), s 53 (by omega), s 54 (by omega), s 55 (by omega)]
    exact a1
  · rw [s 9 (by omega), s 10 (by omega)]; exact a5 l hl
  · rw [s 60 (by omega)]; exact a6
  · rw [s 60 (by omega)]
    unfold RR at a7 ⊢
    rw [s 23 (by omega), s (23 + 1) (by omega), s (23 + 2) (by omega), s (23 + 3) (by omega), s (23 + 4) (by omega), s (23 + 5) (by omega), s (23 + 6) (by omega), s (23 + 7) (by omega), s (23 + 8) (by omega), s (23 + 9) (by omega), s (23 + 10) (by omega), s (23 + 11) (by omega)]
    exact a7
  · rw [s11, s 1 (by omega)]; exact a8
  · unfold CF at a9 ⊢
    rw [s 14 (by omega), s 15 (by omega), s 16 (by omega)]; exact a9
  · rw [s 17 (by omega)]; exact a10 q hq
  · rw [s 14 (by omega)]; exact a11
  · rw [s 20 (by omega)]; exact a12 w hw
  · rw [s 60 (by omega)]; exact a14
def Inv (j : Nat) (m : Mem) : Prop := ∃ (g : Mem) (n : Nat), Iv j m g n
section CASES
variable {j : Nat} {m : Mem} {o : Nat → Int64}
end CASES
