/-! cases that add a line -/
theorem WFl.add {g : Mem} {n l : Nat} {k w a b c d : Int32} (h : WFl g l) (hl : ¬ l = n) : WFl (gadd g n k w a b c d) l := by
  unfold WFl at h ⊢
  rw [ga48, ga49, ga50, ga51, ga52, ga53, if_neg hl, if_neg hl, if_neg hl, if_neg hl, if_neg hl, if_neg hl]
  exact h
section ADD
variable {j n w : Nat} {m g : Mem} {k k' a b c ga gb gc d : Int32}
theorem Iv.add {m' : Mem} (h : Iv j m g n) (hn : n < 30) (hM : MC m' (gadd g n k (nI w) ga gb gc d) (n + 1)) (hC : CC m' (gadd g n k (nI w) ga gb gc d) (n + 1)) (hwf : ∀ l, l < n + 1 → WFl (gadd g n k (nI w) ga gb gc d) l) (hd : ∀ l, l < n + 1 → ∃ q : Nat, q ≤ 20 ∧ (gadd g n k (nI w) ga gb gc d) 53 l = nI q)
    (hs : ∀ i, (i = 9 ∨ i = 10 ∨ (23 ≤ i ∧ i ≤ 34) ∨ i = 60) → m' i = m i) (h1 : m' 1 6 = 0) (h11 : m' 47 11 = 0) (cf : CF m' (FL (gadd g n k (nI w) ga gb gc d) (n + 1))) (ci : CI_ m' (gadd g n k (nI w) ga gb gc d) (n + 1) (n + 1)) (c5 : m' 14 5 = (if (FLw (gadd g n k (nI w) ga gb gc d) (n + 1) 24).length = 0 then 0 else 1))
    (h20 : ∀ x, x < 24 → m' 20 x = AR (gadd g n k (nI w) ga gb gc d) (n + 1) ((gadd g n k (nI w) ga gb gc d) 53) x) : Iv (j + 1) m' (gadd g n k (nI w) ga gb gc d) (n + 1) := by
  obtain ⟨a1, a2, a3, a4, a5, a6, a7, a8, a9, a10, a11, a12, q, a13, a14⟩ := h
  refine ⟨hM, hC, hwf, hd, fun l hl => ?_, ?_, ?_, ⟨by rw [h1, h11], Or.inl h11⟩, cf, ci, c5, h20, q, by omega, ?_⟩
  · rw [hs 9 (by omega), hs 10 (by omega), ga54, ga55]; exact a5 l hl
  · rw [hs 60 (by omega)]
    exact ⟨a6.1, a6.2.1, fun l b1 b2 => a6.2.2 l (by omega) b2⟩
  · rw [hs 60 (by omega)]
    unfold RR at a7 ⊢
    rw [hs 23 (by omega), hs (23 + 1) (by omega), hs (23 + 2) (by omega), hs (23 + 3) (by omega), hs (23 + 4) (by omega), hs (23 + 5) (by omega), hs (23 + 6) (by omega), hs (23 + 7) (by omega), hs (23 + 8) (by omega), hs (23 + 9) (by omega), hs (23 + 10) (by omega), hs (23 + 11) (by omega)]
    exact a7
  · rw [hs 60 (by omega)]; exact a14
end ADD
section CASES13
variable {j : Nat} {m : Mem} {o : Nat → Int64}
theorem isW0_m1 : isW0 (-1) := Or.inl rfl
theorem nI_ne30 {n : Nat} (hn : n ≤ 30) : (nI n = (30 : Int32)) ↔ ¬ n < 30 := by
  constructor
  · intro e h
    exact absurd ((nI_eq (b := 30) (by omega) (by decide)).mp e) (by omega)
  · intro h
    have : n = 30 := by omega
    subst this
    rfl
theorem nI_lt30 {n : Nat} (hn : n ≤ 30) : (nI n < (30 : Int32)) ↔ n < 30 := nI_ltI (b := 30) (by omega) (by decide)
end CASES13
