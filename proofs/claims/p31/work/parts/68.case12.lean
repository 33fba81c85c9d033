/-! the case that starts it -/
theorem FLw_code {g : Mem} {n : Nat} : ∀ (w : Nat) (p : Int32 × Int32), p ∈ FLw g n w → p.1 = 1 ∨ p.1 = 2
  | 0, p, h => by cases h
  | w + 1, p, h => by
    unfold FLw at h
    rcases List.mem_append.mp h with h | h
    · exact FLw_code w p h
    · unfold FLw1 at h
      split at h
      · rw [List.mem_singleton] at h; exact Or.inl (by rw [h])
      · split at h
        · rw [List.mem_singleton] at h; exact Or.inr (by rw [h])
        · cases h
theorem FLl_code {g : Mem} {n : Nat} : ∀ (l : Nat) (p : Int32 × Int32), p ∈ FLl g n l → p.1 = 3
  | 0, p, h => by cases h
  | l + 1, p, h => by
    unfold FLl at h
    rcases List.mem_append.mp h with h | h
    · exact FLl_code l p h
    · unfold FLl1 at h
      split at h
      · rw [List.mem_singleton] at h; rw [h]
      · cases h
theorem FLw_nil {g : Mem} {n : Nat} : ∀ (k : Nat), (FLw g n k).length = 0 → ∀ w, w < k → FLw1 g n w = []
  | 0, _, w, hw => absurd hw (Nat.not_lt_zero w)
  | k + 1, h, w, hw => by
    unfold FLw at h
    rw [List.length_append] at h
    by_cases e : w = k
    · subst e
      exact List.length_eq_zero_iff.mp (by omega)
    · exact FLw_nil k (by omega) w (by omega)
theorem ndr_mono {g : Mem} {w a : Nat} : ∀ (d : Nat), S_ndr g w a ≤ S_ndr g w (a + d)
  | 0 => Nat.le_refl _
  | d + 1 => by
    have := ndr_mono (g := g) (w := w) (a := a) d
    rw [show a + (d + 1) = (a + d) + 1 by omega, ndr_s]
    omega
theorem ndr_two {g : Mem} {w n p q : Nat} (hpq : p < q) (hq : q < n) (ep : g 49 p = nI w) (eq : g 49 q = nI w) : 2 ≤ S_ndr g w n := by
  have h1 : S_ndr g w (p + 1) = S_ndr g w p + 1 := by rw [ndr_s, if_pos ep]
  have h2 := ndr_mono (g := g) (w := w) (a := p + 1) (q - (p + 1))
  rw [show p + 1 + (q - (p + 1)) = q by omega] at h2
  have h3 : S_ndr g w (q + 1) = S_ndr g w q + 1 := by rw [ndr_s, if_pos eq]
  have h4 := ndr_mono (g := g) (w := w) (a := q + 1) (n - (q + 1))
  rw [show q + 1 + (n - (q + 1)) = n by omega] at h4
  omega
theorem FL_mem3 {g : Mem} {n : Nat} (hz : (FLw g n 24).length = 0) {p : Int32 × Int32} (h : p ∈ FL g n) : p.1 = 3 := by
  unfold FL at h
  rw [List.length_eq_zero_iff.mp hz, List.nil_append] at h
  exact FLl_code n p h
theorem FL_first3 {g : Mem} {n : Nat} (hz : (FLw g n 24).length = 0) (hpos : 0 < (FL g n).length) : ((FL g n)[0]).1 = 3 := FL_mem3 hz (List.getElem_mem hpos)
theorem app_first {α : Type} {p : α → Prop} {L M : List α} (hL : 0 < L.length) (h : ∀ x, x ∈ L → p x) (h0 : 0 < (L ++ M).length) : p ((L ++ M)[0]) := by
  rw [List.getElem_append_left hL]
  exact h _ (List.getElem_mem hL)
theorem FL_first12 {g : Mem} {n : Nat} (hz : ¬ (FLw g n 24).length = 0) (hpos : 0 < (FL g n).length) : ((FL g n)[0]).1 = 1 ∨ ((FL g n)[0]).1 = 2 :=
  app_first (p := fun x : Int32 × Int32 => x.1 = 1 ∨ x.1 = 2) (L := FLw g n 24) (M := FLl g n n) (by omega) (FLw_code 24) hpos
/-- without flaws of the first kinds no wire is driven twice -/
theorem one_each {g : Mem} {n : Nat} (hwf : ∀ l, l < n → WFl g l) (h : (FLw g n 24).length = 0) : ∀ p q, p < q → q < n → ¬ g 49 p = g 49 q := by
  intro p q hpq hq e
  obtain ⟨w, hw, ew⟩ := (hwf q hq).1
  have h2 := ndr_two hpq hq (e.trans ew) ew
  have h1 := FLw_nil 24 h w hw
  unfold FLw1 at h1
  rw [if_pos (by omega)] at h1
  cases h1
theorem RW.startL {g : Mem} {n : Nat} (hn : n ≤ 30) (hwf : ∀ l, l < n → WFl g l) : ∀ (r l : Nat) (ρ : Rw), l + r = n → RW g n ρ → RW g n (S_startL g n r l ρ)
  | 0, _, _, _, h => h
  | r + 1, l, ρ, hr, h => by
    unfold S_startL
    refine RW.startL hn hwf r (l + 1) _ (by omega) ?_
    split
    · exact h.change hn hwf (hwf l (by omega)).1.cl.2 isV0
    · exact h
theorem S_startL_2 {g : Mem} {n : Nat} : ∀ (r l : Nat) (ρ : Rw), S_startL g n r l ρ 2 = ρ 2
  | 0, _, _ => rfl
  | r + 1, l, ρ => by
    unfold S_startL
    rw [S_startL_2 r (l + 1)]
    split
    · exact S_change_2
    · rfl
theorem Iv.go {j j2 n : Nat} {m m' g : Mem} (h : Iv j m g n) (hs : ∀ i, ((2 ≤ i ∧ i ≤ 17) ∨ (19 ≤ i ∧ i ≤ 20) ∨ (48 ≤ i ∧ i ≤ 55)) → m' i = m i) (h1 : m' 47 1 = m 47 1) (h6 : m' 1 6 = m' 47 11 ∧ (m' 47 11 = 0 ∨ m' 47 11 = 1)) (hr : RR 23 m' (m' 60)) (hw : RW g n (m' 60)) (hk : ∃ k : Nat, k ≤ j2 ∧ (m' 60) 2 = nI k) : Iv j2 m' g n := by
  obtain ⟨a1, a2, a3, a4, a5, a6, a7, a8, a9, a10, a11, a12, -⟩ := h
  refine ⟨?_, a2.same fun i b1 b2 => hs i (by omega), a3, a4, fun l hl => ?_, hw, hr, h6, ?_, fun q hq => ?_, ?_, fun w hw => ?_, hk⟩
  · unfold MC at a1 ⊢
    rw [h1, hs 48 (by omega), hs 49 (by omega), hs 50 (by omega), hs 51 (by omega), hs 52 (by omega), hs 53 (by omega), hs 54 (by omega), hs 55 (by omega)]
    exact a1
  · rw [hs 9 (by omega), hs 10 (by omega)]; exact a5 l hl
  · unfold CF at a9 ⊢
    rw [hs 14 (by omega), hs 15 (by omega), hs 16 (by omega)]; exact a9
  · rw [hs 17 (by omega)]; exact a10 q hq
  · rw [hs 14 (by omega)]; exact a11
  · rw [hs 20 (by omega)]; exact a12 w hw
section CASES12
variable {j : Nat} {m : Mem} {o : Nat → Int64}
end CASES12
