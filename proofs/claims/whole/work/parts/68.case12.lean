/-! the case that starts it -/
theorem FLw_code {g : Mem} {n : Nat} : ∀ (w : Nat) (p : Int32 × Int32), p ∈ FLw g n w → p.1 = 1 ∨ p.1 = 2
  | 0, p, h => by cases h
  | w + 1, p, h => by
    unfold FLw at h
    rcases List.mem_append.mp h with h | h
    · exact FLw_code w p h
    · unfold FLw1 at h
      split at h
      · rw [List.mem_singleton] at h; exact Or.inl (by rw [h])
      · split at h
        · rw [List.mem_singleton] at h; exact Or.inr (by rw [h])
        · cases h
theorem FLl_code {g : Mem} {n : Nat} : ∀ (l : Nat) (p : Int32 × Int32), p ∈ FLl g n l → p.1 = 3
  | 0, p, h => by cases h
  | l + 1, p, h => by
    unfold FLl at h
    rcases List.mem_append.mp h with h | h
    · exact FLl_code l p h
    · unfold FLl1 at h
      split at h
      · rw [List.mem_singleton] at h; rw [h]
      · cases h
theorem FLw_nil {g : Mem} {n : Nat} : ∀ (k : Nat), (FLw g n k).length = 0 → ∀ w, w < k → FLw1 g n w = []
  | 0, _, w, hw => absurd hw (Nat.not_lt_zero w)
  | k + 1, h, w, hw => by
    unfold FLw at h
    rw [List.length_append] at h
    by_cases e : w = k
    · subst e
      exact List.length_eq_zero_iff.mp (by omega)
    · exact FLw_nil k (by omega) w (by omega)
theorem ndr_mono {g : Mem} {w a : Nat} : ∀ (d : Nat), S_ndr g w a ≤ S_ndr g w (a + d)
  | 0 => Nat.le_refl _
  | d + 1 => by
    have := ndr_mono (g := g) (w := w) (a := a) d
    rw [show a + (d + 1) = (a + d) + 1 by omega, ndr_s]
    omega
theorem ndr_two {g : Mem} {w n p q : Nat} (hpq : p < q) (hq : q < n) (ep : g 49 p = nI w) (eq : g 49 q = nI w) : 2 ≤ S_ndr g w n := by
  have h1 : S_ndr g w (p + 1) = S_ndr g w p + 1 := by rw [ndr_s, if_pos ep]
  have h2 := ndr_mono (g := g) (w := w) (a := p + 1) (q - (p + 1))
  rw [show p + 1 + (q - (p + 1)) = q by omega] at h2
  have h3 : S_ndr g w (q + 1) = S_ndr g w q + 1 := by rw [ndr_s, if_pos eq]
  have h4 := ndr_mono (g := g) (w := w) (a := q + 1) (n - (q + 1))
  rw [show q + 1 + (n - (q + 1)) = n by omega] at h4
  omega
theorem FL_mem3 {g : Mem} {n : Nat} (hz : (FLw g n 24).length = 0) {p : Int32 × Int32} (h : p ∈ FL g n) : p.1 = 3 := by
  unfold FL at h
  rw [List.length_eq_zero_iff.mp hz, List.nil_append] at h
  exact FLl_code n p h
theorem FL_first3 {g : Mem} {n : Nat} (hz : (FLw g n 24).length = 0) (hpos : 0 < (FL g n).length) : ((FL g n)[0]).1 = 3 := FL_mem3 hz (List.getElem_mem hpos)
theorem app_first {α : Type} {p : α → Prop} {L M : List α} (hL : 0 < L.length) (h : ∀ x, x ∈ L → p x) (h0 : 0 < (L ++ M).length) : p ((L ++ M)[0]) := by
  rw [List.getElem_append_left hL]
  exact h _ (List.getElem_mem hL)
theorem FL_first12 {g : Mem} {n : Nat} (hz : ¬ (FLw g n 24).length = 0) (hpos : 0 < (FL g n).length) : ((FL g n)[0]).1 = 1 ∨ ((FL g n)[0]).1 = 2 :=
  app_first (p := fun x : Int32 × Int32 => x.1 = 1 ∨ x.1 = 2) (L := FLw g n 24) (M := FLl g n n) (by omega) (FLw_code 24) hpos
/-- without flaws of the first kinds no wire is driven twice -/
theorem one_each {g : Mem} {n : Nat} (hwf : ∀ l, l < n → WFl g l) (h : (FLw g n 24).length = 0) : ∀ p q, p < q → q < n → ¬ g 49 p = g 49 q := by
  intro p q hpq hq e
  obtain ⟨w, hw, ew⟩ := (hwf q hq).1
  have h2 := ndr_two hpq hq (e.trans ew) ew
  have h1 := FLw_nil 24 h w hw
  unfold FLw1 at h1
  rw [if_pos (by omega)] at h1
  cases h1
theorem RW.startL {g : Mem} {n : Nat} (hn : n ≤ 30) (hwf : ∀ l, l < n → WFl g l) : ∀ (r l : Nat) (ρ : Rw), l + r = n → RW g n ρ → RW g n (S_startL g n r l ρ)
  | 0, _, _, _, h => h
  | r + 1, l, ρ, hr, h => by
    unfold S_startL
    refine RW.startL hn hwf r (l + 1) _ (by omega) ?_
    split
    · exact h.change hn hwf (hwf l (by omega)).1.cl.2 isV0
    · exact h
theorem S_startL_2 {g : Mem} {n : Nat} : ∀ (r l : Nat) (ρ : Rw), S_startL g n r l ρ 2 = ρ 2
  | 0, _, _ => rfl
  | r + 1, l, ρ => by
    unfold S_startL
    rw [S_startL_2 r (l + 1)]
    split
    · exact S_change_2
    · rfl
theorem Iv.go {j j2 n : Nat} {m m' g : Mem} (h : Iv j m g n) (hs : ∀ i, ((2 ≤ i ∧ i ≤ 17) ∨ (19 ≤ i ∧ i ≤ 20) ∨ (48 ≤ i ∧ i ≤ 55)) → m' i = m i) (h1 : m' 47 1 = m 47 1) (h6 : m' 1 6 = m' 47 11 ∧ (m' 47 11 = 0 ∨ m' 47 11 = 1)) (hr : RR 23 m' (m' 60)) (hw : RW g n (m' 60)) (hk : ∃ k : Nat, k ≤ j2 ∧ (m' 60) 2 = nI k) : Iv j2 m' g n := by
  obtain ⟨a1, a2, a3, a4, a5, a6, a7, a8, a9, a10, a11, a12, -⟩ := h
  refine ⟨?_, a2.same fun i b1 b2 => hs i (by omega), a3, a4, fun l hl => ?_, hw, hr, h6, ?_, fun q hq => ?_, ?_, fun w hw => ?_, hk⟩
  · unfold MC at a1 ⊢
    rw [h1, hs 48 (by omega), hs 49 (by omega), hs 50 (by omega), hs 51 (by omega), hs 52 (by omega), hs 53 (by omega), hs 54 (by omega), hs 55 (by omega)]
    exact a1
  · rw [hs 9 (by omega), hs 10 (by omega)]; exact a5 l hl
  · unfold CF at a9 ⊢
    rw [hs 14 (by omega), hs 15 (by omega), hs 16 (by omega)]; exact a9
  · rw [hs 17 (by omega)]; exact a10 q hq
  · rw [hs 14 (by omega)]; exact a11
  · rw [hs 20 (by omega)]; exact a12 w hw
section CASES12
variable {j : Nat} {m : Mem} {o : Nat → Int64}
theorem case_12 (h : Inv j m) : wc_12 o m (fun _ m2 => Inv (j + 1) m2) := by
  obtain ⟨g, n, h⟩ := h
  have hn := h.1.1
  have h5 := h.2.2.2.2.2.2.2.2.2.2.1
  unfold wc_12 w_L_start w_N_start w_M_start w_M_thrown
  refine ⟨fun e5 => fun m2 q2 => ?_, fun n5 => ⟨fun _ => ?_, fun ne => absurd rfl ne⟩⟩
  · have hz : (FLw g n 24).length = 0 := by
      by_cases e : (FLw g n 24).length = 0
      · exact e
      · rw [if_neg e] at h5; rw [h5] at e5; exact absurd e5 (by decide)
    have c2 : CC m2 g n := h.2.1.same fun i b1 b2 => by rw [q2, up2_ne (by omega)]
    refine s_R_beginRun c2 (by omega) h.2.2.1 fun m3 f3 r3 => ?_
    rw [C_startL_eq h.2.2.1 (one_each h.2.2.1 hz) n 0 _ (by omega) (fun q _ hq _ => by rw [S_clear_at, if_pos (by have := (h.2.2.1 q hq).1.cl.2; omega)])] at r3
    refine s_R_linesPending (c2.fr (by omega) f3) r3 ?_
    intro m1 em
    have h3 : ∀ i, i ≠ 1 → (i < 23 ∨ 34 < i) → m3 i = m i := fun i b1 b2 => by rw [f3 i (by omega), q2, up2_ne b1]
    have c1 : MC m1 g n := by rw [em]; exact (h.1.out fun i b1 b2 => h3 i (by omega) (by omega)).thr
    refine p_M_noteFlaws c1 h.2.2.1 fun m4 f4 L4 => ?_
    intro J hJ
    have go : J m4 := by
      refine hJ m4 (s_M_clear ?_)
      unfold w_M_start_36
      intro m6 q6
      have m6i : ∀ i, i ≠ 47 → i ≠ 57 → i ≠ 60 → m6 i = m3 i := fun i b1 b2 b3 => by rw [q6, up2_ne b1, up_ne b3, f4.1 i b1 b2, em, up2_ne b1]
      have m6j : ∀ x, x ≠ 0 → x ≠ 11 → x ≠ 12 → m6 47 x = m 47 x := fun x b1 b2 b3 => by
        rw [q6, up2_at, if_neg b2, up_ne (by omega), f4.2 x b3, em, up2_at, if_neg b1, h3 47 (by omega) (by omega)]
      have m60 : m6 47 0 = 0 := by rw [q6, up2_at, if_neg (by omega), up_ne (by omega), f4.2 0 (by omega), em]; exact up47_0
      have m611 : m6 47 11 = 1 := by rw [q6, up2_at, if_pos rfl]
      have p60 : m6 60 = S_clear := by rw [q6, up2_ne (by omega), up_same]
      have c6 : MC m6 g n := by
        have hc := h.1
        unfold MC at hc ⊢
        rw [m6j 1 (by omega) (by omega) (by omega), m6i 48 (by omega) (by omega) (by omega), m6i 49 (by omega) (by omega) (by omega), m6i 50 (by omega) (by omega) (by omega), m6i 51 (by omega) (by omega) (by omega), m6i 52 (by omega) (by omega) (by omega), m6i 53 (by omega) (by omega) (by omega), m6i 54 (by omega) (by omega) (by omega), m6i 55 (by omega) (by omega) (by omega)]
        rw [h3 48 (by omega) (by omega), h3 49 (by omega) (by omega), h3 50 (by omega) (by omega), h3 51 (by omega) (by omega), h3 52 (by omega) (by omega), h3 53 (by omega) (by omega), h3 54 (by omega) (by omega), h3 55 (by omega) (by omega)]
        exact hc
      have key := fun (E : Int32 → Mem → Prop) (K : Int32 → Mem → Prop) hK => s_M_start_36_43 (m := m6) (E := E) (K := K) c6 h.2.2.1 n 0 31 (m6 60) (by omega) (by omega) (by rw [p60]; exact S_clear_hz) hK
      rw [up_self] at key
      refine key _ _ ?_
      refine s_M_pendingLines c6 ?_
      rw [p60]
      refine fin_ok (by rw [up_ne (by omega)]; exact m60) updL_0 ⟨g, n, h.go (fun i hi => ?_) ?_ ?_ ?_ ?_ ⟨0, by omega, ?_⟩⟩
      · rw [up_ne (by omega), m6i i (by omega) (by omega) (by omega)]; exact h3 i (by omega) (by omega)
      · rw [up_ne (by omega)]; exact m6j 1 (by omega) (by omega) (by omega)
      · rw [up_ne (by omega), up_ne (by omega), m611, m6i 1 (by omega) (by omega) (by omega), f3 1 (by omega), q2]
        exact ⟨by rw [up2_at, if_pos rfl], Or.inr rfl⟩
      · rw [up_same]
        unfold RR at r3 ⊢
        rw [up_ne (by omega), up_ne (by omega), up_ne (by omega), up_ne (by omega), up_ne (by omega), up_ne (by omega), up_ne (by omega), up_ne (by omega), up_ne (by omega), up_ne (by omega), up_ne (by omega), up_ne (by omega)]
        rw [m6i 23 (by omega) (by omega) (by omega), m6i (23 + 1) (by omega) (by omega) (by omega), m6i (23 + 2) (by omega) (by omega) (by omega), m6i (23 + 3) (by omega) (by omega) (by omega), m6i (23 + 4) (by omega) (by omega) (by omega), m6i (23 + 5) (by omega) (by omega) (by omega), m6i (23 + 6) (by omega) (by omega) (by omega), m6i (23 + 7) (by omega) (by omega) (by omega), m6i (23 + 8) (by omega) (by omega) (by omega), m6i (23 + 9) (by omega) (by omega) (by omega), m6i (23 + 10) (by omega) (by omega) (by omega), m6i (23 + 11) (by omega) (by omega) (by omega)]
        exact r3
      · rw [up_same]; exact RW.startL hn h.2.2.1 n 0 _ (by omega) RW.clear
      · rw [up_same, S_startL_2]; rfl
    refine ⟨fun _ => go, fun ne => ⟨fun _ => go, fun n3 => absurd ?_ n3⟩⟩
    have hpos : 0 < (FL g n).length := by
      rcases Nat.eq_zero_or_pos (FL g n).length with e | e
      · rw [L4.1, e] at ne; exact absurd (by decide) ne
      · exact e
    have hp := List.getElem?_eq_getElem hpos
    have e3 : m4 57 0 = _ := (L4.2 0 _ hp).1
    rw [e3, FL_first3 hz hpos]
    decide
  · have hz : ¬ (FLw g n 24).length = 0 := by
      intro e
      rw [if_pos e] at h5
      exact n5 h5
    have h1 := h.same (Nat.le_refl j) (SM.thrown (v := 0))
    intro m1 em
    subst em
    refine p_M_noteFlaws h1.1 h1.2.2.1 fun m4 f4 L4 => ?_
    intro J hJ
    have hL := FL_le (g := g) (n := n)
    have hlen : (FL g n).length = (FLw g n 24).length + (FLl g n n).length := by unfold FL; rw [List.length_append]
    have hpos : 0 < (FL g n).length := by omega
    have hp := List.getElem?_eq_getElem hpos
    have e3 : m4 57 0 = _ := (L4.2 0 _ hp).1
    refine ⟨fun le => absurd le (by rw [L4.1]; exact nI_nle hpos (by omega)), fun _ => ⟨fun le => absurd le ?_, fun _ => end_no h (SM.thrown.trans (SM.fn f4)) (by decide)⟩⟩
    rw [e3]
    rcases FL_first12 hz hpos with e | e
    · rw [e]; decide
    · rw [e]; decide
end CASES12
