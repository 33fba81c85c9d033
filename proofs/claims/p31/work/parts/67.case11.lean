/-! cases that set a window or a delay, or would -/
theorem nI_m2 {k : Nat} (hk : k < 2 ^ 31) : ¬ nI k = (-2 : Int32) := by
  intro e
  exact nI_pos hk (by rw [e]; decide)
theorem CL.reg2 {m g : Mem} {l : Nat} (h : CL m g l) : m 3 l = 9 ↔ g 48 l = -2 := by
  obtain ⟨-, -, -, -, -, hk⟩ := h
  rcases hk with ⟨e1, e2, -⟩ | ⟨e1, e2, -⟩ | ⟨k, hk, e1, e2, -⟩
  · exact ⟨fun e => absurd (e2.symm.trans e) (by decide), fun e => absurd (e1.symm.trans e) (by decide)⟩
  · exact ⟨fun _ => e1, fun _ => e2⟩
  · exact ⟨fun e => absurd ((nI_eq (b := 9) (by omega) (by decide)).mp (e2.symm.trans e)) (by omega), fun e => absurd (e1.symm.trans e) (nI_m2 (by omega))⟩
theorem MC.out {m m' g : Mem} {n : Nat} (hc : MC m g n) (f : ∀ i, 47 ≤ i → i ≤ 55 → m' i = m i) : MC m' g n := by
  unfold MC at hc ⊢
  rw [f 47 (by omega) (by omega), f 48 (by omega) (by omega), f 49 (by omega) (by omega), f 50 (by omega) (by omega), f 51 (by omega) (by omega), f 52 (by omega) (by omega), f 53 (by omega) (by omega), f 54 (by omega) (by omega), f 55 (by omega) (by omega)]
  exact hc
theorem up2_ne {m : Mem} {i l q : Nat} {v : Int32} (h : q ≠ i) : (up2 m i l v) q = m q := by
  unfold up2
  exact up_ne h
theorem up2_at {m : Mem} {i l : Nat} {v : Int32} (x : Nat) : (up2 m i l v) i x = if x = l then v else m i x := by
  unfold up2
  rw [up_same]
  by_cases h : x = l
  · subst h; rw [upd_same, if_pos rfl]
  · rw [upd_ne h, if_neg h]
theorem up2_back {m : Mem} {i l : Nat} {v : Int32} : up2 (up2 m i l v) i l (m i l) = m := by
  funext q
  by_cases h : q = i
  · subst h
    funext x
    rw [up2_at, up2_at]
    by_cases hx : x = l
    · rw [if_pos hx, hx]
    · rw [if_neg hx, if_neg hx]
  · rw [up2_ne h, up2_ne h]
/-- delays or windows have changed -/
theorem Iv.par {j n : Nat} {m m' g g' : Mem} (h : Iv j m g n) (hG : GS g g') (hM : MC m' g' n) (h8 : ∀ l, l < n → m' 8 l = g' 53 l) (h910 : ∀ l, l < 30 → m' 9 l = g' 54 l ∧ m' 10 l = g' 55 l)
    (hd : ∀ l, l < n → ∃ d : Nat, d ≤ 20 ∧ g' 53 l = nI d) (h0 : ∀ l, l < n → g 48 l = -1 → g' 53 l = 0) (hs : ∀ i, ((1 ≤ i ∧ i ≤ 7) ∨ (11 ≤ i ∧ i ≤ 17) ∨ (23 ≤ i ∧ i ≤ 34) ∨ i = 60) → m' i = m i) (h11 : m' 47 11 = m 47 11)
    (h20 : ∀ w, w < 24 → m' 20 w = AR g' n (g' 53) w) : Iv (j + 1) m' g' n := by
  obtain ⟨a1, a2, a3, a4, a5, a6, a7, a8, a9, a10, a11, a12, k, a13, a14⟩ := h
  have hn := a1.1
  refine ⟨hM, hG.cc a2 (fun i b1 b2 b3 b4 b5 => hs i (by omega)) h8 (fun l hl => (h910 l (by omega)).1) (fun l hl => (h910 l (by omega)).2), fun l hl => hG.wfl (h0 l hl) (a3 l hl), hd, h910, ?_, ?_, ?_, ?_, ?_, ?_, h20, k, by omega, ?_⟩
  · rw [hs 60 (by omega)]; exact a6
  · rw [hs 60 (by omega)]
    unfold RR at a7 ⊢
    rw [hs 23 (by omega), hs (23 + 1) (by omega), hs (23 + 2) (by omega), hs (23 + 3) (by omega), hs (23 + 4) (by omega), hs (23 + 5) (by omega), hs (23 + 6) (by omega), hs (23 + 7) (by omega), hs (23 + 8) (by omega), hs (23 + 9) (by omega), hs (23 + 10) (by omega), hs (23 + 11) (by omega)]
    exact a7
  · rw [h11, hs 1 (by omega)]; exact a8
  · rw [hG.fl]
    unfold CF at a9 ⊢
    rw [hs 14 (by omega), hs 15 (by omega), hs 16 (by omega)]; exact a9
  · refine hG.ci (fun q hq => ?_)
    rw [hs 17 (by omega)]; exact a10 q hq
  · rw [hG.flw, hs 14 (by omega)]; exact a11
  · rw [hs 60 (by omega)]; exact a14
section CASES11
variable {j : Nat} {m : Mem} {o : Nat → Int64}
theorem up53_ok {g : Mem} {n l d : Nat} {p2 : Int32} (hd : ∀ q, q < n → ∃ d : Nat, d ≤ 20 ∧ g 53 q = nI d) (hd20 : d ≤ 20) (ep : p2 = nI d) : ∀ q, q < n → ∃ d : Nat, d ≤ 20 ∧ (up2 g 53 l p2) 53 q = nI d := by
  intro q hq
  rw [up2_at]
  by_cases h : q = l
  · rw [if_pos h]; exact ⟨d, hd20, ep⟩
  · rw [if_neg h]; exact hd q hq
theorem MC.up53 {m m' g : Mem} {n l : Nat} {v : Int32} (hc : MC m g n) (e : m' = up2 m 53 l v) : MC m' (up2 g 53 l v) n := by
  obtain ⟨b1, b2, b3, b4, b5, b6, b7, b8, b9, b10⟩ := hc
  subst e
  refine ⟨b1, ?_, ?_, ?_, ?_, ?_, ?_, ?_, ?_, ?_⟩
  · rw [up2_ne (by omega)]; exact b2
  · rw [up2_ne (by omega), up2_ne (by omega)]; exact b3
  · rw [up2_ne (by omega), up2_ne (by omega)]; exact b4
  · rw [up2_ne (by omega), up2_ne (by omega)]; exact b5
  · rw [up2_ne (by omega), up2_ne (by omega)]; exact b6
  · rw [up2_ne (by omega), up2_ne (by omega)]; exact b7
  · funext x
    rw [up2_at, up2_at, b8]
  · rw [up2_ne (by omega), up2_ne (by omega)]; exact b9
  · rw [up2_ne (by omega), up2_ne (by omega)]; exact b10
end CASES11
