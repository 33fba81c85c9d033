/-! a line is added, on -/
theorem ndr_s {g : Mem} {w n : Nat} : S_ndr g w (n + 1) = S_ndr g w n + (if g 49 n = nI w then 1 else 0) := rfl
section CAe
variable {m m' g : Mem} {n : Nat}
theorem CC.add {w : Nat} {k k' a b c ga gb gc d : Int32} (hcc : CC m g n) (hn : n < 30) (hw : w < 24) (h9 : m 9 n = g 54 n) (h10 : m 10 n = g 55 n)
    (f : ∀ i, (i < 2 ∨ 13 < i ∨ i = 9 ∨ i = 10) → m' i = m i) (f2 : m' 2 11 = nI (n + 1)) (f3 : m' 3 = upd (m 3) n k') (f4 : m' 4 = upd (m 4) n (nI w)) (f5 : m' 5 = upd (m 5) n a) (f6 : m' 6 = upd (m 6) n b) (f7 : m' 7 = upd (m 7) n c) (f8 : m' 8 = upd (m 8) n d)
    (f11 : ∀ x, x < 24 → ∀ i, i < 32 → (bt (m' 11 x) i = true ↔ (bt (m 11 x) i = true ∨ ((a = nI x ∨ b = nI x ∨ c = nI x) ∧ i = n)))) (f12 : m' 12 = upd (m 12) w (nI (S_ndr g w n + 1))) (f13 : m' 13 = (if S_ndr g w n = 0 then upd (m 13) w (nI n) else m 13))
    (ea : a = ga) (hu : ∀ x, x < 24 → ((a = nI x ∨ b = nI x ∨ c = nI x) ↔ (ga = nI x ∨ gb = nI x ∨ gc = nI x)))
    (hk : (k = -1 ∧ k' = 8 ∧ b = -1 ∧ c = -1) ∨ (k = -2 ∧ k' = 9 ∧ b = gb ∧ c = gc) ∨ (∃ q : Nat, q < 8 ∧ k = nI q ∧ k' = nI q ∧ b = (if 2 ≤ q then gb else ga) ∧ c = (if q = 7 then gc else ga))) :
    CC m' (gadd g n k (nI w) ga gb gc d) (n + 1) := by
  obtain ⟨c0, c1, cl_, cu, cd, cf⟩ := hcc
  refine ⟨by omega, f2, fun l hl => ?_, fun x hx i hi => ?_, fun x hx => ?_, fun x hx => ?_⟩
  · by_cases e : l = n
    · subst e
      unfold CL
      rw [f4, f5, f8, f 9 (by omega), f 10 (by omega), f3, f6, f7, upd_same, upd_same, upd_same, upd_same, upd_same, upd_same, ga48, ga49, ga50, ga51, ga52, ga53, ga54, ga55, if_pos rfl, if_pos rfl, if_pos rfl, if_pos rfl, if_pos rfl, if_pos rfl]
      exact ⟨rfl, ea, rfl, h9, h10, hk⟩
    · have := cl_ l (by omega)
      unfold CL at this ⊢
      rw [f4, f5, f8, f 9 (by omega), f 10 (by omega), f3, f6, f7, upd_ne e, upd_ne e, upd_ne e, upd_ne e, upd_ne e, upd_ne e, ga48, ga49, ga50, ga51, ga52, ga53, ga54, ga55, if_neg e, if_neg e, if_neg e, if_neg e, if_neg e, if_neg e]
      exact this
  · rw [f11 x hx i hi, cu x hx i hi]
    by_cases e : i = n
    · subst e
      rw [ga_uses_n, ← hu x hx]
      exact ⟨fun h => ⟨Nat.lt_succ_self _, h.elim (fun h => absurd h.1 (Nat.lt_irrefl _)) fun h => h.1⟩, fun h => Or.inr ⟨h.2, rfl⟩⟩
    · rw [ga_uses e]
      exact ⟨fun h => h.elim (fun h => ⟨by omega, h.2⟩) fun h => absurd h.2 e, fun h => Or.inl ⟨by omega, h.2⟩⟩
  · have hnd := S_ndr_le g x n
    rw [f12]
    rw [ndr_s, ga_ndr n (Nat.le_refl _), ga49, if_pos rfl]
    by_cases e : x = w
    · subst e
      rw [upd_same, if_pos rfl]
    · rw [upd_ne e, if_neg (fun h => e ((nI_eq (by omega) (by omega)).mp h).symm)]
      exact cd x hx
  · have hd := ga_drvL (g := g) (n := n) (k := k) (w := nI w) (a := ga) (b := gb) (c := gc) (d := d) (x := nI x) c0 n 0 (by omega)
    have h0 := drv_0 (g := g) (n := n) (x := x) c0
    show m' 13 x = S_drvL (gadd g n k (nI w) ga gb gc d) (nI x) (n + 1) 0
    rw [hd]
    show _ = (if S_drv g n x = -1 then (if nI w = nI x then nI n else -1) else S_drv g n x)
    by_cases e : x = w
    · subst e
      rw [f13]
      by_cases e0 : S_ndr g x n = 0
      · rw [if_pos e0, upd_same, if_pos (h0.mpr e0), if_pos rfl]
      · rw [if_neg e0, if_neg (fun h => e0 (h0.mp h))]; exact cf x hx
    · have e13 : m' 13 x = m 13 x := by
        rw [f13]; split
        · rw [upd_ne e]
        · rfl
      rw [e13, if_neg (fun h => e ((nI_eq (by omega) (by omega)).mp h).symm), cf x hx]
      split
      · assumption
      · rfl
/-- the reference adds a line -/
theorem s_M_add {k w a b c d : Int32} {K : Int32 → Mem → Prop} (hc : MC m g n) (hn : n < 30) (hK : ∀ m', (∀ i, (i < 47 ∨ 53 < i) → m' i = m i) → m' 47 11 = 0 → (∀ j, j ≠ 1 → j ≠ 11 → m' 47 j = m 47 j) → MC m' (gadd g n k w a b c d) (n + 1) → K (nI n) m') : w_M_add k w a b c d m K := by
  obtain ⟨h0, h1, h48, h49, h50, h51, h52, h53, h54, h55⟩ := hc
  have hin : vp_in (nI n) 30 := vp_in_nI hn (by decide)
  unfold w_M_add
  intro m1 e1
  have q1 : m1 47 1 = nI n := by rw [e1]; simp (disch := omega) only [up2, up_same, upd_ne]; exact h1
  rw [q1, nI_clamp (by omega)]
  refine ⟨hin, ?_⟩
  intro m2 e2
  have q2 : m2 47 1 = nI n := by rw [e2]; simp (disch := omega) only [up2, up_ne]; exact q1
  rw [q2, nI_clamp (by omega)]
  refine ⟨hin, ?_⟩
  intro m3 e3
  have q3 : m3 47 1 = nI n := by rw [e3]; simp (disch := omega) only [up2, up_ne]; exact q2
  rw [q3, nI_clamp (by omega)]
  refine ⟨hin, ?_⟩
  intro m4 e4
  have q4 : m4 47 1 = nI n := by rw [e4]; simp (disch := omega) only [up2, up_ne]; exact q3
  rw [q4, nI_clamp (by omega)]
  refine ⟨hin, ?_⟩
  intro m5 e5
  have q5 : m5 47 1 = nI n := by rw [e5]; simp (disch := omega) only [up2, up_ne]; exact q4
  rw [q5, nI_clamp (by omega)]
  refine ⟨hin, ?_⟩
  intro m6 e6
  have q6 : m6 47 1 = nI n := by rw [e6]; simp (disch := omega) only [up2, up_ne]; exact q5
  rw [q6, nI_clamp (by omega)]
  refine ⟨hin, ?_⟩
  intro m7 e7 m8 e8
  have q7 : m7 47 1 = nI n := by rw [e7]; simp (disch := omega) only [up2, up_ne]; exact q6
  rw [q7]
  rw [q7, nA1] at e8
  refine hK m8 (fun i hi => ?_) ?_ (fun j h1' h2' => ?_) ⟨by omega, ?_, ?_, ?_, ?_, ?_, ?_, ?_, ?_, ?_⟩
  · rw [e8, e7, e6, e5, e4, e3, e2, e1]; simp (disch := omega) only [up2, up_ne]
  · rw [e8, e7, e6, e5, e4, e3, e2, e1]; simp (disch := omega) only [up2, up_ne, up_same, upd_ne, upd_same]
  · rw [e8, e7, e6, e5, e4, e3, e2, e1]; simp (disch := omega) only [up2, up_ne, up_same, upd_ne]
  · rw [e8]; simp only [up2, up_same, upd_same]
  · rw [e8, e7, e6, e5, e4, e3, e2, e1]; unfold gadd; simp (disch := omega) only [up2, up_ne, up_same]; rw [h48]
  · rw [e8, e7, e6, e5, e4, e3, e2, e1]; unfold gadd; simp (disch := omega) only [up2, up_ne, up_same]; rw [h49]
  · rw [e8, e7, e6, e5, e4, e3, e2, e1]; unfold gadd; simp (disch := omega) only [up2, up_ne, up_same]; rw [h50]
  · rw [e8, e7, e6, e5, e4, e3, e2, e1]; unfold gadd; simp (disch := omega) only [up2, up_ne, up_same]; rw [h51]
  · rw [e8, e7, e6, e5, e4, e3, e2, e1]; unfold gadd; simp (disch := omega) only [up2, up_ne, up_same]; rw [h52]
  · rw [e8, e7, e6, e5, e4, e3, e2, e1]; unfold gadd; simp (disch := omega) only [up2, up_ne, up_same]; rw [h53]
  · rw [e8, e7, e6, e5, e4, e3, e2, e1]; unfold gadd; simp (disch := omega) only [up2, up_ne, up_same]; exact h54
  · rw [e8, e7, e6, e5, e4, e3, e2, e1]; unfold gadd; simp (disch := omega) only [up2, up_ne, up_same]; exact h55
end CAe
