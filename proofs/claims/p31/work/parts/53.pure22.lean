/-! a line is added, on -/
theorem ndr_s {g : Mem} {w n : Nat} : S_ndr g w (n + 1) = S_ndr g w n + (if g 49 n = nI w then 1 else 0) := rfl
section CAe
variable {m m' g : Mem} {n : Nat}
theorem CC.add {w : Nat} {k k' a b c ga gb gc d : Int32} (hcc : CC m g n) (hn : n < 30) (hw : w < 24) (h9 : m 9 n = g 54 n) (h10 : m 10 n = g 55 n)
    (f : ∀ i, (i < 2 ∨ 13 < i ∨ i = 9 ∨ i = 10) → m' i = m i) (f2 : m' 2 11 = nI (n + 1)) (f3 : m' 3 = upd (m 3) n k') (f4 : m' 4 = upd (m 4) n (nI w)) (f5 : m' 5 = upd (m 5) n a) (f6 : m' 6 = upd (m 6) n b) (f7 : m' 7 = upd (m 7) n c) (f8 : m' 8 = upd (m 8) n d)
    (f11 : ∀ x, x < 24 → ∀ i, i < 32 → (bt (m' 11 x) i = true ↔ (bt (m 11 x) i = true ∨ ((a = nI x ∨ b = nI x ∨ c = nI x) ∧ i = n)))) (f12 : m' 12 = upd (m 12) w (nI (S_ndr g w n + 1))) (f13 : m' 13 = (if S_ndr g w n = 0 then upd (m 13) w (nI n) else m 13))
    (ea : a = ga) (hu : ∀ x, x < 24 → ((a = nI x ∨ b = nI x ∨ c = nI x) ↔ (ga = nI x ∨ gb = nI x ∨ gc = nI x)))
    (hk : (k = -1 ∧ k' = 8 ∧ b = -1 ∧ c = -1) ∨ (k = -2 ∧ k' = 9 ∧ b = gb ∧ c = gc) ∨ (∃ q : Nat, q < 8 ∧ k = nI q ∧ k' = nI q ∧ b = (if 2 ≤ q then gb else ga) ∧ c = (if q = 7 then gc else ga))) :
    CC m' (gadd g n k (nI w) ga gb gc d) (n + 1) := by
  obtain ⟨c0, c1, cl_, cu, cd, cf⟩ := hcc
  refine ⟨by omega, f2, fun l hl => ?_, fun x hx i hi => ?_, fun x hx => ?_, fun x hx => ?_⟩
  · by_cases e : l = n
    · subst e
      unfold CL
      rw [f4, f5, f8, f 9 (by omega), f 10 (by omega), f3, f6, f7, upd_same, upd_same, upd_same, upd_same, upd_same, upd_same, ga48, ga49, ga50, ga51, ga52, ga53, ga54, ga55, if_pos rfl, if_pos rfl, if_pos rfl, if_pos rfl, if_pos rfl, if_pos rfl]
      exact ⟨rfl, ea, rfl, h9, h10, hk⟩
    · have := cl_ l (by omega)
      unfold CL at this ⊢
      rw [f4, f5, f8, f 9 (by omega), f 10 (by omega), f3, f6, f7, upd_ne e, upd_ne e, upd_ne e, upd_ne e, upd_ne e, upd_ne e, ga48, ga49, ga50, ga51, ga52, ga53, ga54, ga55, if_neg e, if_neg e, if_neg e, if_neg e, if_neg e, if_neg e]
      exact this
  · rw [f11 x hx i hi, cu x hx i hi]
    by_cases e : i = n
    · subst e
      rw [ga_uses_n, ← hu x hx]
      exact ⟨fun h => ⟨Nat.lt_succ_self _, h.elim (fun h => absurd h.1 (Nat.lt_irrefl _)) fun h => h.1⟩, fun h => Or.inr ⟨h.2, rfl⟩⟩
    · rw [ga_uses e]
      exact ⟨fun h => h.elim (fun h => ⟨by omega, h.2⟩) fun h => absurd h.2 e, fun h => Or.inl ⟨by omega, h.2⟩⟩
  · have hnd := S_ndr_le g x n
    rw [f12]
    rw [ndr_s, ga_ndr n (Nat.le_refl _), ga49, if_pos rfl]
    by_cases e : x = w
    · subst e
      rw [upd_same, if_pos rfl]
    · rw [upd_ne e, if_neg (fun h => e ((nI_eq (by omega) (by omega)).mp h).symm)]
      exact cd x hx
  · have hd := ga_drvL (g := g) (n := n) (k := k) (w := nI w) (a := ga) (b := gb) (c := gc) (d := d) (x := nI x) c0 n 0 (by omega)
    have h0 := drv_0 (g := g) (n := n) (x := x) c0
    show m' 13 x = S_drvL (gadd g n k (nI w) ga gb gc d) (nI x) (n + 1) 0
    rw [hd]
    show _ = (if S_drv g n x = -1 then (if nI w = nI x then nI n else -1) else S_drv g n x)
    by_cases e : x = w
    · subst e
      rw [f13]
      by_cases e0 : S_ndr g x n = 0
      · rw [if_pos e0, upd_same, if_pos (h0.mpr e0), if_pos rfl]
      · rw [if_neg e0, if_neg (fun h => e0 (h0.mp h))]; exact cf x hx
    · have e13 : m' 13 x = m 13 x := by
        rw [f13]; split
        · rw [upd_ne e]
        · rfl
      rw [e13, if_neg (fun h => e ((nI_eq (by omega) (by omega)).mp h).symm), cf x hx]
      split
      · assumption
      · rfl
end CAe
