/-! counting begins anew, hazards are noted, settling -/
theorem SI.begin {g : Mem} {n now B : Nat} {ρ : Rw} (hn : n ≤ 30) (h : SI g n now B ρ) : SI g n now 0 (S_begin ρ) := by
  obtain ⟨a1, a2, a3, a4, a5, a6, a7, a8⟩ := h
  refine ⟨⟨(S_begin_lo (by omega)).trans a1.1, (S_begin_lo (by omega)).trans a1.2⟩, fun q hq e => (S_begin_lo (by omega)).trans (a2 q hq e), fun q hq e => ?_, fun x hx => ?_, fun q hq => ?_, fun x hx => ⟨0, Nat.le_refl _, S_begin_54 hx⟩, a7.cg (Nat.le_refl _) (S_begin_lo (by omega)) fun i hi => S_begin_lo (by omega), a8.begin⟩
  · rw [S_begin_lo (by omega)] at e
    rw [S_begin_lo (by omega)]; exact a3 q hq e
  · rw [S_begin_lo (by omega)]; exact a4 x hx
  · rw [S_begin_lo (by omega)]; exact a5 q hq
theorem GCo.cg {g : Mem} {n : Nat} {ρ ρ' : Rw} (hG : GD g n) (h : GCo g n ρ) (h1 : ∀ w, w < 24 → ρ' (6 + w) = ρ (6 + w)) (h2 : ∀ l, l < n → ρ' (102 + l) = ρ (102 + l)) : GCo g n ρ' := fun l hl hk =>
  (h l hl hk).cg (h2 l hl) (h1 l (by have := hG.1; omega)) (reckon_same (hG.wf l hl) hk fun w hw _ => h1 w hw)
theorem SI.haz {g : Mem} {n now B w : Nat} {c : Int32} {ρ : Rw} (hn : n ≤ 30) (h : SI g n now B ρ) (hw : w < n) (hk : ¬ g 48 w < 0) (hc : c = 1 ∨ c = 2) : SI g n now B (S_haz ρ c (nI w)) := by
  obtain ⟨a1, a2, a3, a4, a5, a6, a7, a8⟩ := h
  refine ⟨⟨(S_haz_low (by omega) (by omega)).trans a1.1, (S_haz_low (by omega) (by omega)).trans a1.2⟩, fun q hq e => (S_haz_low (by omega) (by omega)).trans (a2 q hq e), fun q hq e => ?_, fun x hx => ?_, fun q hq => ?_, fun x hx => ?_, ?_, a8.haz⟩
  · rw [S_haz_low (by omega) (by omega)] at e
    rw [S_haz_low (by omega) (by omega)]; exact a3 q hq e
  · rw [S_haz_low (by omega) (by omega)]; exact a4 x hx
  · rw [S_haz_low (by omega) (by omega)]; exact a5 q hq
  · rw [S_haz_low (by omega) (by omega)]; exact a6 x hx
  · obtain ⟨H, tm, h40, e5, hall⟩ := a7
    unfold S_haz
    by_cases q : ρ 5 = 40
    · rw [if_pos q]; exact ⟨H, tm, h40, e5, hall⟩
    · rw [if_neg q]
      have hH : H < 40 := by
        by_cases e : H = 40
        · subst e; exact absurd e5 q
        · omega
      have ec : cl (ρ 5) = H := by rw [e5, cl_nI (by omega)]
      rw [ec]
      obtain ⟨tm2, e1, e2⟩ : ∃ tm2 : Nat → Nat, tm2 H = now ∧ ∀ k, k ≠ H → tm2 k = tm k := ⟨fun k => if k = H then now else tm k, if_pos rfl, fun k hk => if_neg hk⟩
      refine ⟨H + 1, tm2, by omega, ?_, fun k hlt => ?_⟩
      · rw [upd_ne (by omega), upd_ne (by omega), upd_ne (by omega), upd_same, e5, nI_1 H]
      · by_cases e : k = H
        · subst e
          refine ⟨?_, ⟨w, hw, hk, ?_⟩, ?_, ?_, fun j hj => ?_⟩
          · rw [upd_ne (by omega), upd_ne (by omega), upd_same]; exact hc
          · rw [upd_ne (by omega), upd_same]
          · rw [upd_same, a1.1, e1]
          · rw [e1]; exact Nat.le_refl _
          · by_cases d : j = k
            · rw [d]; exact Nat.le_refl _
            · rw [e1, e2 j d]; exact (hall j (by omega)).2.2.2.1
        · obtain ⟨b1, b2, b3, b4, b5⟩ := hall k (by omega)
          rw [upd_ne (by omega), upd_ne (by omega), upd_ne (by omega), upd_ne (by omega), upd_ne (by omega), upd_ne (by omega), upd_ne (by omega), upd_ne (by omega), upd_ne (by omega), upd_ne (by omega), upd_ne (by omega), upd_ne (by omega), e2 k e]
          refine ⟨b1, b2, b3, b4, fun j hj => ?_⟩
          rw [e2 j (by omega)]; exact b5 j hj
theorem GD.drv {g : Mem} {n w : Nat} (hG : GD g n) (hw : w < 24) : S_drv g n w = if w < n then nI w else -1 := by
  have h17 := hG.1
  rcases S_drv_spec (g := g) (n := n) (w := w) with ⟨e, h⟩ | ⟨q, hq, e, h1, -⟩
  · rw [e]
    split
    · rename_i hw2; exact absurd (hG.2 w hw2).2.1 (h w hw2)
    · rfl
  · have : q = w := (nI_eq (by omega) (by omega)).mp ((hG.2 q hq).2.1.symm.trans h1)
    subst this
    rw [e, if_pos hq]
theorem SI.hz1 {g : Mem} {n now B w : Nat} {ρ : Rw} (hG : GD g n) (h : SI g n now B ρ) (hw : w < 24) : SI g n now B (S_hz1 g n ρ w) ∧ ∀ i, i < 222 → i ≠ 5 → S_hz1 g n ρ w i = ρ i := by
  have hn := hG.le30
  unfold S_hz1
  rw [hG.drv hw]
  by_cases hwn : w < n
  · rw [if_pos hwn, cl_nI (by omega)]
    by_cases hk : g 48 w < 0
    · rw [if_pos (Or.inr hk)]; exact ⟨h, fun _ _ _ => rfl⟩
    · rw [if_neg (fun q => q.elim (nI_m1 (by omega)) hk)]
      repeat' split
      all_goals first | exact ⟨h, fun _ _ _ => rfl⟩ | exact ⟨h.haz hn hwn hk (Or.inl rfl), fun i h1 h2 => S_haz_low h1 h2⟩ | exact ⟨h.haz hn hwn hk (Or.inr rfl), fun i h1 h2 => S_haz_low h1 h2⟩
  · rw [if_neg hwn, if_pos (Or.inl rfl)]; exact ⟨h, fun _ _ _ => rfl⟩
theorem SI.hzL {g : Mem} {n now B : Nat} (hG : GD g n) : ∀ (r w : Nat) (ρ : Rw), w + r = 24 → SI g n now B ρ → SI g n now B (S_hzL g n r w ρ) ∧ ∀ i, i < 222 → i ≠ 5 → S_hzL g n r w ρ i = ρ i
  | 0, w, ρ, hr, h => ⟨h, fun _ _ _ => rfl⟩
  | r + 1, w, ρ, hr, h => by
    obtain ⟨h1, e1⟩ := h.hz1 hG (w := w) (by omega)
    obtain ⟨h2, e2⟩ := SI.hzL hG r (w + 1) _ (by omega) h1
    exact ⟨h2, fun i hi h5 => (e2 i hi h5).trans (e1 i hi h5)⟩
theorem hz1_lo {g : Mem} {n w : Nat} {ρ : Rw} : ∀ i, i < 222 → i ≠ 5 → S_hz1 g n ρ w i = ρ i := fun i h1 h2 => by
  unfold S_hz1
  repeat' split
  all_goals first | rfl | exact S_haz_low h1 h2
theorem hzL_lo {g : Mem} {n : Nat} : ∀ (r w : Nat) (ρ : Rw) (i : Nat), i < 222 → i ≠ 5 → S_hzL g n r w ρ i = ρ i
  | 0, _, _, _, _, _ => rfl
  | r + 1, w, ρ, i, h1, h2 => (hzL_lo r (w + 1) _ i h1 h2).trans (hz1_lo i h1 h2)
theorem settle_lo {g : Mem} {n i : Nat} {ρ : Rw} (hi : i < 54 ∨ (102 ≤ i ∧ i < 222)) (h5 : i ≠ 5) : S_settle g n ρ i = S_pass g n 2147483647 ρ i := by
  unfold S_settle
  rw [S_begin_lo (by omega), hzL_lo _ _ _ i (by omega) h5]
theorem max_nI : (2147483647 : Int32) = nI (2 ^ 31 - 1) := by decide
/-- a settling: nothing is pending and the gates are what they are by their wires; or it was restless -/
theorem settle_ok {g : Mem} {n now B : Nat} {ρ : Rw} (hG : GD g n) (hb : now + 6020 < 2 ^ 31) (h : SI g n now B ρ) (hgs : GCo g n ρ) :
    (∀ w, w < 4 → S_settle g n ρ (6 + w) = ρ (6 + w)) ∧ ((∃ t : Nat, now ≤ t ∧ t ≤ now + 6000 ∧ S_pass g n 2147483647 ρ 2 = 0 ∧ S_pass g n 2147483647 ρ 0 = nI t ∧ SI g n t 0 (S_settle g n ρ) ∧ GCo g n (S_settle g n ρ) ∧ ∀ l, l < n → S_settle g n ρ (102 + l) = -1) ∨ (S_pass g n 2147483647 ρ 2 = 1 ∧ S_settle g n ρ 2 = 1)) := by
  have hn := hG.le30
  obtain ⟨p1, p2⟩ := passL_ok hG (U := 2 ^ 31 - 1) (by decide) 300 now B ρ (by omega) h hgs
  rw [← max_nI] at p1 p2
  have e : S_passL g n 2147483647 300 ρ = S_pass g n 2147483647 ρ := rfl
  rw [e] at p1 p2
  have st : ∀ i, (i < 54 ∨ (102 ≤ i ∧ i < 222)) → i ≠ 5 → S_settle g n ρ i = S_pass g n 2147483647 ρ i := fun i h1 h2 => settle_lo h1 h2
  refine ⟨fun w hw => (st _ (by omega) (by omega)).trans (p1 w hw), ?_⟩
  rcases p2 with ⟨t, t1, t2, -, s1, s2, s3⟩ | ⟨q1, q2⟩
  · left
    have hno : ∀ l, l < n → S_pass g n 2147483647 ρ (102 + l) = -1 := by
      rcases next_min hn (fun l hl e => by obtain ⟨t3, -, b, e⟩ := s1.2.2.1 l hl e; exact ⟨t3, by omega, e⟩) with ⟨-, h2⟩ | ⟨q, hq, e, hp, -⟩
      · exact h2
      · exfalso
        rcases s3 with s3 | s3
        · exact nI_m1 (l := q) (by omega) (e.symm.trans s3)
        · obtain ⟨t3, -, b, et⟩ := s1.2.2.1 q hq hp
          rw [e, cl_nI (by omega), et, max_nI, nI_ltI (by decide) (by omega)] at s3
          omega
    have hz := SI.hzL hG 24 0 _ (by omega) s1
    refine ⟨t, t1, by omega, s1.1.2, s1.1.1, hz.1.begin hn, s2.cg hG (fun w hw => st _ (by omega) (by omega)) (fun l hl => st _ (by omega) (by omega)), fun l hl => (st _ (by omega) (by omega)).trans (hno l hl)⟩
  · exact Or.inr ⟨q1, (st _ (by omega) (by omega)).trans q1⟩
/-- a gate that has nothing pending is what it is by its wires -/
theorem GS1.rest {g : Mem} {ρ : Rw} {l : Nat} (h : GS1 g ρ l) (hp : ρ (102 + l) = -1) (hv : ¬ S_reckon g ρ l = -1) : ρ (6 + l) = S_reckon g ρ l := by
  unfold GS1 at h
  split at h
  · assumption
  · exact absurd (h.symm.trans hp) hv
theorem set_ok {g : Mem} {n now B w : Nat} {v : Int32} {ρ : Rw} (hG : GD g n) (hn31 : now < 2 ^ 31) (h : SI g n now B ρ) (hgs : GCo g n ρ) (hw : w < 4) (hv : isV v) : SI g n now 1 (S_set g n w v ρ) ∧ GCo g n (S_set g n w v ρ) ∧ S_set g n w v ρ 3 = ρ 3 + (if ρ (6 + w) = v then 0 else 1) ∧ S_set g n w v ρ (6 + w) = v := by
  have hn := hG.le30
  have h0 := h.begin hn
  have g0 : GCo g n (S_begin ρ) := hgs.cg hG (fun w hw => S_begin_lo (by omega)) (fun l hl => S_begin_lo (by omega))
  unfold S_set
  by_cases c : ρ (6 + w) = v
  · rw [if_pos c, if_pos c]
    exact ⟨h0.le (by omega), g0, by rw [S_begin_lo (by omega), Int32.add_zero], by rw [S_begin_lo (by omega)]; exact c⟩
  · rw [if_neg c, if_neg c]
    obtain ⟨s1, s2, s3⟩ := h0.change (w := w) hG hn31 (by omega) hv (fun q hq hk _ => g0 q hq hk) (fun hwn hk => absurd (show g 48 w < 0 by rw [(hG.2 w hwn).2.2.2.2.1.mpr hw]; decide) hk)
    exact ⟨s1, s2, by rw [s3, S_begin_lo (by omega)], by rw [S_change_val (by omega) (by omega), if_pos rfl]⟩
