/-! the reference's run, on: settling, setting, clearing, starting; small questions -/
def S_hz1 (g : Mem) (n : Nat) (ρ : Rw) (w : Nat) : Rw :=
  if S_drv g n w = -1 ∨ g 48 (cl (S_drv g n w)) < 0 then ρ else if ρ (78 + w) = 2 ∨ ρ (6 + w) = 2 then ρ else
  if ρ (78 + w) = ρ (6 + w) then (if ρ (54 + w) ≤ 0 then ρ else S_haz ρ 1 (nI w)) else (if ρ (54 + w) ≤ 2 then ρ else S_haz ρ 2 (nI w))
def S_hzL (g : Mem) (n : Nat) : Nat → Nat → Rw → Rw
  | 0, _, ρ => ρ
  | r + 1, w, ρ => S_hzL g n r (w + 1) (S_hz1 g n ρ w)
def S_settle (g : Mem) (n : Nat) (ρ : Rw) : Rw := S_begin (S_hzL g n 24 0 (S_pass g n 2147483647 ρ))
theorem S_hz1_hz {g : Mem} {n w : Nat} {ρ : Rw} (h : HZ ρ) : HZ (S_hz1 g n ρ w) := by
  unfold S_hz1
  repeat' split
  all_goals first | exact h | exact S_haz_hz h
theorem S_hzL_hz {g : Mem} {n : Nat} : ∀ (r w : Nat) {ρ : Rw}, HZ ρ → HZ (S_hzL g n r w ρ)
  | 0, _, _, h => h
  | r + 1, w, _, h => S_hzL_hz r (w + 1) (S_hz1_hz h)
theorem S_settle_hz {g : Mem} {n : Nat} {ρ : Rw} (h : HZ ρ) : HZ (S_settle g n ρ) := S_begin_hz (S_hzL_hz _ _ (S_passL_hz _ h))
theorem S_haz_low {ρ : Rw} {c w : Int32} {i : Nat} (hi : i < 222) (h5 : i ≠ 5) : S_haz ρ c w i = ρ i := by
  unfold S_haz
  split
  · rfl
  · rw [upd_ne (by omega), upd_ne (by omega), upd_ne (by omega), upd_ne h5]
section ML5
variable {m g : Mem} {n : Nat} {ρ : Rw}
theorem s_M_isGate2 {x : Int32} {K : Int32 → Mem → Prop} (hc : MC m g n) (hx : x = -1 ∨ ∃ q, q < 30 ∧ x = nI q) (h1 : ¬ (x = -1 ∨ g 48 (cl x) < 0) → K 1 (va_up m 60 ρ)) (h0 : (x = -1 ∨ g 48 (cl x) < 0) → K 0 (va_up m 60 ρ)) : w_M_isGate x (va_up m 60 ρ) K := by
  rcases hx with rfl | ⟨q, hq, rfl⟩
  · unfold w_M_isGate
    exact ⟨fun _ => h0 (Or.inl rfl), fun h => absurd rfl h⟩
  · rw [cl_nI (by omega)] at h1 h0
    exact s_M_isGate hc hq (fun h => h1 (fun hh => hh.elim (nI_m1 (by omega)) h)) (fun h => h0 (Or.inr h))
theorem S_drv_lt {g : Mem} {n w : Nat} (hn : n ≤ 30) : S_drv g n w = -1 ∨ ∃ q, q < 30 ∧ S_drv g n w = nI q := by
  rcases S_drv_spec (g := g) (n := n) (w := w) with ⟨h, -⟩ | ⟨q, h1, h2, -⟩
  · exact Or.inl h
  · exact Or.inr ⟨q, by omega, h2⟩
theorem s_M_settleNow_9 {x1 : Int32} {E : Int32 → Int32 → Mem → Prop} {K : Int32 → Mem → Prop} (hc : MC m g n) : ∀ (r w f : Nat) (ρ : Rw), w + r = 24 → r < f → HZ ρ →
    (E x1 (nI 24) (va_up m 60 (S_hzL g n r w ρ))) → w_M_settleNow_9 f x1 (nI w) (va_up m 60 ρ) E K := by
  intro r
  induction r with
  | zero =>
    intro w f ρ hl hf hz hE
    have hln : w = 24 := by omega
    subst hln
    obtain ⟨f, rfl⟩ : ∃ q, f = q + 1 := ⟨f - 1, by omega⟩
    unfold w_M_settleNow_9
    exact ⟨fun _ => hE, fun h => absurd (show (24 : Int32) ≤ nI 24 by decide) h⟩
  | succ r ih =>
    intro w f ρ hl hf hz hE
    obtain ⟨f, rfl⟩ : ∃ q, f = q + 1 := ⟨f - 1, by omega⟩
    unfold w_M_settleNow_9
    refine ⟨fun h => absurd ((nI_le24 (by omega)).mp h) (by omega), fun _ => ?_⟩
    simp (disch := omega) only [n78, n54, nI_clamp, vp_in_nI, true_and, up_same, nA1]
    have hW : isW (nI w) := ⟨w, by omega, rfl⟩
    have hS : ∀ ρ' : Rw, S_val ρ' (nI w) = ρ' (6 + w) := fun ρ' => by simp only [S_val, cl_nI (show w < 2 ^ 31 by omega)]
    have hE' : E x1 (nI 24) (va_up m 60 (S_hzL g n r (w + 1) (S_hz1 g n ρ w))) := hE
    have go : ∀ ρ', S_hz1 g n ρ w = ρ' → HZ ρ' → w_M_settleNow_9 f x1 (nI (w + 1)) (va_up m 60 ρ') E K := by
      intro ρ' e hz'
      rw [e] at hE'
      exact ih (w + 1) f ρ' (by omega) (by omega) hz' hE'
    unfold S_hz1 at go
    refine s_M_driver hc (s_M_isGate2 hc (S_drv_lt hc.1) (fun hg => ⟨fun h => absurd h (by decide), fun _ => ⟨fun h2 => ?_, fun h2 => s_M_val hW ⟨fun v2 => s_M_val hW ?_, fun v2 => ?_⟩⟩⟩) (fun hg => ⟨fun _ => ?_, fun h => absurd rfl h⟩))
    · exact go _ (by rw [if_neg hg, if_pos (Or.inl h2)]) hz
    · rw [hS] at v2 ⊢
      have hno : ¬ (ρ (78 + w) = 2 ∨ ρ (6 + w) = 2) := fun h => h.elim h2 v2
      intro J hJ
      have hj : ∀ ρ' : Rw, ρ' (6 + w) = ρ (6 + w) → ρ' (54 + w) = ρ (54 + w) → HZ ρ' → ((ρ (78 + w) = ρ (6 + w) ∧ S_hz1 g n ρ w = ρ') ∨ (¬ ρ (78 + w) = ρ (6 + w) ∧ ρ' = ρ)) → J (va_up m 60 ρ') := by
        intro ρ' e6 e54 hz' hcase
        refine hJ _ (s_M_val hW ?_)
        rw [hS, e6]
        unfold S_hz1 at hcase
        simp (disch := omega) only [nI_clamp, vp_in_nI, true_and, up_same]
        refine ⟨fun h => ?_, fun h => ?_⟩
        · rcases hcase with ⟨-, hc2⟩ | ⟨hc1, -⟩
          · exact go _ hc2 hz'
          · exact absurd h hc1
        · rcases hcase with ⟨hc1, -⟩ | ⟨-, rfl⟩
          · exact absurd hc1 h
          · refine ⟨fun h3 => ?_, fun h3 => s_M_haz hz' ?_⟩
            · exact go _ (by rw [if_neg hg, if_neg hno, if_neg h, if_pos h3]) hz'
            · exact go _ (by rw [if_neg hg, if_neg hno, if_neg h, if_neg h3]) (S_haz_hz hz')
      refine ⟨fun h => hj ρ rfl rfl hz (Or.inr ⟨h, rfl⟩), fun h => ?_⟩
      simp (disch := omega) only [nI_clamp, vp_in_nI, true_and, up_same]
      refine ⟨fun h3 => hj ρ rfl rfl hz (Or.inl ⟨h, ?_⟩), fun h3 => s_M_haz hz (hj _ (S_haz_low (by omega) (by omega)) (S_haz_low (by omega) (by omega)) (S_haz_hz hz) (Or.inl ⟨h, ?_⟩))⟩
      · unfold S_hz1; rw [if_neg hg, if_neg hno, if_pos h, if_pos h3]
      · unfold S_hz1; rw [if_neg hg, if_neg hno, if_pos h, if_neg h3]
    · rw [hS] at v2
      exact go _ (by rw [if_neg hg, if_pos (Or.inr v2)]) hz
    · exact go _ (by rw [if_pos hg]) hz
theorem s_M_settleNow {K : Int32 → Mem → Prop} (hc : MC m g n) (hwf : ∀ l, l < n → WFl g l) (hz : HZ ρ) (hK : K (S_pass g n 2147483647 ρ 3 - ρ 3) (va_up m 60 (S_settle g n ρ))) : w_M_settleNow (va_up m 60 ρ) K := by
  unfold w_M_settleNow
  refine s_M_passTo hc hwf hz ?_
  exact s_M_settleNow_9 hc 24 0 25 _ (by omega) (by omega) (S_passL_hz _ hz) (s_M_beginCounting hK)
def S_set (g : Mem) (n w : Nat) (v : Int32) (ρ : Rw) : Rw := if ρ (6 + w) = v then S_begin ρ else S_change g n w v (S_begin ρ)
theorem S_set_hz {g : Mem} {n w : Nat} {v : Int32} {ρ : Rw} (h : HZ ρ) : HZ (S_set g n w v ρ) := by
  unfold S_set
  split
  · exact S_begin_hz h
  · exact S_change_hz (S_begin_hz h)
theorem s_M_setNow {w : Nat} {v : Int32} {K : Int32 → Mem → Prop} (hc : MC m g n) (hwf : ∀ l, l < n → WFl g l) (hz : HZ ρ) (hw : w < 24) (hK : K (ρ (6 + w)) (va_up m 60 (S_set g n w v ρ))) : w_M_setNow (nI w) v (va_up m 60 ρ) K := by
  have hW : isW (nI w) := ⟨w, hw, rfl⟩
  have hS : S_val ρ (nI w) = ρ (6 + w) := by simp only [S_val, cl_nI (show w < 2 ^ 31 by omega)]
  unfold w_M_setNow
  unfold S_set at hK
  refine s_M_val hW (s_M_beginCounting ?_)
  rw [hS]
  refine ⟨fun h => ?_, fun h => s_M_change hc hw hwf (S_begin_hz hz) ?_⟩
  · rw [if_pos h] at hK; exact hK
  · rw [if_neg h] at hK; exact hK
/-! clearing -/
def S_clear : Rw := fun i => if 6 ≤ i ∧ i < 30 then 2 else if 30 ≤ i ∧ i < 54 then -1 else if 78 ≤ i ∧ i < 102 then 2 else if 102 ≤ i ∧ i < 132 then -1 else if 192 ≤ i ∧ i < 222 then -1 else 0
def S_clA (w : Nat) : Rw := fun i => if 6 ≤ i ∧ i < 6 + w then 2 else if 30 ≤ i ∧ i < 30 + w then -1 else if 78 ≤ i ∧ i < 78 + w then 2 else 0
def S_clB (l : Nat) : Rw := fun i => if 102 ≤ i ∧ i < 102 + l then -1 else if 192 ≤ i ∧ i < 192 + l then -1 else S_clA 24 i
theorem S_clA_s {w : Nat} (hw : w < 24) : upd (upd (upd (S_clA w) (6 + w) 2) (30 + w) (-1)) (78 + w) 2 = S_clA (w + 1) := by
  funext i
  simp only [upd, S_clA]
  by_cases h1 : i = 78 + w
  · subst h1
    rw [if_pos rfl, if_neg (by omega), if_neg (by omega), if_pos (by omega)]
  · by_cases h2 : i = 30 + w
    · subst h2
      rw [if_neg h1, if_pos rfl, if_neg (by omega), if_pos (by omega)]
    · by_cases h3 : i = 6 + w
      · subst h3
        rw [if_neg h1, if_neg h2, if_pos rfl, if_pos (by omega)]
      · rw [if_neg h1, if_neg h2, if_neg h3]
        by_cases a : 6 ≤ i ∧ i < 6 + w
        · rw [if_pos a, if_pos (show 6 ≤ i ∧ i < 6 + (w + 1) by omega)]
        · rw [if_neg a, if_neg (show ¬ (6 ≤ i ∧ i < 6 + (w + 1)) by omega)]
          by_cases b : 30 ≤ i ∧ i < 30 + w
          · rw [if_pos b, if_pos (show 30 ≤ i ∧ i < 30 + (w + 1) by omega)]
          · rw [if_neg b, if_neg (show ¬ (30 ≤ i ∧ i < 30 + (w + 1)) by omega)]
            by_cases c : 78 ≤ i ∧ i < 78 + w
            · rw [if_pos c, if_pos (show 78 ≤ i ∧ i < 78 + (w + 1) by omega)]
            · rw [if_neg c, if_neg (show ¬ (78 ≤ i ∧ i < 78 + (w + 1)) by omega)]
theorem S_clB_s {l : Nat} (hl : l < 30) : upd (upd (S_clB l) (102 + l) (-1)) (192 + l) (-1) = S_clB (l + 1) := by
  funext i
  simp only [upd, S_clB]
  by_cases h1 : i = 192 + l
  · subst h1
    rw [if_pos rfl, if_neg (by omega), if_pos (by omega)]
  · by_cases h2 : i = 102 + l
    · subst h2
      rw [if_neg h1, if_pos rfl, if_pos (by omega)]
    · rw [if_neg h1, if_neg h2]
      by_cases a : 102 ≤ i ∧ i < 102 + l
      · rw [if_pos a, if_pos (show 102 ≤ i ∧ i < 102 + (l + 1) by omega)]
      · rw [if_neg a, if_neg (show ¬ (102 ≤ i ∧ i < 102 + (l + 1)) by omega)]
        by_cases b : 192 ≤ i ∧ i < 192 + l
        · rw [if_pos b, if_pos (show 192 ≤ i ∧ i < 192 + (l + 1) by omega)]
        · rw [if_neg b, if_neg (show ¬ (192 ≤ i ∧ i < 192 + (l + 1)) by omega)]
theorem s_M_clear_9_11 {E : Int32 → Mem → Prop} {K : Mem → Prop} : ∀ (r w f : Nat), w + r = 24 → r < f → (E (nI 24) (va_up m 60 (S_clA 24))) → w_M_clear_9_11 f (nI w) (va_up m 60 (S_clA w)) E K := by
  intro r
  induction r with
  | zero =>
    intro w f hl hf hE
    have hln : w = 24 := by omega
    subst hln
    obtain ⟨f, rfl⟩ : ∃ q, f = q + 1 := ⟨f - 1, by omega⟩
    unfold w_M_clear_9_11
    exact ⟨fun _ => hE, fun h => absurd (show (24 : Int32) ≤ nI 24 by decide) h⟩
  | succ r ih =>
    intro w f hl hf hE
    obtain ⟨f, rfl⟩ : ∃ q, f = q + 1 := ⟨f - 1, by omega⟩
    unfold w_M_clear_9_11
    refine ⟨fun h => absurd ((nI_le24 (by omega)).mp h) (by omega), fun _ => ?_⟩
    simp (disch := omega) only [n6, n30, n78, nI_clamp, vp_in_nI, true_and, up2, va_up_up, up_same, forall_eq, nA1, S_clA_s]
    exact ih (w + 1) f (by omega) (by omega) hE
theorem s_M_clear_9_55 {E : Int32 → Mem → Prop} {K : Mem → Prop} : ∀ (r l f : Nat), l + r = 30 → r < f → (E (nI 30) (va_up m 60 (S_clB 30))) → w_M_clear_9_55 f (nI l) (va_up m 60 (S_clB l)) E K := by
  intro r
  induction r with
  | zero =>
    intro l f hl hf hE
    have hln : l = 30 := by omega
    subst hln
    obtain ⟨f, rfl⟩ : ∃ q, f = q + 1 := ⟨f - 1, by omega⟩
    unfold w_M_clear_9_55
    exact ⟨fun _ => hE, fun h => absurd (show (30 : Int32) ≤ nI 30 by decide) h⟩
  | succ r ih =>
    intro l f hl hf hE
    obtain ⟨f, rfl⟩ : ∃ q, f = q + 1 := ⟨f - 1, by omega⟩
    unfold w_M_clear_9_55
    refine ⟨fun h => absurd ((nI_le30 (by omega)).mp h) (by omega), fun _ => ?_⟩
    simp (disch := omega) only [n102, n192, nI_clamp, vp_in_nI, true_and, up2, va_up_up, up_same, forall_eq, nA1, S_clB_s]
    exact ih (l + 1) f (by omega) (by omega) hE
theorem S_clA_0 : S_clA 0 = fun _ => 0 := by
  funext i
  unfold S_clA
  rw [if_neg (by omega), if_neg (by omega), if_neg (by omega)]
theorem S_clB_0 : S_clB 0 = S_clA 24 := by
  funext i
  unfold S_clB
  rw [if_neg (by omega), if_neg (by omega)]
theorem S_clB_30 : S_clB 30 = S_clear := by
  funext i
  unfold S_clB S_clA S_clear
  by_cases a : 102 ≤ i ∧ i < 132
  · rw [if_pos (show 102 ≤ i ∧ i < 102 + 30 by omega), if_neg (show ¬ (6 ≤ i ∧ i < 30) by omega), if_neg (show ¬ (30 ≤ i ∧ i < 54) by omega), if_neg (show ¬ (78 ≤ i ∧ i < 102) by omega), if_pos a]
  · rw [if_neg (show ¬ (102 ≤ i ∧ i < 102 + 30) by omega), if_neg a]
    by_cases b : 192 ≤ i ∧ i < 222
    · rw [if_pos (show 192 ≤ i ∧ i < 192 + 30 by omega), if_neg (show ¬ (6 ≤ i ∧ i < 30) by omega), if_neg (show ¬ (30 ≤ i ∧ i < 54) by omega), if_neg (show ¬ (78 ≤ i ∧ i < 102) by omega), if_pos b]
    · rw [if_neg (show ¬ (192 ≤ i ∧ i < 192 + 30) by omega), if_neg b]
theorem s_M_clear_9 {K : Mem → Prop} (hK : K (va_up m 60 S_clear)) : w_M_clear_9 (va_up m 60 (fun _ => 0)) K := by
  unfold w_M_clear_9
  rw [← S_clA_0]
  refine s_M_clear_9_11 24 0 25 (by omega) (by omega) ?_
  show w_M_clear_9_55 31 (nI 0) (va_up m 60 (S_clA 24)) _ K
  rw [← S_clB_0]
  refine s_M_clear_9_55 30 0 31 (by omega) (by omega) ?_
  rw [S_clB_30]; exact hK
theorem s_M_clear {K : Mem → Prop} (hK : K (va_up m 60 S_clear)) : w_M_clear m K := by
  unfold w_M_clear
  intro m1 e
  subst e
  exact s_M_clear_9 hK
theorem S_clear_hz : HZ S_clear := ⟨0, by omega, by decide⟩
def S_startL (g : Mem) (n : Nat) : Nat → Nat → Rw → Rw
  | 0, _, ρ => ρ
  | r + 1, l, ρ => S_startL g n r (l + 1) (if g 48 l = -1 then S_change g n (cl (g 49 l)) 0 ρ else ρ)
theorem S_startL_hz {g : Mem} {n : Nat} : ∀ (r l : Nat) {ρ : Rw}, HZ ρ → HZ (S_startL g n r l ρ)
  | 0, _, _, h => h
  | r + 1, l, _, h => by
    unfold S_startL
    refine S_startL_hz r (l + 1) ?_
    split
    · exact S_change_hz h
    · exact h
theorem s_M_start_36_43 {E : Int32 → Mem → Prop} {K : Int32 → Mem → Prop} (hc : MC m g n) (hwf : ∀ l, l < n → WFl g l) : ∀ (r l f : Nat) (ρ : Rw), l + r = n → r < f → HZ ρ →
    (E (nI n) (va_up m 60 (S_startL g n r l ρ))) → w_M_start_36_43 f (nI l) (va_up m 60 ρ) E K := by
  intro r
  induction r with
  | zero =>
    intro l f ρ hl hf hz hE
    have hln : l = n := by omega
    subst hln
    obtain ⟨f, rfl⟩ : ∃ q, f = q + 1 := ⟨f - 1, by omega⟩
    unfold w_M_start_36_43
    rw [hc.lines]
    exact ⟨fun _ => hE, fun h => absurd (nI_le (Nat.le_refl _) (by have := hc.1; omega)) h⟩
  | succ r ih =>
    intro l f ρ hl hf hz hE
    have hn30 := hc.1
    obtain ⟨f, rfl⟩ : ∃ q, f = q + 1 := ⟨f - 1, by omega⟩
    unfold w_M_start_36_43
    rw [hc.lines]
    refine ⟨fun h => absurd h (nI_ge (by omega) (by omega)), fun _ => ⟨vp_in_nI (by omega) (by decide), ?_⟩⟩
    have e48 : (va_up m 60 ρ) 48 (nI l).toNatClampNeg = g 48 l := by rw [up_ne (by decide), hc.2.2.1, nI_clamp (by omega)]
    have e49 : (va_up m 60 ρ) 49 (nI l).toNatClampNeg = nI (cl (g 49 l)) := by rw [up_ne (by decide), hc.2.2.2.1, nI_clamp (by omega)]; exact (hwf l (by omega)).1.cl.1
    rw [e48, e49]
    unfold S_startL at hE
    refine ⟨fun h => ?_, fun h => ⟨vp_in_nI (by omega) (by decide), s_M_change hc (hwf l (by omega)).1.cl.2 hwf hz ?_⟩⟩
    · rw [if_neg h] at hE
      rw [nA1]
      exact ih (l + 1) f ρ (by omega) (by omega) hz hE
    · rw [if_pos h] at hE
      rw [nA1]
      exact ih (l + 1) f _ (by omega) (by omega) (S_change_hz hz) hE
end ML5
