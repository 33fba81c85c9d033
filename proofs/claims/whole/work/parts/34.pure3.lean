/-! the reference's run, on: passing, settling, counting -/
def S_giveL : Nat → Nat → Rw → Rw
  | 0, _, ρ => ρ
  | r + 1, l, ρ => S_giveL r (l + 1) (upd ρ (102 + l) (-1))
def S_give (n : Nat) (ρ : Rw) : Rw := S_giveL n 0 ρ
theorem S_giveL_at : ∀ (r l : Nat) (ρ : Rw) (i : Nat), S_giveL r l ρ i = if 102 + l ≤ i ∧ i < 102 + l + r then -1 else ρ i
  | 0, l, ρ, i => by rw [if_neg (by omega)]; rfl
  | r + 1, l, ρ, i => by
    unfold S_giveL
    rw [S_giveL_at r (l + 1) _ i]
    by_cases h1 : i = 102 + l
    · subst h1
      rw [if_neg (by omega), upd_same, if_pos (by omega)]
    · by_cases h2 : 102 + (l + 1) ≤ i ∧ i < 102 + (l + 1) + r
      · rw [if_pos h2, if_pos (by omega)]
      · rw [if_neg h2, upd_ne h1, if_neg (by omega)]
theorem S_give_hz {n : Nat} {ρ : Rw} (h : HZ ρ) : HZ (S_give n ρ) := by
  obtain ⟨k, h1, h2⟩ := h
  exact ⟨k, h1, by rw [S_give, S_giveL_at, if_neg (by omega)]; exact h2⟩
/-- one that comes: line l -/
def S_come (g : Mem) (n l : Nat) (ρ : Rw) : Rw :=
  if S_val (upd (upd ρ (102 + l) (-1)) 0 (ρ (132 + l))) (g 49 l) = ρ (102 + l) then upd (upd ρ (102 + l) (-1)) 0 (ρ (132 + l)) else S_change g n (cl (g 49 l)) (ρ (102 + l)) (upd (upd ρ (102 + l) (-1)) 0 (ρ (132 + l)))
def S_passL (g : Mem) (n : Nat) (until_ : Int32) : Nat → Rw → Rw
  | 0, ρ => if S_next n ρ = -1 ∨ until_ < ρ (132 + cl (S_next n ρ)) then ρ else S_give n (upd ρ 2 (ρ 2 + 1))
  | r + 1, ρ => if S_next n ρ = -1 ∨ until_ < ρ (132 + cl (S_next n ρ)) then ρ else S_passL g n until_ r (S_come g n (cl (S_next n ρ)) ρ)
def S_pass (g : Mem) (n : Nat) (until_ : Int32) (ρ : Rw) : Rw := S_passL g n until_ 300 ρ
theorem S_come_hz {g : Mem} {n l : Nat} {ρ : Rw} (h : HZ ρ) : HZ (S_come g n l ρ) := by
  unfold S_come
  have h1 : HZ (upd (upd ρ (102 + l) (-1)) 0 (ρ (132 + l))) := upd_hz (upd_hz h (by omega)) (by omega)
  split
  · exact h1
  · exact S_change_hz h1
theorem S_passL_hz {g : Mem} {n : Nat} {u : Int32} : ∀ (r : Nat) {ρ : Rw}, HZ ρ → HZ (S_passL g n u r ρ)
  | 0, ρ, h => by
    unfold S_passL
    split
    · exact h
    · exact S_give_hz (upd_hz h (by omega))
  | r + 1, ρ, h => by
    unfold S_passL
    split
    · exact h
    · exact S_passL_hz r (S_come_hz h)
def S_begin (ρ : Rw) : Rw := fun i => if 54 ≤ i ∧ i < 78 then 0 else if 78 ≤ i ∧ i < 102 then ρ (i - 72) else ρ i
theorem S_begin_hz {ρ : Rw} (h : HZ ρ) : HZ (S_begin ρ) := by
  obtain ⟨k, h1, h2⟩ := h
  exact ⟨k, h1, by rw [S_begin, if_neg (by omega), if_neg (by omega)]; exact h2⟩
def S_beginL : Nat → Nat → Rw → Rw
  | 0, _, ρ => ρ
  | r + 1, w, ρ => S_beginL r (w + 1) (upd (upd ρ (54 + w) 0) (78 + w) (ρ (6 + w)))
theorem S_beginL_at : ∀ (r w : Nat) (ρ : Rw) (i : Nat), w + r ≤ 24 → S_beginL r w ρ i = if 54 + w ≤ i ∧ i < 54 + w + r then 0 else if 78 + w ≤ i ∧ i < 78 + w + r then ρ (i - 72) else ρ i
  | 0, w, ρ, i, _ => by rw [if_neg (by omega), if_neg (by omega)]; rfl
  | r + 1, w, ρ, i, hw => by
    unfold S_beginL
    rw [S_beginL_at r (w + 1) _ i (by omega)]
    by_cases h1 : i = 54 + w
    · subst h1
      rw [if_neg (by omega), if_neg (by omega), upd_ne (by omega), upd_same, if_pos (by omega)]
    · by_cases h2 : i = 78 + w
      · subst h2
        rw [if_neg (by omega), if_neg (by omega), upd_same, if_neg (by omega), if_pos (by omega), show 78 + w - 72 = 6 + w by omega]
      · rw [upd_ne h2, upd_ne h1]
        by_cases h3 : 54 + (w + 1) ≤ i ∧ i < 54 + (w + 1) + r
        · rw [if_pos h3, if_pos (by omega)]
        · have b1 : ¬ (54 + w ≤ i ∧ i < 54 + w + (r + 1)) := by omega
          rw [if_neg h3, if_neg b1]
          by_cases h4 : 78 + (w + 1) ≤ i ∧ i < 78 + (w + 1) + r
          · have b2 : 78 + w ≤ i ∧ i < 78 + w + (r + 1) := by omega
            rw [if_pos h4, if_pos b2, upd_ne (by omega), upd_ne (by omega)]
          · have b2 : ¬ (78 + w ≤ i ∧ i < 78 + w + (r + 1)) := by omega
            rw [if_neg h4, if_neg b2]
theorem S_beginL_all (ρ : Rw) : S_beginL 24 0 ρ = S_begin ρ := by
  funext i
  rw [S_beginL_at 24 0 ρ i (by omega)]
  rfl
section ML3
variable {m g : Mem} {n : Nat} {ρ : Rw}
theorem s_M_passTo_56 {a b c d : Int32} {E : Int32 → Int32 → Int32 → Int32 → Int32 → Mem → Prop} {K : Int32 → Mem → Prop} (hc : MC m g n) : ∀ (r l f : Nat) (ρ : Rw), l + r = n → r < f →
    (E a b c d (nI n) (va_up m 60 (S_giveL r l ρ))) → w_M_passTo_56 f a b c d (nI l) (va_up m 60 ρ) E K := by
  intro r
  induction r with
  | zero =>
    intro l f ρ hl hf hE
    have hln : l = n := by omega
    subst hln
    obtain ⟨f, rfl⟩ : ∃ q, f = q + 1 := ⟨f - 1, by omega⟩
    unfold w_M_passTo_56
    rw [hc.lines]
    exact ⟨fun _ => hE, fun h => absurd (nI_le (Nat.le_refl _) (by have := hc.1; omega)) h⟩
  | succ r ih =>
    intro l f ρ hl hf hE
    have hn30 := hc.1
    obtain ⟨f, rfl⟩ : ∃ q, f = q + 1 := ⟨f - 1, by omega⟩
    unfold w_M_passTo_56
    rw [hc.lines]
    refine ⟨fun h => absurd h (nI_ge (by omega) (by omega)), fun _ => ?_⟩
    simp (disch := omega) only [n102, nI_clamp, vp_in_nI, true_and, up2, va_up_up, up_same, forall_eq, nA1]
    exact ih (l + 1) f _ (by omega) (by omega) hE
theorem s_M_passTo_15 {u x2 : Int32} {E : Int32 → Int32 → Int32 → Int32 → Mem → Prop} {K : Int32 → Mem → Prop} (hc : MC m g n) (hwf : ∀ l, l < n → WFl g l) : ∀ (r c f : Nat) (ρ : Rw), c + r = 300 → r + 1 < f → HZ ρ →
    (∀ c' l', E u x2 c' l' (va_up m 60 (S_passL g n u r ρ))) → w_M_passTo_15 f u x2 (nI c) (S_next n ρ) (va_up m 60 ρ) E K := by
  intro r
  induction r with
  | zero =>
    intro c f ρ hcr hf hz hE
    have h300 : c = 300 := by omega
    subst h300
    obtain ⟨f, rfl⟩ : ∃ q, f = q + 1 := ⟨f - 1, by omega⟩
    unfold w_M_passTo_15
    unfold S_passL at hE
    refine ⟨fun h => ?_, fun h => ?_⟩
    · rw [if_pos (Or.inl h)] at hE; exact hE _ _
    · obtain ⟨q, hq, eq, hp⟩ := S_next_spec.resolve_left h
      have hn30 := hc.1
      rw [eq, cl_nI (by omega)] at hE
      rw [eq]
      simp (disch := omega) only [n132, nI_clamp, vp_in_nI, true_and, up_same]
      refine ⟨fun h2 => ?_, fun h2 => ⟨fun h3 => absurd (show nI 300 = 300 from rfl) h3, fun _ => ?_⟩⟩
      · rw [if_pos (Or.inr h2)] at hE; exact hE _ _
      · rw [if_neg (fun hh => hh.elim (nI_m1 (by omega)) h2)] at hE
        simp (disch := omega) only [up2, va_up_up, up_same, forall_eq]
        exact s_M_passTo_56 hc n 0 31 _ (by omega) (by omega) (hE _ _)
  | succ r ih =>
    intro c f ρ hcr hf hz hE
    obtain ⟨f, rfl⟩ : ∃ q, f = q + 1 := ⟨f - 1, by omega⟩
    unfold w_M_passTo_15
    unfold S_passL at hE
    refine ⟨fun h => ?_, fun h => ?_⟩
    · rw [if_pos (Or.inl h)] at hE; exact hE _ _
    · obtain ⟨q, hq, eq, hp⟩ := S_next_spec.resolve_left h
      have hn30 := hc.1
      rw [eq, cl_nI (by omega)] at hE
      rw [eq]
      have hw := hwf q hq
      obtain ⟨hw1, hw2⟩ := hw.1.cl
      simp (disch := omega) only [n132, nI_clamp, vp_in_nI, true_and, up_same]
      refine ⟨fun h2 => ?_, fun h2 => ⟨fun h3 => ?_, fun h3 => absurd ((nI_eq (b := 300) (by omega) (by decide)).mp h3) (by omega)⟩⟩
      · rw [if_pos (Or.inr h2)] at hE; exact hE _ _
      · rw [if_neg (fun hh => hh.elim (nI_m1 (by omega)) h2)] at hE
        have hz1 : HZ (upd (upd ρ (102 + q) (-1)) 0 (ρ (132 + q))) := upd_hz (upd_hz hz (by omega)) (by omega)
        have hzc : HZ (S_come g n q ρ) := S_come_hz hz
        have hgo := ih (c + 1) f (S_come g n q ρ) (by omega) (by omega) hzc hE
        unfold S_come at hgo
        have e49 : m 49 = g 49 := hc.2.2.2.1
        simp (disch := omega) only [n102, nI_clamp, vp_in_nI, true_and, up2, va_up_up, up_same, up_ne, upd_ne, forall_eq, e49]
        refine s_M_val hw.1 ⟨fun h4 => ?_, fun h4 => ?_⟩
        · rw [if_pos h4] at hgo
          refine s_M_nextLine hc ?_
          rw [nA1]; exact hgo
        · rw [if_neg h4] at hgo
          have e49' : ∀ ρ' : Rw, (va_up m 60 ρ') 49 q = nI (cl (g 49 q)) := fun ρ' => by rw [up_ne (by decide), e49]; exact hw1
          rw [e49']
          refine s_M_change hc hw2 hwf hz1 ?_
          refine s_M_nextLine hc ?_
          rw [nA1]; exact hgo
theorem s_M_passTo {u : Int32} {K : Int32 → Mem → Prop} (hc : MC m g n) (hwf : ∀ l, l < n → WFl g l) (hz : HZ ρ) (hK : K (S_pass g n u ρ 3 - ρ 3) (va_up m 60 (S_pass g n u ρ))) : w_M_passTo u (va_up m 60 ρ) K := by
  unfold w_M_passTo
  refine s_M_nextLine hc ?_
  simp only [up_same]
  exact s_M_passTo_15 hc hwf 300 0 302 ρ (by omega) (by omega) hz (fun _ _ => hK)
theorem s_M_beginCounting_2 {E : Int32 → Mem → Prop} {K : Mem → Prop} : ∀ (r w f : Nat) (ρ : Rw), w + r = 24 → r < f →
    (E (nI 24) (va_up m 60 (S_beginL r w ρ))) → w_M_beginCounting_2 f (nI w) (va_up m 60 ρ) E K := by
  intro r
  induction r with
  | zero =>
    intro w f ρ hl hf hE
    have hln : w = 24 := by omega
    subst hln
    obtain ⟨f, rfl⟩ : ∃ q, f = q + 1 := ⟨f - 1, by omega⟩
    unfold w_M_beginCounting_2
    exact ⟨fun _ => hE, fun h => absurd (show (24 : Int32) ≤ nI 24 by decide) h⟩
  | succ r ih =>
    intro w f ρ hl hf hE
    obtain ⟨f, rfl⟩ : ∃ q, f = q + 1 := ⟨f - 1, by omega⟩
    unfold w_M_beginCounting_2
    refine ⟨fun h => absurd ((nI_le24 (by omega)).mp h) (by omega), fun _ => ?_⟩
    simp (disch := omega) only [n54, n78, nI_clamp, vp_in_nI, true_and, up2, va_up_up, up_same, forall_eq, nA1]
    refine s_M_val ⟨w, by omega, rfl⟩ ?_
    have e : S_val (upd ρ (54 + w) 0) (nI w) = ρ (6 + w) := by simp (disch := omega) only [S_val, cl_nI, upd_ne]
    rw [e]
    simp (disch := omega) only [up2, va_up_up, up_same, forall_eq]
    exact ih (w + 1) f _ (by omega) (by omega) hE
theorem s_M_beginCounting {K : Mem → Prop} (hK : K (va_up m 60 (S_begin ρ))) : w_M_beginCounting (va_up m 60 ρ) K := by
  unfold w_M_beginCounting
  refine s_M_beginCounting_2 24 0 25 ρ (by omega) (by omega) ?_
  rw [S_beginL_all]; exact hK
end ML3
/-! counting what is pending -/
def S_cnt (ρ : Rw) : Nat → Nat → Nat
  | 0, _ => 0
  | r + 1, l => (if ρ (102 + l) = -1 then 0 else 1) + S_cnt ρ r (l + 1)
theorem S_cnt_le (ρ : Rw) : ∀ (r l : Nat), S_cnt ρ r l ≤ r
  | 0, _ => Nat.le_refl _
  | r + 1, l => by
    have := S_cnt_le ρ r (l + 1)
    unfold S_cnt; split <;> omega
/-- the first line of l on that drives w -/
def S_drvL (g : Mem) (x : Int32) : Nat → Nat → Int32
  | 0, _ => -1
  | r + 1, l => if g 49 l = x then nI l else S_drvL g x r (l + 1)
def S_drv (g : Mem) (n w : Nat) : Int32 := S_drvL g (nI w) n 0
theorem S_drvL_spec {g : Mem} {x : Int32} {n : Nat} : ∀ (r l : Nat), l + r = n → (S_drvL g x r l = -1 ∧ (∀ q, l ≤ q → q < n → ¬ g 49 q = x)) ∨ ∃ q, l ≤ q ∧ q < n ∧ S_drvL g x r l = nI q ∧ g 49 q = x ∧ ∀ p, l ≤ p → p < q → ¬ g 49 p = x
  | 0, l, hl => Or.inl ⟨rfl, fun q h1 h2 => by omega⟩
  | r + 1, l, hl => by
    unfold S_drvL
    by_cases h : g 49 l = x
    · rw [if_pos h]
      exact Or.inr ⟨l, Nat.le_refl _, by omega, rfl, h, fun p h1 h2 => by omega⟩
    · rw [if_neg h]
      rcases S_drvL_spec (g := g) (x := x) (n := n) r (l + 1) (by omega) with ⟨h1, h2⟩ | ⟨q, h1, h2, h3, h4, h5⟩
      · refine Or.inl ⟨h1, fun q hq1 hq2 => ?_⟩
        by_cases e : q = l
        · subst e; exact h
        · exact h2 q (by omega) hq2
      · refine Or.inr ⟨q, by omega, h2, h3, h4, fun p hp1 hp2 => ?_⟩
        by_cases e : p = l
        · subst e; exact h
        · exact h5 p (by omega) hp2
theorem S_drv_spec {g : Mem} {n w : Nat} : (S_drv g n w = -1 ∧ (∀ q, q < n → ¬ g 49 q = nI w)) ∨ ∃ q, q < n ∧ S_drv g n w = nI q ∧ g 49 q = nI w ∧ ∀ p, p < q → ¬ g 49 p = nI w := by
  rcases S_drvL_spec (g := g) (x := nI w) (n := n) n 0 (by omega) with ⟨h1, h2⟩ | ⟨q, h1, h2, h3, h4, h5⟩
  · exact Or.inl ⟨h1, fun q hq => h2 q (Nat.zero_le _) hq⟩
  · exact Or.inr ⟨q, h2, h3, h4, fun p hp => h5 p (Nat.zero_le _) hp⟩
section ML4
variable {m g : Mem} {n : Nat} {ρ : Rw}
theorem s_M_driver_2 {x : Int32} {E : Int32 → Int32 → Mem → Prop} {K : Int32 → Mem → Prop} (hc : MC m g n) : ∀ (r l f : Nat), l + r = n → r < f →
    (S_drvL g x r l = -1 → E x (nI n) (va_up m 60 ρ)) → (¬ S_drvL g x r l = -1 → K (S_drvL g x r l) (va_up m 60 ρ)) → w_M_driver_2 f x (nI l) (va_up m 60 ρ) E K := by
  intro r
  induction r with
  | zero =>
    intro l f hl hf hE hK
    have hln : l = n := by omega
    subst hln
    obtain ⟨f, rfl⟩ : ∃ q, f = q + 1 := ⟨f - 1, by omega⟩
    unfold w_M_driver_2
    rw [hc.lines]
    exact ⟨fun _ => hE rfl, fun h => absurd (nI_le (Nat.le_refl _) (by have := hc.1; omega)) h⟩
  | succ r ih =>
    intro l f hl hf hE hK
    have hn30 := hc.1
    obtain ⟨f, rfl⟩ : ∃ q, f = q + 1 := ⟨f - 1, by omega⟩
    unfold w_M_driver_2
    rw [hc.lines]
    refine ⟨fun h => absurd h (nI_ge (by omega) (by omega)), fun _ => ⟨vp_in_nI (by omega) (by decide), ?_⟩⟩
    have e49 : (va_up m 60 ρ) 49 (nI l).toNatClampNeg = g 49 l := by rw [up_ne (by decide), hc.2.2.2.1, nI_clamp (by omega)]
    rw [e49]
    unfold S_drvL at hE hK
    refine ⟨fun h => ?_, fun h => ?_⟩
    · rw [if_neg h] at hE hK
      rw [nA1]
      exact ih (l + 1) f (by omega) (by omega) hE hK
    · rw [if_pos h] at hK
      exact hK (nI_m1 (by omega))
theorem s_M_driver {w : Nat} {K : Int32 → Mem → Prop} (hc : MC m g n) (hK : K (S_drv g n w) (va_up m 60 ρ)) : w_M_driver (nI w) (va_up m 60 ρ) K := by
  unfold w_M_driver
  exact s_M_driver_2 hc n 0 31 (by omega) (by have := hc.1; omega) (fun h => by unfold S_drv at hK; rw [h] at hK; exact hK) (fun _ => hK)
theorem s_M_pendingLines_4 {E : Int32 → Int32 → Mem → Prop} {K : Int32 → Mem → Prop} (hc : MC m g n) : ∀ (r l f a : Nat), l + r = n → r < f → 
    (E (nI (a + S_cnt ρ r l)) (nI n) (va_up m 60 ρ)) → w_M_pendingLines_4 f (nI a) (nI l) (va_up m 60 ρ) E K := by
  intro r
  induction r with
  | zero =>
    intro l f a hl hf hE
    have hln : l = n := by omega
    subst hln
    obtain ⟨f, rfl⟩ : ∃ q, f = q + 1 := ⟨f - 1, by omega⟩
    unfold w_M_pendingLines_4
    rw [hc.lines]
    exact ⟨fun _ => hE, fun h => absurd (nI_le (Nat.le_refl _) (by have := hc.1; omega)) h⟩
  | succ r ih =>
    intro l f a hl hf hE
    have hn30 := hc.1
    obtain ⟨f, rfl⟩ : ∃ q, f = q + 1 := ⟨f - 1, by omega⟩
    unfold w_M_pendingLines_4
    rw [hc.lines]
    refine ⟨fun h => absurd h (nI_ge (by omega) (by omega)), fun _ => ?_⟩
    simp (disch := omega) only [n102, nI_clamp, vp_in_nI, true_and, up_same]
    unfold S_cnt at hE
    refine ⟨fun h => ?_, fun h => ?_⟩
    · rw [if_neg h, ← Nat.add_assoc] at hE
      rw [nA1, nA1]
      exact ih (l + 1) f (a + 1) (by omega) (by omega) hE
    · rw [if_pos h, Nat.zero_add] at hE
      rw [nA1, show nI a + (0 : Int32) = nI a from nI_add a 0]
      exact ih (l + 1) f a (by omega) (by omega) hE
theorem s_M_pendingLines {K : Int32 → Mem → Prop} (hc : MC m g n) (hK : K (nI (S_cnt ρ n 0)) (va_up m 60 ρ)) : w_M_pendingLines (va_up m 60 ρ) K := by
  unfold w_M_pendingLines
  exact s_M_pendingLines_4 hc n 0 31 0 (by omega) (by have := hc.1; omega) (by rw [Nat.zero_add]; exact hK)
end ML4
