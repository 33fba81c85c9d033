/-! the reference's run, on: changes, what comes next, passing, counting -/
def S_uses (g : Mem) (l w : Nat) : Prop := g 50 l = nI w ∨ g 51 l = nI w ∨ g 52 l = nI w
def S_ask1 (g : Mem) (w : Nat) (was : Int32) (l : Nat) (ρ : Rw) : Rw := if g 50 l = nI w ∨ g 51 l = nI w ∨ g 52 l = nI w then (if g 48 l < 0 then S_reg g ρ l w was else S_gate g ρ l) else ρ
def S_ask (g : Mem) (w : Nat) (was : Int32) : Nat → Nat → Rw → Rw
  | 0, _, ρ => ρ
  | r + 1, l, ρ => S_ask g w was r (l + 1) (S_ask1 g w was l ρ)
def S_chg0 (w : Nat) (v : Int32) (ρ : Rw) : Rw := upd (upd (upd (upd ρ (6 + w) v) (30 + w) (ρ 0)) (54 + w) (ρ (54 + w) + 1)) 3 (ρ 3 + 1)
def S_change (g : Mem) (n w : Nat) (v : Int32) (ρ : Rw) : Rw := S_ask g w (ρ (6 + w)) n 0 (S_chg0 w v ρ)
theorem S_ask1_hz {g : Mem} {w l : Nat} {was : Int32} {ρ : Rw} (h : HZ ρ) : HZ (S_ask1 g w was l ρ) := by
  unfold S_ask1
  split
  · split
    · exact S_reg_hz h
    · exact S_gate_hz h
  · exact h
theorem S_ask_hz {g : Mem} {w : Nat} {was : Int32} : ∀ (r l : Nat) {ρ : Rw}, HZ ρ → HZ (S_ask g w was r l ρ)
  | 0, _, _, h => h
  | r + 1, l, _, h => S_ask_hz r (l + 1) (S_ask1_hz h)
theorem S_chg0_hz {w : Nat} {v : Int32} {ρ : Rw} (h : HZ ρ) : HZ (S_chg0 w v ρ) := upd_hz (upd_hz (upd_hz (upd_hz h (by omega)) (by omega)) (by omega)) (by omega)
theorem S_change_hz {g : Mem} {n w : Nat} {v : Int32} {ρ : Rw} (h : HZ ρ) : HZ (S_change g n w v ρ) := S_ask_hz _ _ (S_chg0_hz h)
theorem WFl.notIn {g : Mem} {l w : Nat} (h : WFl g l) (hw : w < 24) (hu : S_uses g l w) (hk : g 48 l < 0) : g 48 l = -2 := by
  rcases h.2 with h | h | ⟨k, hk8, e, -⟩
  · exfalso
    have q : ¬ ((-1 : Int32) = nI w) := fun e => nI_m1 (show w < 2 ^ 31 by omega) e.symm
    rcases hu with hu | hu | hu
    · exact q (h.2.1.symm.trans hu)
    · exact q (h.2.2.1.symm.trans hu)
    · exact q (h.2.2.2.1.symm.trans hu)
  · exact h.1
  · rw [e] at hk; exact absurd hk (nI_pos (by omega))
theorem WFl.gate {g : Mem} {l : Nat} (h : WFl g l) (hk : ¬ g 48 l < 0) : ∃ k : Nat, k < 8 ∧ g 48 l = nI k := by
  rcases h.2 with h | h | ⟨k, hk8, e, -⟩
  · exact absurd (show g 48 l < 0 by rw [h.1]; decide) hk
  · exact absurd (show g 48 l < 0 by rw [h.1]; decide) hk
  · exact ⟨k, hk8, e⟩
section ML
variable {m g : Mem} {n : Nat} {ρ : Rw}
theorem MC.lines (hc : MC m g n) {ρ : Rw} : (va_up m 60 ρ) 47 1 = nI n := by rw [up_ne (by decide)]; exact hc.2.1
theorem s_M_uses {l w : Nat} {K : Int32 → Mem → Prop} (hc : MC m g n) (hl : l < 30) (h1 : S_uses g l w → K 1 (va_up m 60 ρ)) (h0 : ¬ S_uses g l w → K 0 (va_up m 60 ρ)) : w_M_uses (nI l) (nI w) (va_up m 60 ρ) K := by
  have hin : vp_in (nI l) 30 := vp_in_nI hl (by decide)
  obtain ⟨hn, e1, h48, h49, h50, h51, h52, h53, h54, h55⟩ := hc
  unfold w_M_uses
  unfold S_uses at h1 h0
  simp (disch := omega) only [up_ne, h50, h51, h52, nI_clamp]
  refine ⟨hin, fun e => h1 (Or.inl e), fun a => ⟨hin, fun e => h1 (Or.inr (Or.inl e)), fun b => ⟨hin, fun c => h0 (fun h => h.elim a (fun h => h.elim b c)), fun e => h1 (Or.inr (Or.inr e))⟩⟩⟩
theorem s_M_isGate {l : Nat} {K : Int32 → Mem → Prop} (hc : MC m g n) (hl : l < 30) (h1 : ¬ g 48 l < 0 → K 1 (va_up m 60 ρ)) (h0 : g 48 l < 0 → K 0 (va_up m 60 ρ)) : w_M_isGate (nI l) (va_up m 60 ρ) K := by
  have hin : vp_in (nI l) 30 := vp_in_nI hl (by decide)
  obtain ⟨hn, e1, h48, h49, h50, h51, h52, h53, h54, h55⟩ := hc
  unfold w_M_isGate
  simp (disch := omega) only [up_ne, h48, nI_clamp]
  exact ⟨fun e => absurd e (nI_m1 (by omega)), fun _ => ⟨hin, h0, h1⟩⟩
theorem s_M_change_57 {w : Nat} {v was : Int32} {E : Int32 → Int32 → Int32 → Int32 → Mem → Prop} {K : Mem → Prop} (hc : MC m g n) (hw : w < 24) (hwf : ∀ l, l < n → WFl g l) : ∀ (r l f : Nat) (ρ : Rw), l + r = n → r < f → HZ ρ →
    (E (nI w) v was (nI n) (va_up m 60 (S_ask g w was r l ρ))) → w_M_change_57 f (nI w) v was (nI l) (va_up m 60 ρ) E K := by
  intro r
  induction r with
  | zero =>
    intro l f ρ hl hf hz hE
    have hln : l = n := by omega
    subst hln
    obtain ⟨f, rfl⟩ : ∃ q, f = q + 1 := ⟨f - 1, by omega⟩
    unfold w_M_change_57
    rw [hc.lines]
    exact ⟨fun _ => hE, fun h => absurd (nI_le (Nat.le_refl _) (by have := hc.1; omega)) h⟩
  | succ r ih =>
    intro l f ρ hl hf hz hE
    have hn30 := hc.1
    obtain ⟨f, rfl⟩ : ∃ q, f = q + 1 := ⟨f - 1, by omega⟩
    unfold w_M_change_57
    rw [hc.lines]
    refine ⟨fun h => absurd h (nI_ge (by omega) (by omega)), fun _ => ?_⟩
    have hw' := hwf l (by omega)
    have hE' : E (nI w) v was (nI n) (va_up m 60 (S_ask g w was r (l + 1) (S_ask1 g w was l ρ))) := hE
    unfold S_ask1 at hE'
    refine s_M_uses hc (by omega) (fun hu => ⟨fun _ => ?_, fun h => absurd h (by decide)⟩) (fun hu => ⟨fun h => absurd rfl h, fun _ => ?_⟩)
    · rw [if_pos (show g 50 l = nI w ∨ g 51 l = nI w ∨ g 52 l = nI w from hu)] at hE'
      refine s_M_isGate hc (by omega) (fun hk => ⟨fun h => absurd h (by decide), fun _ => ?_⟩) (fun hk => ⟨fun _ => ?_, fun h => absurd rfl h⟩)
      · rw [if_neg hk] at hE'
        refine s_M_gate hc (by omega) hw' (hw'.gate hk) ?_
        rw [nA1]
        exact ih (l + 1) f _ (by omega) (by omega) (S_gate_hz hz) hE'
      · rw [if_pos hk] at hE'
        refine s_M_reg hc (by omega) hz (hw'.notIn hw hu hk) hw' hw ?_
        rw [nA1]
        exact ih (l + 1) f _ (by omega) (by omega) (S_reg_hz hz) hE'
    · rw [if_neg (show ¬ (g 50 l = nI w ∨ g 51 l = nI w ∨ g 52 l = nI w) from hu)] at hE'
      rw [nA1]
      exact ih (l + 1) f _ (by omega) (by omega) hz hE'
theorem s_M_change {w : Nat} {v : Int32} {K : Mem → Prop} (hc : MC m g n) (hw : w < 24) (hwf : ∀ l, l < n → WFl g l) (hz : HZ ρ) (hK : K (va_up m 60 (S_change g n w v ρ))) : w_M_change (nI w) v (va_up m 60 ρ) K := by
  have hW : isW (nI w) := ⟨w, hw, rfl⟩
  unfold w_M_change
  refine s_M_val hW ?_
  have hS : S_val ρ (nI w) = ρ (6 + w) := by simp only [S_val, cl_nI (show w < 2 ^ 31 by omega)]
  rw [hS]
  simp (disch := omega) only [n6, n30, n54, nI_clamp, vp_in_nI, true_and, up2, va_up_up, up_same, upd_ne, forall_eq]
  exact s_M_change_57 hc hw hwf n 0 31 _ (by omega) (by have := hc.1; omega) (S_chg0_hz hz) hK
end ML
/-! what comes next -/
def S_better (ρ : Rw) (l b : Nat) : Prop := ρ (132 + l) < ρ (132 + b) ∨ (ρ (132 + l) = ρ (132 + b) ∧ ¬ ρ (162 + b) ≤ ρ (162 + l))
def S_nextL (ρ : Rw) : Nat → Nat → Int32 → Int32
  | 0, _, b => b
  | r + 1, l, b => S_nextL ρ r (l + 1) (if ρ (102 + l) = -1 then b else if b = -1 ∨ ρ (132 + l) < ρ (132 + cl b) ∨ (ρ (132 + l) = ρ (132 + cl b) ∧ ¬ ρ (162 + cl b) ≤ ρ (162 + l)) then nI l else b)
def S_next (n : Nat) (ρ : Rw) : Int32 := S_nextL ρ n 0 (-1)
theorem S_nextL_spec {ρ : Rw} {n : Nat} : ∀ (r l : Nat) (b : Int32), l + r = n → (b = -1 ∨ ∃ q, q < n ∧ b = nI q ∧ ¬ ρ (102 + q) = -1) → (S_nextL ρ r l b = -1 ∨ ∃ q, q < n ∧ S_nextL ρ r l b = nI q ∧ ¬ ρ (102 + q) = -1)
  | 0, _, _, _, h => h
  | r + 1, l, b, hl, h => by
    unfold S_nextL
    refine S_nextL_spec r (l + 1) _ (by omega) ?_
    split
    · exact h
    · rename_i hp
      split
      · exact Or.inr ⟨l, by omega, rfl, hp⟩
      · exact h
theorem S_next_spec {n : Nat} {ρ : Rw} : S_next n ρ = -1 ∨ ∃ q, q < n ∧ S_next n ρ = nI q ∧ ¬ ρ (102 + q) = -1 := S_nextL_spec n 0 _ (by omega) (Or.inl rfl)
section ML2
variable {m g : Mem} {n : Nat} {ρ : Rw}
theorem s_M_nextLine_4 {E : Int32 → Int32 → Mem → Prop} {K : Int32 → Mem → Prop} (hc : MC m g n) : ∀ (r l f : Nat) (b : Int32), l + r = n → r < f → (b = -1 ∨ ∃ q, q < 30 ∧ b = nI q) →
    (E (S_nextL ρ r l b) (nI n) (va_up m 60 ρ)) → w_M_nextLine_4 f b (nI l) (va_up m 60 ρ) E K := by
  intro r
  induction r with
  | zero =>
    intro l f b hl hf hb hE
    have hln : l = n := by omega
    subst hln
    obtain ⟨f, rfl⟩ : ∃ q, f = q + 1 := ⟨f - 1, by omega⟩
    unfold w_M_nextLine_4
    rw [hc.lines]
    exact ⟨fun _ => hE, fun h => absurd (nI_le (Nat.le_refl _) (by have := hc.1; omega)) h⟩
  | succ r ih =>
    intro l f b hl hf hb hE
    have hn30 := hc.1
    obtain ⟨f, rfl⟩ : ∃ q, f = q + 1 := ⟨f - 1, by omega⟩
    unfold w_M_nextLine_4
    rw [hc.lines]
    refine ⟨fun h => absurd h (nI_ge (by omega) (by omega)), fun _ => ?_⟩
    unfold S_nextL at hE
    simp (disch := omega) only [n102, n132, n162, nI_clamp, vp_in_nI, true_and, up_same]
    have go : ∀ b', (if ρ (102 + l) = -1 then b else if b = -1 ∨ ρ (132 + l) < ρ (132 + cl b) ∨ (ρ (132 + l) = ρ (132 + cl b) ∧ ¬ ρ (162 + cl b) ≤ ρ (162 + l)) then nI l else b) = b' → (b' = -1 ∨ ∃ q, q < 30 ∧ b' = nI q) → w_M_nextLine_4 f b' (nI l + 1) (va_up m 60 ρ) E K := by
      intro b' hb' hq
      rw [hb'] at hE
      rw [nA1]
      exact ih (l + 1) f b' (by omega) (by omega) hq hE
    refine ⟨fun hp => ⟨fun hb1 => ?_, fun hb1 => ?_⟩, fun hp => go _ (by rw [if_pos hp]) hb⟩
    · exact go _ (by rw [if_neg hp, if_pos (Or.inl hb1)]) (Or.inr ⟨l, by omega, rfl⟩)
    · obtain ⟨q, hq, rfl⟩ := hb.resolve_left hb1
      have ecl : cl (nI q) = q := cl_nI (by omega)
      rw [ecl] at go
      simp (disch := omega) only [n132, n162, nI_clamp, vp_in_nI, true_and]
      refine ⟨fun h1 => ?_, fun h1 => ⟨fun h2 => ?_, fun h2 => ⟨fun h3 => ?_, fun h3 => ?_⟩⟩⟩
      · exact go _ (by rw [if_neg hp, if_pos (Or.inr (Or.inl h1))]) (Or.inr ⟨l, by omega, rfl⟩)
      · exact go _ (by rw [if_neg hp, if_neg (fun h => h.elim hb1 (fun h => h.elim h1 (fun h => h2 h.1)))]) hb
      · exact go _ (by rw [if_neg hp, if_neg (fun h => h.elim hb1 (fun h => h.elim h1 (fun h => h.2 h3)))]) hb
      · exact go _ (by rw [if_neg hp, if_pos (Or.inr (Or.inr ⟨h2, h3⟩))]) (Or.inr ⟨l, by omega, rfl⟩)
theorem s_M_nextLine {K : Int32 → Mem → Prop} (hc : MC m g n) (hK : K (S_next n ρ) (va_up m 60 ρ)) : w_M_nextLine (va_up m 60 ρ) K := by
  unfold w_M_nextLine
  exact s_M_nextLine_4 hc n 0 31 (-1) (by omega) (by have := hc.1; omega) (Or.inl rfl) hK
end ML2
