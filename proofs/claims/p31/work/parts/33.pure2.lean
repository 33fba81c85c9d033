/-! the reference's run, on: changes, what comes next, passing, counting -/
def S_uses (g : Mem) (l w : Nat) : Prop := g 50 l = nI w ∨ g 51 l = nI w ∨ g 52 l = nI w
def S_ask1 (g : Mem) (w : Nat) (was : Int32) (l : Nat) (ρ : Rw) : Rw := if g 50 l = nI w ∨ g 51 l = nI w ∨ g 52 l = nI w then (if g 48 l < 0 then S_reg g ρ l w was else S_gate g ρ l) else ρ
def S_ask (g : Mem) (w : Nat) (was : Int32) : Nat → Nat → Rw → Rw
  | 0, _, ρ => ρ
  | r + 1, l, ρ => S_ask g w was r (l + 1) (S_ask1 g w was l ρ)
def S_chg0 (w : Nat) (v : Int32) (ρ : Rw) : Rw := upd (upd (upd (upd ρ (6 + w) v) (30 + w) (ρ 0)) (54 + w) (ρ (54 + w) + 1)) 3 (ρ 3 + 1)
def S_change (g : Mem) (n w : Nat) (v : Int32) (ρ : Rw) : Rw := S_ask g w (ρ (6 + w)) n 0 (S_chg0 w v ρ)
theorem S_ask1_hz {g : Mem} {w l : Nat} {was : Int32} {ρ : Rw} (h : HZ ρ) : HZ (S_ask1 g w was l ρ) := by
  unfold S_ask1
  split
  · split
    · exact S_reg_hz h
    · exact S_gate_hz h
  · exact h
theorem S_ask_hz {g : Mem} {w : Nat} {was : Int32} : ∀ (r l : Nat) {ρ : Rw}, HZ ρ → HZ (S_ask g w was r l ρ)
  | 0, _, _, h => h
  | r + 1, l, _, h => S_ask_hz r (l + 1) (S_ask1_hz h)
theorem S_chg0_hz {w : Nat} {v : Int32} {ρ : Rw} (h : HZ ρ) : HZ (S_chg0 w v ρ) := upd_hz (upd_hz (upd_hz (upd_hz h (by omega)) (by omega)) (by omega)) (by omega)
theorem S_change_hz {g : Mem} {n w : Nat} {v : Int32} {ρ : Rw} (h : HZ ρ) : HZ (S_change g n w v ρ) := S_ask_hz _ _ (S_chg0_hz h)
theorem WFl.notIn {g : Mem} {l w : Nat} (h : WFl g l) (hw : w < 24) (hu : S_uses g l w) (hk : g 48 l < 0) : g 48 l = -2 := by
  rcases h.2 with h | h | ⟨k, hk8, e, -⟩
  · exfalso
    have q : ¬ ((-1 : Int32) = nI w) := fun e => nI_m1 (show w < 2 ^ 31 by omega) e.symm
    rcases hu with hu | hu | hu
    · exact q (h.2.1.symm.trans hu)
    · exact q (h.2.2.1.symm.trans hu)
    · exact q (h.2.2.2.1.symm.trans hu)
  · exact h.1
  · rw [e] at hk; exact absurd hk (nI_pos (by omega))
theorem WFl.gate {g : Mem} {l : Nat} (h : WFl g l) (hk : ¬ g 48 l < 0) : ∃ k : Nat, k < 8 ∧ g 48 l = nI k := by
  rcases h.2 with h | h | ⟨k, hk8, e, -⟩
  · exact absurd (show g 48 l < 0 by rw [h.1]; decide) hk
  · exact absurd (show g 48 l < 0 by rw [h.1]; decide) hk
  · exact ⟨k, hk8, e⟩
section ML
variable {m g : Mem} {n : Nat} {ρ : Rw}
theorem MC.lines (hc : MC m g n) {ρ : Rw} : (va_up m 60 ρ) 47 1 = nI n := by rw [up_ne (by decide)]; exact hc.2.1
end ML
/-! what comes next -/
def S_better (ρ : Rw) (l b : Nat) : Prop := ρ (132 + l) < ρ (132 + b) ∨ (ρ (132 + l) = ρ (132 + b) ∧ ¬ ρ (162 + b) ≤ ρ (162 + l))
def S_nextL (ρ : Rw) : Nat → Nat → Int32 → Int32
  | 0, _, b => b
  | r + 1, l, b => S_nextL ρ r (l + 1) (if ρ (102 + l) = -1 then b else if b = -1 ∨ ρ (132 + l) < ρ (132 + cl b) ∨ (ρ (132 + l) = ρ (132 + cl b) ∧ ¬ ρ (162 + cl b) ≤ ρ (162 + l)) then nI l else b)
def S_next (n : Nat) (ρ : Rw) : Int32 := S_nextL ρ n 0 (-1)
theorem S_nextL_spec {ρ : Rw} {n : Nat} : ∀ (r l : Nat) (b : Int32), l + r = n → (b = -1 ∨ ∃ q, q < n ∧ b = nI q ∧ ¬ ρ (102 + q) = -1) → (S_nextL ρ r l b = -1 ∨ ∃ q, q < n ∧ S_nextL ρ r l b = nI q ∧ ¬ ρ (102 + q) = -1)
  | 0, _, _, _, h => h
  | r + 1, l, b, hl, h => by
    unfold S_nextL
    refine S_nextL_spec r (l + 1) _ (by omega) ?_
    split
    · exact h
    · rename_i hp
      split
      · exact Or.inr ⟨l, by omega, rfl, hp⟩
      · exact h
theorem S_next_spec {n : Nat} {ρ : Rw} : S_next n ρ = -1 ∨ ∃ q, q < n ∧ S_next n ρ = nI q ∧ ¬ ρ (102 + q) = -1 := S_nextL_spec n 0 _ (by omega) (Or.inl rfl)
section ML2
variable {m g : Mem} {n : Nat} {ρ : Rw}
end ML2
