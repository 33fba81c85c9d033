/-! what the words do, as mathematics: numbers, updates, the reference's row -/
abbrev Rw : Type := Nat → Int32
theorem up_same {α : Type} {f : Nat → α} {i : Nat} {a : α} : va_up f i a i = a := by simp [va_up]
theorem up_self {α : Type} {f : Nat → α} {i : Nat} : va_up f i (f i) = f := by
  funext j
  by_cases h : j = i
  · subst h; simp [va_up]
  · simp [va_up, h]
theorem up_ne {α : Type} {f : Nat → α} {i j : Nat} {a : α} (h : j ≠ i) : va_up f i a j = f j := by simp [va_up, h]
theorem upd_same {ρ : Rw} {i : Nat} {v : Int32} : upd ρ i v i = v := by simp [upd]
theorem upd_ne {ρ : Rw} {i j : Nat} {v : Int32} (h : j ≠ i) : upd ρ i v j = ρ j := by simp [upd, h]
theorem n6 (l : Nat) : (6 : Int32) + nI l = nI (6 + l) := nI_add 6 l
theorem n23 (l : Nat) : (23 : Int32) + nI l = nI (23 + l) := nI_add 23 l
theorem n30 (l : Nat) : (30 : Int32) + nI l = nI (30 + l) := nI_add 30 l
theorem n54 (l : Nat) : (54 : Int32) + nI l = nI (54 + l) := nI_add 54 l
theorem n78 (l : Nat) : (78 : Int32) + nI l = nI (78 + l) := nI_add 78 l
theorem n102 (l : Nat) : (102 : Int32) + nI l = nI (102 + l) := nI_add 102 l
theorem n132 (l : Nat) : (132 : Int32) + nI l = nI (132 + l) := nI_add 132 l
theorem n162 (l : Nat) : (162 : Int32) + nI l = nI (162 + l) := nI_add 162 l
theorem n192 (l : Nat) : (192 : Int32) + nI l = nI (192 + l) := nI_add 192 l
theorem n222 (l : Nat) : (222 : Int32) + nI l = nI (222 + l) := nI_add 222 l
theorem nI_mul (a b : Nat) : nI a * nI b = nI (a * b) := (Int32.ofNat_mul a b).symm
theorem n3m (l : Nat) : (3 : Int32) * nI l = nI (3 * l) := nI_mul 3 l
theorem n2m (l : Nat) : (2 : Int32) * nI l = nI (2 * l) := nI_mul 2 l
theorem nA1 (l : Nat) : nI l + (1 : Int32) = nI (l + 1) := nI_add l 1
theorem nA2 (l : Nat) : nI l + (2 : Int32) = nI (l + 2) := nI_add l 2
theorem nI_m1 {l : Nat} (h : l < 2 ^ 31) : ¬ (nI l = (-1 : Int32)) := by
  intro e
  have := congrArg Int32.toInt e
  rw [nI_toInt h, show (-1 : Int32).toInt = -1 by decide] at this
  omega
theorem nI_le24 {l : Nat} (h : l < 2 ^ 31) : ((24 : Int32) ≤ nI l) ↔ 24 ≤ l := nI_leI (a := 24) (by decide) h
theorem nI_le30 {l : Nat} (h : l < 2 ^ 31) : ((30 : Int32) ≤ nI l) ↔ 30 ≤ l := nI_leI (a := 30) (by decide) h
/-- a wire's number -/
def isW (x : Int32) : Prop := ∃ w : Nat, w < 24 ∧ x = nI w
/-- a wire's number, or none -/
def isW0 (x : Int32) : Prop := x = -1 ∨ isW x
/-- one of the three values -/
def isV (x : Int32) : Prop := x = 0 ∨ x = 1 ∨ x = 2
def cl (x : Int32) : Nat := x.toNatClampNeg
/-! the run, on the reference's row ρ; g: the reference's circuit (kind 48, drives 49, pins 50 to 52, delay 53, setup 54, hold 55), n lines -/
def S_pend (g : Mem) (ρ : Rw) (l : Nat) (v : Int32) : Rw := upd (upd (upd (upd ρ (102 + l) v) (132 + l) (ρ 0 + g 53 l)) 4 (ρ 4 + 1)) (162 + l) (ρ 4)
def S_haz (ρ : Rw) (c w : Int32) : Rw := if ρ 5 = 40 then ρ else upd (upd (upd (upd ρ 5 (ρ 5 + 1)) (222 + 3 * cl (ρ 5)) c) (222 + 3 * cl (ρ 5) + 1) w) (222 + 3 * cl (ρ 5) + 2) (ρ 0)
def S_not (a : Int32) : Int32 := if a = 2 then 2 else 1 - a
def S_and (a b : Int32) : Int32 := if a = 0 ∨ b = 0 then 0 else if a = 1 ∧ b = 1 then 1 else 2
def S_work (k a b c : Int32) : Int32 :=
  if k = 0 then S_not a else if k = 1 then a else if k = 2 then S_and a b else if k = 3 then S_not (S_and (S_not a) (S_not b)) else
  if k = 4 then (if a = 2 ∨ b = 2 then 2 else if a = b then 0 else 1) else if k = 5 then S_not (S_and a b) else if k = 6 then S_and (S_not a) (S_not b) else
  if a = 1 then b else if a = 0 ∨ b = c then c else 2
def S_val (ρ : Rw) (x : Int32) : Int32 := ρ (6 + cl x)
def S_reckon (g : Mem) (ρ : Rw) (l : Nat) : Int32 := S_work (g 48 l) (S_val ρ (g 50 l)) (if g 51 l = -1 then 0 else S_val ρ (g 51 l)) (S_val ρ (g 52 l))
def S_gate1 (ρ : Rw) (l : Nat) (v : Int32) : Rw := if ρ (102 + l) = -1 ∨ ρ (102 + l) = v then ρ else upd (upd ρ (102 + l) (-1)) 1 (ρ 1 + 1)
def S_gate2 (g : Mem) (ρ1 : Rw) (l : Nat) (v : Int32) : Rw := if ρ1 (102 + l) = -1 ∧ ¬ v = S_val ρ1 (g 49 l) then S_pend g ρ1 l v else ρ1
def S_gate (g : Mem) (ρ : Rw) (l : Nat) : Rw := S_gate2 g (S_gate1 ρ l (S_reckon g ρ l)) l (S_reckon g ρ l)
def S_rec (ρ : Rw) (t win : Int32) : Prop := ¬ t = -1 ∧ ¬ t ≤ ρ 0 - win
/-- the memory holds the reference's circuit g of n lines -/
def MC (m g : Mem) (n : Nat) : Prop := n ≤ 30 ∧ m 47 1 = nI n ∧ m 48 = g 48 ∧ m 49 = g 49 ∧ m 50 = g 50 ∧ m 51 = g 51 ∧ m 52 = g 52 ∧ m 53 = g 53 ∧ m 54 = g 54 ∧ m 55 = g 55
/-- what a line may be -/
def WFl (g : Mem) (l : Nat) : Prop := isW (g 49 l) ∧ ((g 48 l = -1 ∧ g 50 l = -1 ∧ g 51 l = -1 ∧ g 52 l = -1 ∧ g 53 l = 0) ∨ (g 48 l = -2 ∧ isW (g 50 l) ∧ isW (g 51 l) ∧ isW0 (g 52 l)) ∨
  (∃ k : Nat, k < 8 ∧ g 48 l = nI k ∧ isW (g 50 l) ∧ (if 2 ≤ k then isW (g 51 l) else g 51 l = -1) ∧ (if k = 7 then isW (g 52 l) else g 52 l = -1)))
/-- the hazards' count is within its bounds -/
def HZ (ρ : Rw) : Prop := ∃ h : Nat, h ≤ 40 ∧ ρ 5 = nI h
theorem isW.vp {x : Int32} (h : isW x) : vp_in x 24 := by
  obtain ⟨w, hw, rfl⟩ := h
  exact vp_in_nI hw (by decide)
theorem isW.cl {x : Int32} (h : isW x) : x = nI (cl x) ∧ cl x < 24 := by
  obtain ⟨w, hw, rfl⟩ := h
  have : Jvm.Pilot.CFoundryNineLaw_law_r8510_2e5f8c.cl (nI w) = w := nI_clamp (by omega)
  rw [this]; exact ⟨rfl, hw⟩
theorem cl_nI {a : Nat} (h : a < 2 ^ 31) : cl (nI a) = a := nI_clamp h
section MR
variable {m g : Mem} {n : Nat} {ρ : Rw}
end MR
section MR2
variable {m g : Mem} {n : Nat} {ρ : Rw}
theorem nI_lit {k : Nat} (h : k < 8) {x : Int32} (e : x = nI k) (j : Nat) (hj : j < 8) : (x = nI j) ↔ k = j := by
  subst e; exact nI_eq (by omega) (by omega)
end MR2
def S_rise (g : Mem) (ρ : Rw) (l : Nat) (ρ1 : Rw) (d : Int32) : Rw := S_pend g (upd ρ1 (192 + l) (ρ1 0)) l d
section MR3
variable {m g : Mem} {n : Nat} {ρ : Rw}
end MR3
theorem S_pend_hz {g : Mem} {ρ : Rw} {l : Nat} {v : Int32} (h : HZ ρ) : HZ (S_pend g ρ l v) := by
  obtain ⟨k, h1, h2⟩ := h
  refine ⟨k, h1, ?_⟩
  simp (disch := omega) only [S_pend, upd_ne]; exact h2
theorem S_haz_hz {ρ : Rw} {c w : Int32} (h : HZ ρ) : HZ (S_haz ρ c w) := by
  obtain ⟨k, h1, h2⟩ := h
  unfold S_haz
  by_cases h5 : ρ 5 = 40
  · rw [if_pos h5]; exact ⟨k, h1, h2⟩
  · rw [if_neg h5]
    have hk : k < 40 := by
      rcases Nat.lt_or_ge k 40 with h' | h'
      · exact h'
      · exact absurd (show ρ 5 = 40 by rw [h2, show k = 40 by omega]; rfl) h5
    refine ⟨k + 1, hk, ?_⟩
    simp (disch := omega) only [upd_ne, upd_same]
    rw [h2, nA1]
theorem upd_hz {ρ : Rw} {i : Nat} {v : Int32} (h : HZ ρ) (hi : i ≠ 5) : HZ (upd ρ i v) := by
  obtain ⟨k, h1, h2⟩ := h
  exact ⟨k, h1, by rw [upd_ne (by omega)]; exact h2⟩
/-- a register asked when wire w, before it was, has changed -/
def S_reg1 (g : Mem) (ρ : Rw) (l w : Nat) : Rw := if g 52 l = nI w ∧ ρ (6 + w) = 1 then S_pend g ρ l 0 else ρ
def S_recB (ρ : Rw) (t win : Int32) : Bool := !(t == -1) && decide (¬ t ≤ ρ 0 - win)
def S_reg2r (g : Mem) (ρ : Rw) (l : Nat) : Rw :=
  if ¬ ρ (30 + cl (g 50 l)) = -1 ∧ ¬ ρ (30 + cl (g 50 l)) ≤ ρ 0 - g 54 l then S_rise g ρ l (S_haz ρ 3 (g 49 l)) 2 else S_rise g ρ l ρ (S_val ρ (g 50 l))
def S_reg2 (g : Mem) (ρ : Rw) (l w : Nat) (was : Int32) : Rw := if g 51 l = nI w ∧ was = 0 ∧ ρ (6 + w) = 1 ∧ (g 52 l = -1 ∨ S_val ρ (g 52 l) = 0) then S_reg2r g ρ l else ρ
def S_reg3 (g : Mem) (ρ : Rw) (l w : Nat) : Rw := if g 50 l = nI w ∧ ¬ ρ (192 + l) = -1 ∧ ¬ ρ (192 + l) ≤ ρ 0 - g 55 l then S_pend g (S_haz ρ 4 (g 49 l)) l 2 else ρ
def S_reg (g : Mem) (ρ : Rw) (l w : Nat) (was : Int32) : Rw := S_reg3 g (S_reg2 g (S_reg1 g ρ l w) l w was) l w
theorem S_reg1_hz {g : Mem} {ρ : Rw} {l w : Nat} (h : HZ ρ) : HZ (S_reg1 g ρ l w) := by
  unfold S_reg1; split
  · exact S_pend_hz h
  · exact h
theorem S_reg2r_hz {g : Mem} {ρ : Rw} {l : Nat} (h : HZ ρ) : HZ (S_reg2r g ρ l) := by
  unfold S_reg2r S_rise; split
  · exact S_pend_hz (upd_hz (S_haz_hz h) (by omega))
  · exact S_pend_hz (upd_hz h (by omega))
theorem S_reg2_hz {g : Mem} {ρ : Rw} {l w : Nat} {was : Int32} (h : HZ ρ) : HZ (S_reg2 g ρ l w was) := by
  unfold S_reg2; split
  · exact S_reg2r_hz h
  · exact h
theorem S_reg3_hz {g : Mem} {ρ : Rw} {l w : Nat} (h : HZ ρ) : HZ (S_reg3 g ρ l w) := by
  unfold S_reg3; split
  · exact S_pend_hz (S_haz_hz h)
  · exact h
theorem S_reg_hz {g : Mem} {ρ : Rw} {l w : Nat} {was : Int32} (h : HZ ρ) : HZ (S_reg g ρ l w was) := S_reg3_hz (S_reg2_hz (S_reg1_hz h))
theorem S_gate_hz {g : Mem} {ρ : Rw} {l : Nat} (h : HZ ρ) : HZ (S_gate g ρ l) := by
  have h1 : HZ (S_gate1 ρ l (S_reckon g ρ l)) := by
    unfold S_gate1
    split
    · exact h
    · exact upd_hz (upd_hz h (by omega)) (by omega)
  unfold S_gate S_gate2
  split
  · exact S_pend_hz h1
  · exact h1
section MR4
variable {m g : Mem} {n : Nat} {ρ : Rw}
end MR4
