/-! what the words do, as mathematics: numbers, updates, the reference's row -/
abbrev Rw : Type := Nat → Int32
theorem up_same {α : Type} {f : Nat → α} {i : Nat} {a : α} : va_up f i a i = a := by simp [va_up]
theorem up_self {α : Type} {f : Nat → α} {i : Nat} : va_up f i (f i) = f := by
  funext j
  by_cases h : j = i
  · subst h; simp [va_up]
  · simp [va_up, h]
theorem up_ne {α : Type} {f : Nat → α} {i j : Nat} {a : α} (h : j ≠ i) : va_up f i a j = f j := by simp [va_up, h]
theorem upd_same {ρ : Rw} {i : Nat} {v : Int32} : upd ρ i v i = v := by simp [upd]
theorem upd_ne {ρ : Rw} {i j : Nat} {v : Int32} (h : j ≠ i) : upd ρ i v j = ρ j := by simp [upd, h]
theorem n6 (l : Nat) : (6 : Int32) + nI l = nI (6 + l) := nI_add 6 l
theorem n23 (l : Nat) : (23 : Int32) + nI l = nI (23 + l) := nI_add 23 l
theorem n30 (l : Nat) : (30 : Int32) + nI l = nI (30 + l) := nI_add 30 l
theorem n54 (l : Nat) : (54 : Int32) + nI l = nI (54 + l) := nI_add 54 l
theorem n78 (l : Nat) : (78 : Int32) + nI l = nI (78 + l) := nI_add 78 l
theorem n102 (l : Nat) : (102 : Int32) + nI l = nI (102 + l) := nI_add 102 l
theorem n132 (l : Nat) : (132 : Int32) + nI l = nI (132 + l) := nI_add 132 l
theorem n162 (l : Nat) : (162 : Int32) + nI l = nI (162 + l) := nI_add 162 l
theorem n192 (l : Nat) : (192 : Int32) + nI l = nI (192 + l) := nI_add 192 l
theorem n222 (l : Nat) : (222 : Int32) + nI l = nI (222 + l) := nI_add 222 l
theorem nI_mul (a b : Nat) : nI a * nI b = nI (a * b) := (Int32.ofNat_mul a b).symm
theorem n3m (l : Nat) : (3 : Int32) * nI l = nI (3 * l) := nI_mul 3 l
theorem n2m (l : Nat) : (2 : Int32) * nI l = nI (2 * l) := nI_mul 2 l
theorem nA1 (l : Nat) : nI l + (1 : Int32) = nI (l + 1) := nI_add l 1
theorem nA2 (l : Nat) : nI l + (2 : Int32) = nI (l + 2) := nI_add l 2
theorem nI_m1 {l : Nat} (h : l < 2 ^ 31) : ¬ (nI l = (-1 : Int32)) := by
  intro e
  have := congrArg Int32.toInt e
  rw [nI_toInt h, show (-1 : Int32).toInt = -1 by decide] at this
  omega
theorem nI_le24 {l : Nat} (h : l < 2 ^ 31) : ((24 : Int32) ≤ nI l) ↔ 24 ≤ l := nI_leI (a := 24) (by decide) h
theorem nI_le30 {l : Nat} (h : l < 2 ^ 31) : ((30 : Int32) ≤ nI l) ↔ 30 ≤ l := nI_leI (a := 30) (by decide) h
/-- a wire's number -/
def isW (x : Int32) : Prop := ∃ w : Nat, w < 24 ∧ x = nI w
/-- a wire's number, or none -/
def isW0 (x : Int32) : Prop := x = -1 ∨ isW x
/-- one of the three values -/
def isV (x : Int32) : Prop := x = 0 ∨ x = 1 ∨ x = 2
def cl (x : Int32) : Nat := x.toNatClampNeg
/-! the run, on the reference's row ρ; g: the reference's circuit (kind 48, drives 49, pins 50 to 52, delay 53, setup 54, hold 55), n lines -/
def S_pend (g : Mem) (ρ : Rw) (l : Nat) (v : Int32) : Rw := upd (upd (upd (upd ρ (102 + l) v) (132 + l) (ρ 0 + g 53 l)) 4 (ρ 4 + 1)) (162 + l) (ρ 4)
def S_haz (ρ : Rw) (c w : Int32) : Rw := if ρ 5 = 40 then ρ else upd (upd (upd (upd ρ 5 (ρ 5 + 1)) (222 + 3 * cl (ρ 5)) c) (222 + 3 * cl (ρ 5) + 1) w) (222 + 3 * cl (ρ 5) + 2) (ρ 0)
def S_not (a : Int32) : Int32 := if a = 2 then 2 else 1 - a
def S_and (a b : Int32) : Int32 := if a = 0 ∨ b = 0 then 0 else if a = 1 ∧ b = 1 then 1 else 2
def S_work (k a b c : Int32) : Int32 :=
  if k = 0 then S_not a else if k = 1 then a else if k = 2 then S_and a b else if k = 3 then S_not (S_and (S_not a) (S_not b)) else
  if k = 4 then (if a = 2 ∨ b = 2 then 2 else if a = b then 0 else 1) else if k = 5 then S_not (S_and a b) else if k = 6 then S_and (S_not a) (S_not b) else
  if a = 1 then b else if a = 0 ∨ b = c then c else 2
def S_val (ρ : Rw) (x : Int32) : Int32 := ρ (6 + cl x)
def S_reckon (g : Mem) (ρ : Rw) (l : Nat) : Int32 := S_work (g 48 l) (S_val ρ (g 50 l)) (if g 51 l = -1 then 0 else S_val ρ (g 51 l)) (S_val ρ (g 52 l))
def S_gate1 (ρ : Rw) (l : Nat) (v : Int32) : Rw := if ρ (102 + l) = -1 ∨ ρ (102 + l) = v then ρ else upd (upd ρ (102 + l) (-1)) 1 (ρ 1 + 1)
def S_gate2 (g : Mem) (ρ1 : Rw) (l : Nat) (v : Int32) : Rw := if ρ1 (102 + l) = -1 ∧ ¬ v = S_val ρ1 (g 49 l) then S_pend g ρ1 l v else ρ1
def S_gate (g : Mem) (ρ : Rw) (l : Nat) : Rw := S_gate2 g (S_gate1 ρ l (S_reckon g ρ l)) l (S_reckon g ρ l)
def S_rec (ρ : Rw) (t win : Int32) : Prop := ¬ t = -1 ∧ ¬ t ≤ ρ 0 - win
/-- the memory holds the reference's circuit g of n lines -/
def MC (m g : Mem) (n : Nat) : Prop := n ≤ 30 ∧ m 47 1 = nI n ∧ m 48 = g 48 ∧ m 49 = g 49 ∧ m 50 = g 50 ∧ m 51 = g 51 ∧ m 52 = g 52 ∧ m 53 = g 53 ∧ m 54 = g 54 ∧ m 55 = g 55
/-- what a line may be -/
def WFl (g : Mem) (l : Nat) : Prop := isW (g 49 l) ∧ ((g 48 l = -1 ∧ g 50 l = -1 ∧ g 51 l = -1 ∧ g 52 l = -1 ∧ g 53 l = 0) ∨ (g 48 l = -2 ∧ isW (g 50 l) ∧ isW (g 51 l) ∧ isW0 (g 52 l)) ∨
  (∃ k : Nat, k < 8 ∧ g 48 l = nI k ∧ isW (g 50 l) ∧ (if 2 ≤ k then isW (g 51 l) else g 51 l = -1) ∧ (if k = 7 then isW (g 52 l) else g 52 l = -1)))
/-- the hazards' count is within its bounds -/
def HZ (ρ : Rw) : Prop := ∃ h : Nat, h ≤ 40 ∧ ρ 5 = nI h
theorem isW.vp {x : Int32} (h : isW x) : vp_in x 24 := by
  obtain ⟨w, hw, rfl⟩ := h
  exact vp_in_nI hw (by decide)
theorem isW.cl {x : Int32} (h : isW x) : x = nI (cl x) ∧ cl x < 24 := by
  obtain ⟨w, hw, rfl⟩ := h
  have : Jvm.Pilot.CFoundryNineLaw_law_r7852_d3ffff.cl (nI w) = w := nI_clamp (by omega)
  rw [this]; exact ⟨rfl, hw⟩
theorem cl_nI {a : Nat} (h : a < 2 ^ 31) : cl (nI a) = a := nI_clamp h
section MR
variable {m g : Mem} {n : Nat} {ρ : Rw}
theorem s_M_pend {l : Nat} {v : Int32} {K : Mem → Prop} (hc : MC m g n) (hl : l < 30) (hK : K (va_up m 60 (S_pend g ρ l v))) : w_M_pend (nI l) v (va_up m 60 ρ) K := by
  obtain ⟨hn, h1, h48, h49, h50, h51, h52, h53, h54, h55⟩ := hc
  simp (disch := omega) only [w_M_pend, n102, n132, n162, nI_clamp, vp_in_nI, up2, va_up_up, up_same, up_ne, upd_ne, upd_same, forall_eq, true_and, h53]
  exact hK
theorem s_M_val {x : Int32} {K : Int32 → Mem → Prop} (hx : isW x) (hK : K (S_val ρ x) (va_up m 60 ρ)) : w_M_valueOf x (va_up m 60 ρ) K := by
  obtain ⟨w, hw, rfl⟩ := hx
  simp only [S_val, cl_nI (show w < 2 ^ 31 by omega)] at hK
  simp (disch := omega) only [w_M_valueOf, n6, nI_clamp, vp_in_nI, up_same, true_and]
  exact hK
theorem s_M_haz {c w : Int32} {K : Mem → Prop} (hz : HZ ρ) (hK : K (va_up m 60 (S_haz ρ c w))) : w_M_noteHazard c w (va_up m 60 ρ) K := by
  obtain ⟨h, h40, e⟩ := hz
  by_cases h5 : ρ 5 = 40
  · simp only [S_haz, if_pos h5] at hK
    simp only [w_M_noteHazard, up_same, h5, not_true, false_implies, true_implies, true_and]
    exact hK
  · have hlt : h < 40 := by
      rcases Nat.lt_or_ge h 40 with h' | h'
      · exact h'
      · exact absurd (show ρ 5 = 40 by rw [e, show h = 40 by omega]; rfl) h5
    simp only [S_haz, if_neg h5] at hK
    rw [e, cl_nI (by omega), nA1] at hK
    simp (disch := omega) only [w_M_noteHazard, up2, va_up_up, up_same, h5, not_false_iff, false_implies, true_implies, and_true, forall_eq]
    rw [e]
    simp (disch := omega) only [n222, n3m, nA1, nA2, nI_clamp, vp_in_nI, upd_ne, true_and, up2, va_up_up, up_same]
    exact hK
theorem s_M_not {a : Int32} {K : Int32 → Mem → Prop} (hK : K (S_not a) m) : w_M_not a m K := by
  unfold S_not at hK
  unfold w_M_not
  by_cases h : a = 2
  · simp only [h, if_true] at hK
    simp only [h, not_true, false_implies, true_implies, true_and]; exact hK
  · simp only [if_neg h] at hK
    simp only [h, not_false_iff, false_implies, true_implies, and_true]; exact hK
theorem s_M_and {a b : Int32} {K : Int32 → Mem → Prop} (hK : K (S_and a b) m) : w_M_and a b m K := by
  unfold S_and at hK
  unfold w_M_and
  by_cases h : a = 0 <;> by_cases h1 : b = 0 <;> by_cases h2 : a = 1 <;> by_cases h3 : b = 1 <;> simp_all
end MR
section MR2
variable {m g : Mem} {n : Nat} {ρ : Rw}
theorem nI_lit {k : Nat} (h : k < 8) {x : Int32} (e : x = nI k) (j : Nat) (hj : j < 8) : (x = nI j) ↔ k = j := by
  subst e; exact nI_eq (by omega) (by omega)
theorem s_M_reckon {l : Nat} {K : Int32 → Mem → Prop} (hc : MC m g n) (hl : l < 30) (hw : WFl g l) (hg : ∃ k : Nat, k < 8 ∧ g 48 l = nI k) (hK : K (S_reckon g ρ l) (va_up m 60 ρ)) : w_M_reckon (nI l) (va_up m 60 ρ) K := by
  obtain ⟨hn, h1, h48, h49, h50, h51, h52, h53, h54, h55⟩ := hc
  obtain ⟨-, hw⟩ := hw
  obtain ⟨k0, hk0, ek0⟩ := hg
  have hk : ∃ k : Nat, k < 8 ∧ g 48 l = nI k ∧ isW (g 50 l) ∧ (if 2 ≤ k then isW (g 51 l) else g 51 l = -1) ∧ (if k = 7 then isW (g 52 l) else g 52 l = -1) := by
    rcases hw with hw | hw | hw
    · exact absurd (ek0.symm.trans hw.1) (nI_m1 (by omega))
    · exfalso
      have := congrArg Int32.toInt (ek0.symm.trans hw.1)
      rw [nI_toInt (by omega), show (-2 : Int32).toInt = -2 by decide] at this
      omega
    · exact hw
  obtain ⟨k, hk, ek, ha, hb, hcc⟩ := hk
  have hin : vp_in (nI l) 30 := vp_in_nI hl (by decide)
  unfold w_M_reckon
  refine ⟨hin, ?_⟩
  simp (disch := omega) only [up_ne, h50, nI_clamp]
  refine s_M_val ha ?_
  refine ⟨hin, ?_⟩
  simp (disch := omega) only [up_ne, h51, nI_clamp]
  intro J hJ
  -- the join's own part
  have key : ∀ v : Int32, S_reckon g ρ l = S_work (g 48 l) (S_val ρ (g 50 l)) v (S_val ρ (g 52 l)) → J v (va_up m 60 ρ) := by
    intro v hv
    refine hJ _ _ ⟨hin, ?_⟩
    rw [hv] at hK
    simp (disch := omega) only [up_ne, h48, h52, nI_clamp]
    rw [ek] at hK ⊢
    have e0 : (0 : Int32) = nI 0 := rfl
    have e1 : (1 : Int32) = nI 1 := rfl
    have e2 : (2 : Int32) = nI 2 := rfl
    have e3 : (3 : Int32) = nI 3 := rfl
    have e4 : (4 : Int32) = nI 4 := rfl
    have e5 : (5 : Int32) = nI 5 := rfl
    have e6 : (6 : Int32) = nI 6 := rfl
    have q0 : nI k = 0 ↔ k = 0 := nI_eq (b := 0) (by omega) (by omega)
    have q1 : nI k = 1 ↔ k = 1 := nI_eq (b := 1) (by omega) (by omega)
    have q2 : nI k = 2 ↔ k = 2 := nI_eq (b := 2) (by omega) (by omega)
    have q3 : nI k = 3 ↔ k = 3 := nI_eq (b := 3) (by omega) (by omega)
    have q4 : nI k = 4 ↔ k = 4 := nI_eq (b := 4) (by omega) (by omega)
    have q5 : nI k = 5 ↔ k = 5 := nI_eq (b := 5) (by omega) (by omega)
    have q6 : nI k = 6 ↔ k = 6 := nI_eq (b := 6) (by omega) (by omega)
    simp only [S_work, q0, q1, q2, q3, q4, q5, q6] at hK ⊢
    refine ⟨fun h => ?_, fun h => ?_, fun h => ?_, fun h => ?_, fun h => ?_, fun h => ?_, fun h => ?_, fun h0 h1 h2 h3 h4 h5 h6 => ?_⟩
    · subst h; exact s_M_not hK
    · subst h; exact hK
    · subst h; exact s_M_and hK
    · subst h; exact s_M_not (s_M_not (s_M_and (s_M_not hK)))
    · subst h
      simp only [show ¬ (4 = 0) by decide, show ¬ (4 = 1) by decide, show ¬ (4 = 2) by decide, show ¬ (4 = 3) by decide, if_false, if_true] at hK
      by_cases a2 : S_val ρ (g 50 l) = 2 <;> by_cases b2 : v = 2 <;> by_cases ab : S_val ρ (g 50 l) = v <;> simp_all
    · subst h; exact s_M_and (s_M_not hK)
    · subst h; exact s_M_not (s_M_not (s_M_and hK))
    · have h7 : k = 7 := by omega
      subst h7
      simp only [if_true] at hcc
      simp only [show ¬ (7 = 0) by decide, show ¬ (7 = 1) by decide, show ¬ (7 = 2) by decide, show ¬ (7 = 3) by decide, show ¬ (7 = 4) by decide, show ¬ (7 = 5) by decide, show ¬ (7 = 6) by decide, if_false] at hK
      refine ⟨fun a1 => ?_, fun a1 => ?_⟩
      · simp only [a1, if_false] at hK
        intro J2 hJ2
        have key2 : K (S_val ρ (g 52 l)) (va_up m 60 ρ) → J2 (va_up m 60 ρ) := fun q => hJ2 _ ⟨hin, by simp (disch := omega) only [up_ne, h52, nI_clamp]; exact s_M_val hcc q⟩
        refine ⟨fun a0 => ?_, fun a0 => ⟨hin, s_M_val hcc ⟨fun ne => ?_, fun eq => ?_⟩⟩⟩
        · simp only [a0, true_or, if_true] at hK
          exact key2 hK
        · simp only [a0, ne, or_self, if_false] at hK
          exact hK
        · simp only [eq, or_true, if_true] at hK
          exact key2 hK
      · simp only [a1, if_true] at hK
        exact hK
  by_cases hb1 : g 51 l = -1
  · refine ⟨fun q => absurd hb1 q, fun _ => key _ ?_⟩
    simp only [S_reckon, hb1, if_true]
  · refine ⟨fun _ => ⟨hin, s_M_val ?_ (key _ ?_)⟩, fun q => absurd q hb1⟩
    · by_cases h2 : 2 ≤ k
      · rw [if_pos h2] at hb; exact hb
      · rw [if_neg h2] at hb; exact absurd hb hb1
    · simp only [S_reckon, if_neg hb1]
end MR2
def S_rise (g : Mem) (ρ : Rw) (l : Nat) (ρ1 : Rw) (d : Int32) : Rw := S_pend g (upd ρ1 (192 + l) (ρ1 0)) l d
section MR3
variable {m g : Mem} {n : Nat} {ρ : Rw}
theorem s_M_gate {l : Nat} {K : Mem → Prop} (hc : MC m g n) (hl : l < 30) (hw : WFl g l) (hg : ∃ k : Nat, k < 8 ∧ g 48 l = nI k) (hK : K (va_up m 60 (S_gate g ρ l))) : w_M_askGate (nI l) (va_up m 60 ρ) K := by
  have hin : vp_in (nI l) 30 := vp_in_nI hl (by decide)
  have hv : isW (g 49 l) := hw.1
  unfold w_M_askGate
  refine s_M_reckon hc hl hw hg ?_
  have hc' := hc
  obtain ⟨hn, h1, h48, h49, h50, h51, h52, h53, h54, h55⟩ := hc
  simp (disch := omega) only [n102, nI_clamp, vp_in_nI, true_and, up_same, up2, va_up_up, forall_eq, upd_ne]
  unfold S_gate S_gate1 at hK
  intro J hJ
  have key : ∀ ρ1 : Rw, (K (va_up m 60 (S_gate2 g ρ1 l (S_reckon g ρ l)))) → J (va_up m 60 ρ1) := by
    intro ρ1 hq
    refine hJ _ ?_
    unfold S_gate2 at hq
    simp (disch := omega) only [up_same, up_ne, h49]
    refine ⟨fun ne => ?_, fun eq => s_M_val hv ⟨fun e2 => ?_, fun n2 => s_M_pend hc' hl ?_⟩⟩
    · rw [if_neg (fun h => ne h.1)] at hq; exact hq
    · rw [if_neg (fun h => h.2 e2)] at hq; exact hq
    · rw [if_pos ⟨eq, n2⟩] at hq; exact hq
  refine ⟨fun e1 => key _ ?_, fun n1 => ⟨fun e2 => key _ ?_, fun n2 => key _ ?_⟩⟩
  · rw [if_pos (Or.inl e1)] at hK; exact hK
  · rw [if_pos (Or.inr e2)] at hK; exact hK
  · rw [if_neg (fun h => h.elim n1 n2)] at hK; exact hK
end MR3
theorem S_pend_hz {g : Mem} {ρ : Rw} {l : Nat} {v : Int32} (h : HZ ρ) : HZ (S_pend g ρ l v) := by
  obtain ⟨k, h1, h2⟩ := h
  refine ⟨k, h1, ?_⟩
  simp (disch := omega) only [S_pend, upd_ne]; exact h2
theorem S_haz_hz {ρ : Rw} {c w : Int32} (h : HZ ρ) : HZ (S_haz ρ c w) := by
  obtain ⟨k, h1, h2⟩ := h
  unfold S_haz
  by_cases h5 : ρ 5 = 40
  · rw [if_pos h5]; exact ⟨k, h1, h2⟩
  · rw [if_neg h5]
    have hk : k < 40 := by
      rcases Nat.lt_or_ge k 40 with h' | h'
      · exact h'
      · exact absurd (show ρ 5 = 40 by rw [h2, show k = 40 by omega]; rfl) h5
    refine ⟨k + 1, hk, ?_⟩
    simp (disch := omega) only [upd_ne, upd_same]
    rw [h2, nA1]
theorem upd_hz {ρ : Rw} {i : Nat} {v : Int32} (h : HZ ρ) (hi : i ≠ 5) : HZ (upd ρ i v) := by
  obtain ⟨k, h1, h2⟩ := h
  exact ⟨k, h1, by rw [upd_ne (by omega)]; exact h2⟩
/-- a register asked when wire w, before it was, has changed -/
def S_reg1 (g : Mem) (ρ : Rw) (l w : Nat) : Rw := if g 52 l = nI w ∧ ρ (6 + w) = 1 then S_pend g ρ l 0 else ρ
def S_recB (ρ : Rw) (t win : Int32) : Bool := !(t == -1) && decide (¬ t ≤ ρ 0 - win)
def S_reg2r (g : Mem) (ρ : Rw) (l : Nat) : Rw :=
  if ¬ ρ (30 + cl (g 50 l)) = -1 ∧ ¬ ρ (30 + cl (g 50 l)) ≤ ρ 0 - g 54 l then S_rise g ρ l (S_haz ρ 3 (g 49 l)) 2 else S_rise g ρ l ρ (S_val ρ (g 50 l))
def S_reg2 (g : Mem) (ρ : Rw) (l w : Nat) (was : Int32) : Rw := if g 51 l = nI w ∧ was = 0 ∧ ρ (6 + w) = 1 ∧ (g 52 l = -1 ∨ S_val ρ (g 52 l) = 0) then S_reg2r g ρ l else ρ
def S_reg3 (g : Mem) (ρ : Rw) (l w : Nat) : Rw := if g 50 l = nI w ∧ ¬ ρ (192 + l) = -1 ∧ ¬ ρ (192 + l) ≤ ρ 0 - g 55 l then S_pend g (S_haz ρ 4 (g 49 l)) l 2 else ρ
def S_reg (g : Mem) (ρ : Rw) (l w : Nat) (was : Int32) : Rw := S_reg3 g (S_reg2 g (S_reg1 g ρ l w) l w was) l w
theorem S_reg1_hz {g : Mem} {ρ : Rw} {l w : Nat} (h : HZ ρ) : HZ (S_reg1 g ρ l w) := by
  unfold S_reg1; split
  · exact S_pend_hz h
  · exact h
theorem S_reg2r_hz {g : Mem} {ρ : Rw} {l : Nat} (h : HZ ρ) : HZ (S_reg2r g ρ l) := by
  unfold S_reg2r S_rise; split
  · exact S_pend_hz (upd_hz (S_haz_hz h) (by omega))
  · exact S_pend_hz (upd_hz h (by omega))
theorem S_reg2_hz {g : Mem} {ρ : Rw} {l w : Nat} {was : Int32} (h : HZ ρ) : HZ (S_reg2 g ρ l w was) := by
  unfold S_reg2; split
  · exact S_reg2r_hz h
  · exact h
theorem S_reg3_hz {g : Mem} {ρ : Rw} {l w : Nat} (h : HZ ρ) : HZ (S_reg3 g ρ l w) := by
  unfold S_reg3; split
  · exact S_pend_hz (S_haz_hz h)
  · exact h
theorem S_reg_hz {g : Mem} {ρ : Rw} {l w : Nat} {was : Int32} (h : HZ ρ) : HZ (S_reg g ρ l w was) := S_reg3_hz (S_reg2_hz (S_reg1_hz h))
theorem S_gate_hz {g : Mem} {ρ : Rw} {l : Nat} (h : HZ ρ) : HZ (S_gate g ρ l) := by
  have h1 : HZ (S_gate1 ρ l (S_reckon g ρ l)) := by
    unfold S_gate1
    split
    · exact h
    · exact upd_hz (upd_hz h (by omega)) (by omega)
  unfold S_gate S_gate2
  split
  · exact S_pend_hz h1
  · exact h1
def wq_rise (p1 : Int32) (m : Mem) (J : Mem → Prop) : Prop :=
  vp_in p1 30 ∧ w_M_valueOf (m 50 (p1).toNatClampNeg) m (fun r17 m16 => vp_in p1 30 ∧ vp_in ((30 : Int32) + (m16 50 (p1).toNatClampNeg)) 342 ∧ (∀ J20 : Int32 → Mem → Prop, (∀ (v18 : Int32) (m19 : Mem), (vp_in ((192 : Int32) + p1) 342 ∧ ∀ m24 : Mem, m24 = up2 m19 60 (((192 : Int32) + p1).toNatClampNeg) (m19 60 0) → w_M_pend p1 v18 m24 (fun m25 => J m25)) → J20 v18 m19) → (((m16 60 ((30 : Int32) + (m16 50 (p1).toNatClampNeg)).toNatClampNeg) = (-1 : Int32) → J20 r17 m16) ∧ (¬ ((m16 60 ((30 : Int32) + (m16 50 (p1).toNatClampNeg)).toNatClampNeg) = (-1 : Int32)) → vp_in p1 30 ∧ vp_in ((30 : Int32) + (m16 50 (p1).toNatClampNeg)) 342 ∧ vp_in p1 30 ∧ (((m16 60 ((30 : Int32) + (m16 50 (p1).toNatClampNeg)).toNatClampNeg) ≤ ((m16 60 0) - (m16 54 (p1).toNatClampNeg)) → J20 r17 m16) ∧ (¬ ((m16 60 ((30 : Int32) + (m16 50 (p1).toNatClampNeg)).toNatClampNeg) ≤ ((m16 60 0) - (m16 54 (p1).toNatClampNeg))) → vp_in p1 30 ∧ w_M_noteHazard (3 : Int32) (m16 49 (p1).toNatClampNeg) m16 (fun m23 => J20 (2 : Int32) m23)))))))
section MR4
variable {m g : Mem} {n : Nat} {ρ : Rw}
theorem s_M_rise {l : Nat} {J : Mem → Prop} (hc : MC m g n) (hl : l < 30) (hz : HZ ρ) (hv : isW (g 50 l)) (hJ : J (va_up m 60 (S_reg2r g ρ l))) : wq_rise (nI l) (va_up m 60 ρ) J := by
  have hin : vp_in (nI l) 30 := vp_in_nI hl (by decide)
  have hc' := hc
  obtain ⟨hn, h1, h48, h49, h50, h51, h52, h53, h54, h55⟩ := hc
  unfold wq_rise
  refine ⟨hin, ?_⟩
  have e50 : (va_up m 60 ρ) 50 (nI l).toNatClampNeg = g 50 l := by rw [up_ne (by decide), h50, nI_clamp (by omega)]
  rw [e50]
  refine s_M_val hv ?_
  obtain ⟨hv1, hv2⟩ := hv.cl
  unfold S_reg2r at hJ
  generalize ea : cl (g 50 l) = a at hv1 hv2 hJ
  simp (disch := omega) only [up_ne, up_same, h50, h49, h54, hv1, n30, n192, nI_clamp, vp_in_nI, true_and]
  intro J2 hJ2
  have key : ∀ (v : Int32) (ρ1 : Rw), J (va_up m 60 (S_rise g ρ l ρ1 v)) → J2 v (va_up m 60 ρ1) := by
    intro v ρ1 hq
    refine hJ2 _ _ ?_
    simp (disch := omega) only [up2, va_up_up, up_same, forall_eq]
    exact s_M_pend hc' hl hq
  refine ⟨fun e1 => key _ _ ?_, fun n1 => ⟨fun e2 => key _ _ ?_, fun n2 => s_M_haz hz (key _ _ ?_)⟩⟩
  · rw [if_neg (fun h => h.1 e1)] at hJ
    rw [← hv1]; exact hJ
  · rw [if_neg (fun h => h.2 e2)] at hJ
    rw [← hv1]; exact hJ
  · rw [if_pos ⟨n1, n2⟩] at hJ; exact hJ
theorem s_M_reg {l w : Nat} {was : Int32} {K : Mem → Prop} (hc : MC m g n) (hl : l < 30) (hz : HZ ρ) (hg : g 48 l = -2) (hw : WFl g l) (hwi : w < 24) (hK : K (va_up m 60 (S_reg g ρ l w was))) : w_M_askRegister (nI l) (nI w) was (va_up m 60 ρ) K := by
  have hin : vp_in (nI l) 30 := vp_in_nI hl (by decide)
  have hW : isW (nI w) := ⟨w, hwi, rfl⟩
  have hS : ∀ ρ' : Rw, S_val ρ' (nI w) = ρ' (6 + w) := fun ρ' => by simp only [S_val, cl_nI (show w < 2 ^ 31 by omega)]
  have hp : isW (g 50 l) ∧ isW (g 51 l) ∧ isW0 (g 52 l) := by
    rcases hw.2 with h | h | ⟨k, hk, e, -⟩
    · exact absurd (hg.symm.trans h.1) (by decide)
    · exact h.2
    · exfalso
      have := congrArg Int32.toInt (e.symm.trans hg)
      rw [nI_toInt (by omega), show (-2 : Int32).toInt = -2 by decide] at this
      omega
  have hc' := hc
  obtain ⟨hn, h1, h48, h49, h50, h51, h52, h53, h54, h55⟩ := hc
  unfold w_M_askRegister
  refine ⟨hin, ?_⟩
  intro J2 hJ2
  have k2 : J2 (va_up m 60 (S_reg1 g ρ l w)) := by
    refine hJ2 _ ⟨hin, ?_⟩
    have hz1 : HZ (S_reg1 g ρ l w) := S_reg1_hz hz
    unfold S_reg at hK
    generalize S_reg1 g ρ l w = ρ1 at hK hz1 ⊢
    intro J9 hJ9
    have k9 : ∀ ρ2 : Rw, HZ ρ2 → K (va_up m 60 (S_reg3 g ρ2 l w)) → J9 (va_up m 60 ρ2) := by
      intro ρ2 hz2 hq
      refine hJ9 _ ⟨hin, ?_⟩
      unfold S_reg3 at hq
      simp (disch := omega) only [up_ne, up_same, h50, h49, h55, n192, nI_clamp, vp_in_nI, true_and]
      refine ⟨fun ne => ?_, fun eq => ⟨fun e1 => ?_, fun n1 => ⟨fun e2 => ?_, fun n2 => s_M_haz hz2 (s_M_pend hc' hl ?_)⟩⟩⟩
      · rw [if_neg (fun h => ne h.1)] at hq; exact hq
      · rw [if_neg (fun h => h.2.1 e1)] at hq; exact hq
      · rw [if_neg (fun h => h.2.2 e2)] at hq; exact hq
      · rw [if_pos ⟨eq, n1, n2⟩] at hq; exact hq
    have hz2 : HZ (S_reg2 g ρ1 l w was) := S_reg2_hz hz1
    have k9' := k9 _ hz2 hK
    unfold S_reg2 at k9'
    refine ⟨fun ne => ?_, fun eq => ⟨fun ne => ?_, fun eq2 => s_M_val hW ?_⟩⟩
    · simp (disch := omega) only [up_ne, h51, nI_clamp] at ne
      rw [if_neg (fun h => ne h.1)] at k9'; exact k9'
    · rw [if_neg (fun h => ne h.2.1)] at k9'; exact k9'
    · rw [hS]
      simp (disch := omega) only [up_ne, h51, nI_clamp] at eq
      refine ⟨fun ne => ?_, fun eq3 => ⟨hin, fun e52 => ?_, fun n52 => ?_⟩⟩
      · rw [if_neg (fun h => ne h.2.2.1)] at k9'; exact k9'
      · simp (disch := omega) only [up_ne, h52, nI_clamp] at e52
        rw [if_pos ⟨eq, eq2, eq3, Or.inl e52⟩] at k9'
        exact s_M_rise hc' hl hz1 hp.1 k9'
      · simp (disch := omega) only [up_ne, h52, nI_clamp] at n52
        have h52w : isW (g 52 l) := hp.2.2.resolve_left n52
        have e52 : (va_up m 60 ρ1) 52 (nI l).toNatClampNeg = g 52 l := by rw [up_ne (by decide), h52, nI_clamp (by omega)]
        rw [e52]
        refine ⟨hin, s_M_val h52w ⟨fun ne => ?_, fun eq4 => ?_⟩⟩
        · rw [if_neg (fun h => h.2.2.2.elim n52 ne)] at k9'; exact k9'
        · rw [if_pos ⟨eq, eq2, eq3, Or.inr eq4⟩] at k9'
          exact s_M_rise hc' hl hz1 hp.1 k9'
  unfold S_reg1 at k2
  have e52 : (va_up m 60 ρ) 52 (nI l).toNatClampNeg = g 52 l := by rw [up_ne (by decide), h52, nI_clamp (by omega)]
  rw [e52]
  refine ⟨fun ne => ?_, fun eq => s_M_val hW ?_⟩
  · rw [if_neg (fun h => ne h.1)] at k2; exact k2
  · rw [hS]
    refine ⟨fun ne => ?_, fun e1 => s_M_pend hc' hl ?_⟩
    · rw [if_neg (fun h => ne h.2)] at k2; exact k2
    · rw [if_pos ⟨eq, e1⟩] at k2; exact k2
end MR4
