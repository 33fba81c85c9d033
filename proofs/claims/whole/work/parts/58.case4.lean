/-! cases that only ask -/
section CASES5
variable {j : Nat} {m : Mem} {o : Nat → Int64}
theorem p_M_nextLine {g : Mem} {n : Nat} {K : Int32 → Mem → Prop} (hc : MC m g n) (hK : K (S_next n (m 60)) m) : w_M_nextLine m K := by
  have h := s_M_nextLine (m := m) (ρ := m 60) (K := K) hc (by rw [up_self]; exact hK)
  rw [up_self] at h; exact h
theorem p_M_pendingLines {g : Mem} {n : Nat} {K : Int32 → Mem → Prop} (hc : MC m g n) (hK : K (nI (S_cnt (m 60) n 0)) m) : w_M_pendingLines m K := by
  have h := s_M_pendingLines (m := m) (ρ := m 60) (K := K) hc (by rw [up_self]; exact hK)
  rw [up_self] at h; exact h
/-- what is told, by the row -/
def S_told (n : Nat) (ρ : Rw) (p : Int32) : Int32 := if p = 0 then ρ 0 else if p = 1 then nI (S_cnt ρ n 0) else if p = 2 then S_due n ρ else if p = 3 then ρ 1 else if p = 4 then ρ 2 else ρ 3
theorem s_N_told {g : Mem} {n : Nat} {p : Int32} {K : Int32 → Mem → Prop} {X : String → Mem → Prop} (hcc : CC m g n) (h : RR 23 m (m 60)) (hp : p = 0 ∨ p = 1 ∨ p = 2 ∨ p = 3 ∨ p = 4 ∨ p = 5) (hK : K (S_told n (m 60) p) m) : w_N_told p m K X := by
  obtain ⟨a0, a1, a2, a3, a4, a5, a6, a7, a8, a9, a10, a11, a12, a13⟩ := h
  have h' : RR 23 m (m 60) := ⟨a0, a1, a2, a3, a4, a5, a6, a7, a8, a9, a10, a11, a12, a13⟩
  unfold w_N_told
  unfold S_told at hK
  refine ⟨fun e => ?_, fun e => ?_, fun e => ?_, fun e => ?_, fun e => ?_, fun e => ?_, fun n0 n1 n2 n3 n4 n5 => ?_⟩
  · subst e; rw [if_pos rfl] at hK; rw [a8]; exact hK
  · subst e; rw [if_neg (by decide), if_pos rfl] at hK; exact s_R_linesPending hcc h' hK
  · subst e; rw [if_neg (by decide), if_neg (by decide), if_pos rfl] at hK; exact s_R_nextTime hcc h' hK
  · subst e; rw [if_neg (by decide), if_neg (by decide), if_neg (by decide), if_pos rfl] at hK; rw [a10]; exact hK
  · subst e; rw [if_neg (by decide), if_neg (by decide), if_neg (by decide), if_neg (by decide), if_pos rfl] at hK; rw [a11]; exact hK
  · subst e; rw [if_neg (by decide), if_neg (by decide), if_neg (by decide), if_neg (by decide), if_neg (by decide)] at hK; rw [a12]; exact hK
  · rcases hp with e | e | e | e | e | e
    · exact absurd e n0
    · exact absurd e n1
    · exact absurd e n2
    · exact absurd e n3
    · exact absurd e n4
    · exact absurd e n5
theorem s_M_toldNow {g : Mem} {n : Nat} {p : Int32} {K : Int32 → Mem → Prop} (hc : MC m g n) (hK : K (S_told n (m 60) p) m) : w_M_toldNow p m K := by
  have hn := hc.1
  unfold w_M_toldNow
  unfold S_told at hK
  refine ⟨fun e => ?_, fun e => ?_, fun e => ?_, fun e => ?_, fun e => ?_, fun n0 n1 n2 n3 n4 => ?_⟩
  · subst e; rw [if_pos rfl] at hK; exact hK
  · subst e; rw [if_neg (by decide), if_pos rfl] at hK; exact p_M_pendingLines hc hK
  · subst e; rw [if_neg (by decide), if_neg (by decide), if_pos rfl] at hK
    unfold S_due at hK
    refine p_M_nextLine hc ⟨fun ne => p_M_nextLine hc ?_, fun e => ?_⟩
    · rw [if_neg ne] at hK
      obtain ⟨q, hq, eq, -⟩ := (S_next_spec (n := n) (ρ := m 60)).resolve_left ne
      rw [eq, cl_nI (by omega)] at hK
      rw [eq, n132, nI_clamp (by omega)]
      exact ⟨vp_in_nI (by omega) (by decide), hK⟩
    · rw [if_pos e] at hK; exact hK
  · subst e; rw [if_neg (by decide), if_neg (by decide), if_neg (by decide), if_pos rfl] at hK; exact hK
  · subst e; rw [if_neg (by decide), if_neg (by decide), if_neg (by decide), if_neg (by decide), if_pos rfl] at hK; exact hK
  · rw [if_neg n0, if_neg n1, if_neg n2, if_neg n3, if_neg n4] at hK; exact hK
theorem in05 {p : Int32} (h1 : ¬ p < 0) (h2 : ¬ (5 : Int32) < p) : p = 0 ∨ p = 1 ∨ p = 2 ∨ p = 3 ∨ p = 4 ∨ p = 5 := by
  obtain ⟨k, hk, rfl⟩ := nI_of h1
  have hk5 : k ≤ 5 := by
    rcases Nat.lt_or_ge 5 k with h | h
    · exact absurd ((nI_ltI (a := 5) (by decide) hk).mpr h) h2
    · exact h
  have : k = 0 ∨ k = 1 ∨ k = 2 ∨ k = 3 ∨ k = 4 ∨ k = 5 := by omega
  rcases this with rfl | rfl | rfl | rfl | rfl | rfl
  · exact Or.inl rfl
  · exact Or.inr (Or.inl rfl)
  · exact Or.inr (Or.inr (Or.inl rfl))
  · exact Or.inr (Or.inr (Or.inr (Or.inl rfl)))
  · exact Or.inr (Or.inr (Or.inr (Or.inr (Or.inl rfl))))
  · exact Or.inr (Or.inr (Or.inr (Or.inr (Or.inr rfl))))
theorem case_17 {p1 : Int32} (h : Inv j m) : wc_17 p1 o m (fun _ m2 => Inv (j + 1) m2) := by
  obtain ⟨g, n, h⟩ := h
  unfold wc_17 w_L_told w_M_told w_M_thrown
  have h60 : ∀ v : Int32, (up2 m 47 0 v) 60 = m 60 := fun v => by unfold up2; rw [up_ne (by omega)]
  by_cases hp : p1 = 0 ∨ p1 = 1 ∨ p1 = 2 ∨ p1 = 3 ∨ p1 = 4 ∨ p1 = 5
  · refine s_N_told h.2.1 h.2.2.2.2.2.2.1 hp ?_
    intro m1 em
    subst em
    have h1 := h.same (Nat.le_succ j) (SM.thrown (v := 0))
    have hlo : ¬ p1 < 0 ∧ ¬ (5 : Int32) < p1 := by rcases hp with rfl | rfl | rfl | rfl | rfl | rfl <;> decide
    refine s_isIn (fun _ _ => ⟨fun e => absurd e (by decide), fun _ => s_M_toldNow h1.1 ?_⟩) (fun hb => absurd hb (fun hb => hb.elim hlo.1 hlo.2))
    rw [h60]
    exact fin_ok (by simp only [up2, up_same, upd_same]) updL_0 ⟨g, n, h1⟩
  · unfold w_N_told
    refine ⟨fun e => absurd (Or.inl e) hp, fun e => absurd (Or.inr (Or.inl e)) hp, fun e => absurd (Or.inr (Or.inr (Or.inl e))) hp, fun e => absurd (Or.inr (Or.inr (Or.inr (Or.inl e)))) hp, fun e => absurd (Or.inr (Or.inr (Or.inr (Or.inr (Or.inl e))))) hp, fun e => absurd (Or.inr (Or.inr (Or.inr (Or.inr (Or.inr e))))) hp, fun _ _ _ _ _ _ => ⟨fun _ => ?_, fun ne => absurd rfl ne⟩⟩
    intro m1 em
    refine s_isIn (fun a b => absurd (in05 a b) hp) (fun _ => ⟨fun _ => ?_, fun e => absurd rfl e⟩)
    unfold w_M_no
    intro m3 e3
    have s3 : SM m m3 := by rw [e3, em]; exact SM.thrown.trans SM.thrown
    exact fin_no (by rw [e3]; simp only [up2, up_same, upd_same]) (by decide) ⟨g, n, h.same (by omega) s3⟩
end CASES5
