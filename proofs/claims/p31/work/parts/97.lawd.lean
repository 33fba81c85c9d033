/-! what the steps' checks stand on -/
section PU
variable {g : Mem} {n now B : Nat} {ρ : Rw}
theorem told0 : S_told n ρ 0 = ρ 0 := rfl
theorem told1 : S_told n ρ 1 = nI (S_cnt ρ n 0) := rfl
theorem told2 : S_told n ρ 2 = S_due n ρ := rfl
theorem told4 : S_told n ρ 4 = ρ 2 := rfl
theorem told5 : S_told n ρ 5 = ρ 3 := rfl
theorem i_back (a b : Int32) : a + (b - a) = b := by rw [Int32.add_comm, Int32.sub_add_cancel]
theorem cnt_zero {ρ : Rw} : ∀ r l, (∀ i, l ≤ i → i < l + r → ρ (102 + i) = -1) → S_cnt ρ r l = 0
  | 0, _, _ => rfl
  | r + 1, l, h => by
    show (if ρ (102 + l) = -1 then 0 else 1) + S_cnt ρ r (l + 1) = 0
    rw [if_pos (h l (Nat.le_refl _) (by omega)), cnt_zero r (l + 1) fun i h1 h2 => h i (by omega) (by omega)]
theorem cnt_pos {ρ : Rw} {q : Nat} (hq : ¬ ρ (102 + q) = -1) : ∀ r l, l ≤ q → q < l + r → 0 < S_cnt ρ r l
  | 0, _, h1, h2 => by omega
  | r + 1, l, h1, h2 => by
    show 0 < (if ρ (102 + l) = -1 then 0 else 1) + S_cnt ρ r (l + 1)
    by_cases e : l = q
    · subst e; rw [if_neg hq]; omega
    · have := cnt_pos hq r (l + 1) (by omega) (by omega); omega
theorem due_ok (hn : n ≤ 30) (hb : now + 40 < 2 ^ 31) (h : SI g n now B ρ) : (S_cnt ρ n 0 = 0 ∧ S_due n ρ = -1) ∨ (0 < S_cnt ρ n 0 ∧ S_cnt ρ n 0 ≤ 30 ∧ ∃ t q : Nat, q < n ∧ ¬ ρ (102 + q) = -1 ∧ now ≤ t ∧ t ≤ now + 20 ∧ ρ (132 + q) = nI t ∧ S_due n ρ = nI t) := by
  rcases next_min hn (fun l hl e => by obtain ⟨t, -, b, e⟩ := h.2.2.1 l hl e; exact ⟨t, by omega, e⟩) with ⟨e, h2⟩ | ⟨q, hq, e, hp, -⟩
  · left
    refine ⟨cnt_zero n 0 fun i _ hi => h2 i (by omega), ?_⟩
    unfold S_due
    rw [e, if_pos rfl]
  · right
    obtain ⟨t, h1, h2, et⟩ := h.2.2.1 q hq hp
    refine ⟨cnt_pos hp n 0 (by omega) (by omega), by have := S_cnt_le ρ n 0; omega, t, q, hq, hp, h1, h2, et, ?_⟩
    unfold S_due
    rw [e, if_neg (nI_m1 (by omega)), cl_nI (by omega)]; exact et
theorem due_no (h : ∀ l, l < n → ρ (102 + l) = -1) : S_due n ρ = -1 := by
  unfold S_due
  rw [next_no h, if_pos rfl]
theorem SI.till {s : Nat} (hn : n ≤ 30) (h : SI g n now B ρ) (hs : now ≤ s) (hp : ∀ l, l < n → ¬ ρ (102 + l) = -1 → ∃ t : Nat, s ≤ t ∧ t ≤ s + 20 ∧ ρ (132 + l) = nI t) : SI g n s B (upd ρ 0 (nI s)) := by
  obtain ⟨a1, a2, a3, a4, a5, a6, a7, a8⟩ := h
  refine ⟨⟨upd_same, (upd_ne (by omega)).trans a1.2⟩, fun q hq e => (upd_ne (by omega)).trans (a2 q hq e), fun q hq e => ?_, fun x hx => ?_, fun q hq => ?_, fun x hx => ?_, a7.cg hs (upd_ne (by omega)) fun i hi => upd_ne (by omega), VR.upd_out a8 (by omega)⟩
  · rw [upd_ne (by omega)] at e
    rw [upd_ne (by omega)]; exact hp q hq e
  · rw [upd_ne (by omega)]; exact (a4 x hx).le hs
  · rw [upd_ne (by omega)]; exact (a5 q hq).le hs
  · rw [upd_ne (by omega)]; exact a6 x hx
theorem pass_ok {U : Nat} (hG : GD g n) (hb : now + 7000 < 2 ^ 31) (hU : now ≤ U ∧ U ≤ now + 100) (h : SI g n now B ρ) (hgs : GCo g n ρ) :
    (∀ w, w < 4 → upd (S_pass g n (nI U) ρ) 0 (nI U) (6 + w) = ρ (6 + w)) ∧ ((SI g n U (B + 300) (upd (S_pass g n (nI U) ρ) 0 (nI U)) ∧ GCo g n (upd (S_pass g n (nI U) ρ) 0 (nI U)) ∧ (S_due n (upd (S_pass g n (nI U) ρ) 0 (nI U)) = -1 ∨ ∃ t : Nat, U < t ∧ t < 2 ^ 31 ∧ S_due n (upd (S_pass g n (nI U) ρ) 0 (nI U)) = nI t)) ∨ (upd (S_pass g n (nI U) ρ) 0 (nI U) 2 = 1 ∧ S_due n (upd (S_pass g n (nI U) ρ) 0 (nI U)) = -1)) := by
  have hn := hG.le30
  have e : S_passL g n (nI U) 300 ρ = S_pass g n (nI U) ρ := rfl
  obtain ⟨p1, p2⟩ := passL_ok hG (U := U) (by omega) 300 now B ρ (by omega) h hgs
  rw [e] at p1 p2
  generalize S_pass g n (nI U) ρ = P at *
  refine ⟨fun w hw => (upd_ne (by omega)).trans (p1 w hw), ?_⟩
  rcases p2 with ⟨t, t1, t2, t3, s1, s2, s3⟩ | ⟨q1, q2⟩
  · left
    have htU : t ≤ U := by omega
    have hp : ∀ l, l < n → ¬ P (102 + l) = -1 → ∃ t2 : Nat, U < t2 ∧ t2 ≤ U + 20 ∧ P (132 + l) = nI t2 := fun l hl hpl => by
      obtain ⟨tl, b1, b2, b3⟩ := s1.2.2.1 l hl hpl
      refine ⟨tl, ?_, by omega, b3⟩
      rcases next_min hn (fun l hl e => by obtain ⟨t, -, b, e⟩ := s1.2.2.1 l hl e; exact ⟨t, by omega, e⟩) with ⟨-, h2⟩ | ⟨q, hq, e, hpq, hmin⟩
      · exact absurd (h2 l hl) hpl
      · obtain ⟨tq, c1, c2, c3⟩ := s1.2.2.1 q hq hpq
        rcases s3 with s3 | s3
        · exact absurd (e.symm.trans s3) (nI_m1 (by omega))
        · rw [e, cl_nI (by omega), c3, nI_ltI (by omega) (by omega)] at s3
          have := hmin l hl hpl
          rw [c3, b3] at this
          have := (nI_leI (a := tq) (b := tl) (by omega) (by omega)).mp this
          omega
    have hs := s1.till hn htU fun l hl hpl => by obtain ⟨t2, c1, c2, c3⟩ := hp l hl hpl; exact ⟨t2, by omega, c2, c3⟩
    refine ⟨hs, s2.cg hG (fun w hw => upd_ne (by omega)) (fun l hl => upd_ne (by omega)), ?_⟩
    rcases due_ok hn (by omega) hs with ⟨-, hd⟩ | ⟨-, -, t2, q, hq, hpq, -, c2, et, hd⟩
    · exact Or.inl hd
    · right
      rw [upd_ne (by omega)] at hpq et
      obtain ⟨t4, d1, d2, d3⟩ := hp q hq hpq
      have : t2 = t4 := (nI_eq (by omega) (by omega)).mp (et.symm.trans d3)
      exact ⟨t2, by omega, by omega, hd⟩
  · right
    exact ⟨(upd_ne (by omega)).trans q1, due_no fun l hl => (upd_ne (by omega)).trans (q2 l hl)⟩
theorem GD.inpw {w : Nat} (hG : GD g n) (hw : w < 4) : S_inp g n w := by
  have h17 := hG.1
  unfold S_inp
  rw [hG.drv (by omega), if_pos (by omega), cl_nI (by omega)]
  exact ⟨nI_m1 (by omega), (hG.2 w (by omega)).2.2.2.2.1.mpr hw⟩
theorem RW.upd0 {v : Int32} (h : RW g n ρ) : RW g n (upd ρ 0 v) := ⟨upd_hz h.1 (by omega), h.2.1.upd_out (by omega), h.2.2.upd_out (by omega)⟩
end PU
section PU2
variable {T : Nat → Nat → Int32} {g m : Mem} {n q now B : Nat} {h : Hp} {ρ : Rw}
theorem LM.rw_ (hM : LM T g n h q ρ m) : RW g n ρ := by
  obtain ⟨-, hI, -, rfl, -⟩ := hM
  exact hI.2.2.2.2.2.1
theorem l_wire0 {w d : Nat} (hM : LM T g n h q ρ m) (hd : 4 ≤ d) (hw : w < 24) : AM mX4_ofWire d [.ref 1, .int (nI w), .int 0] (layC m) 47 2 12 (CE (RD (ρ (6 + w)) m)) := by
  have h := l_ofWire (p := 0) hM hd hw (by decide)
  rw [show 6 + 0 * 24 + w = 6 + w by omega] at h
  exact h
theorem l_wire1 {w d : Nat} (hM : LM T g n h q ρ m) (hd : 4 ≤ d) (hw : w < 24) : AM mX4_ofWire d [.ref 1, .int (nI w), .int 1] (layC m) 47 2 12 (CE (RD (ρ (30 + w)) m)) := by
  have h := l_ofWire (p := 1) hM hd hw (by decide)
  rw [show 6 + 1 * 24 + w = 30 + w by omega] at h
  exact h
theorem l_wire2 {w d : Nat} (hM : LM T g n h q ρ m) (hd : 4 ≤ d) (hw : w < 24) : AM mX4_ofWire d [.ref 1, .int (nI w), .int 2] (layC m) 47 2 12 (CE (RD (ρ (54 + w)) m)) := by
  have h := l_ofWire (p := 2) hM hd hw (by decide)
  rw [show 6 + 2 * 24 + w = 54 + w by omega] at h
  exact h
theorem would_ok {w : Nat} {v : Int32} (hG : GD g n) (hb : now + 7000 < 2 ^ 31) (h : SI g n now B ρ) (hgs : GCo g n ρ) (hw : w < 4) (hv : isV v) : S_settle g n (S_set g n w v ρ) (6 + w) = v := by
  obtain ⟨s1, s2, -, s4⟩ := set_ok hG (by omega) h hgs hw hv
  rw [(settle_ok hG (by omega) s1 s2).1 w hw]; exact s4
end PU2
