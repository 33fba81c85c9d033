/-! further cases; the count of restless ends -/
theorem SM.fn {m m' : Mem} (h : FN m m') : SM m m' := ⟨fun i hi => h.1 i (by omega) (by omega), h.2 1 (by omega), h.2 11 (by omega)⟩
theorem SM.ft {m m' : Mem} (h : FT m m') : SM m m' := ⟨fun i hi => h i (by omega) (by omega), by rw [h 47 (by omega) (by omega)], by rw [h 47 (by omega) (by omega)]⟩
theorem lg_self (x : Int64) : lg_cmp x x = 0 := by
  unfold lg_cmp
  simp
section CASES2
variable {j : Nat} {m : Mem} {o : Nat → Int64}
end CASES2
/-! the second cell of the row counts restless ends -/
theorem S_haz_2 {ρ : Rw} {c w : Int32} : S_haz ρ c w 2 = ρ 2 := S_haz_low (by omega) (by omega)
theorem S_pend_2 {g : Mem} {ρ : Rw} {l : Nat} {v : Int32} : S_pend g ρ l v 2 = ρ 2 := by simp (disch := omega) only [S_pend, upd_ne]
theorem S_ask1_2 {g : Mem} {w l : Nat} {was : Int32} {ρ : Rw} : S_ask1 g w was l ρ 2 = ρ 2 := by
  have h1 : S_reg1 g ρ l w 2 = ρ 2 := by
    unfold S_reg1; split
    · exact S_pend_2
    · rfl
  have h2 : ∀ ρ' : Rw, S_reg2 g ρ' l w was 2 = ρ' 2 := by
    intro ρ'
    unfold S_reg2 S_reg2r S_rise
    repeat' split
    · rw [S_pend_2, upd_ne (by omega), S_haz_2]
    · rw [S_pend_2, upd_ne (by omega)]
    · rfl
  have h3 : ∀ ρ' : Rw, S_reg3 g ρ' l w 2 = ρ' 2 := by
    intro ρ'
    unfold S_reg3; split
    · rw [S_pend_2, S_haz_2]
    · rfl
  have h4 : S_gate g ρ l 2 = ρ 2 := by
    have h5 : S_gate1 ρ l (S_reckon g ρ l) 2 = ρ 2 := by
      unfold S_gate1; split
      · rfl
      · rw [upd_ne (by omega), upd_ne (by omega)]
    unfold S_gate S_gate2; split
    · rw [S_pend_2, h5]
    · exact h5
  unfold S_ask1
  split
  · split
    · unfold S_reg; rw [h3, h2, h1]
    · exact h4
  · rfl
theorem S_ask_2 {g : Mem} {w : Nat} {was : Int32} : ∀ (r l : Nat) (ρ : Rw), S_ask g w was r l ρ 2 = ρ 2
  | 0, _, _ => rfl
  | r + 1, l, ρ => by unfold S_ask; rw [S_ask_2 r (l + 1), S_ask1_2]
theorem S_change_2 {g : Mem} {n w : Nat} {v : Int32} {ρ : Rw} : S_change g n w v ρ 2 = ρ 2 := by
  unfold S_change S_chg0
  rw [S_ask_2]
  simp (disch := omega) only [upd_ne]
theorem S_come_2 {g : Mem} {n l : Nat} {ρ : Rw} : S_come g n l ρ 2 = ρ 2 := by
  unfold S_come
  split
  · simp (disch := omega) only [upd_ne]
  · rw [S_change_2]; simp (disch := omega) only [upd_ne]
theorem S_passL_2 {g : Mem} {n : Nat} {u : Int32} (hn : n ≤ 30) : ∀ (r : Nat) (ρ : Rw), S_passL g n u r ρ 2 = ρ 2 ∨ S_passL g n u r ρ 2 = ρ 2 + 1
  | 0, ρ => by
    unfold S_passL
    split
    · exact Or.inl rfl
    · right; rw [S_give_lo hn (by omega), upd_same]
  | r + 1, ρ => by
    unfold S_passL
    split
    · exact Or.inl rfl
    · have := S_passL_2 (g := g) (u := u) hn r (S_come g n (cl (S_next n ρ)) ρ)
      rw [S_come_2] at this; exact this
theorem S_hzL_2 {g : Mem} {n : Nat} : ∀ (r w : Nat) (ρ : Rw), S_hzL g n r w ρ 2 = ρ 2
  | 0, _, _ => rfl
  | r + 1, w, ρ => by
    unfold S_hzL
    rw [S_hzL_2 r (w + 1)]
    unfold S_hz1
    repeat' split
    all_goals first | rfl | exact S_haz_2
theorem S_settle_2 {g : Mem} {n : Nat} {ρ : Rw} (hn : n ≤ 30) : S_settle g n ρ 2 = ρ 2 ∨ S_settle g n ρ 2 = ρ 2 + 1 := by
  unfold S_settle S_pass
  rw [S_begin_lo (by omega), S_hzL_2]
  exact S_passL_2 hn 300 ρ
theorem S_set_2 {g : Mem} {n w : Nat} {v : Int32} {ρ : Rw} : S_set g n w v ρ 2 = ρ 2 := by
  unfold S_set
  split
  · exact S_begin_lo (by omega)
  · rw [S_change_2]; exact S_begin_lo (by omega)
/-- the run goes on in both -/
theorem Iv.run {j n : Nat} {m m' g : Mem} {ρ' : Rw} (h : Iv j m g n) (hf : FR 23 m m') (h' : RR 23 m' ρ') (hr : RW g n ρ') (h2 : ρ' 2 = (m 60) 2 ∨ ρ' 2 = (m 60) 2 + 1) : Iv (j + 1) (va_up m' 60 ρ') g n := by
  obtain ⟨a1, a2, a3, a4, a5, a6, a7, a8, a9, a10, a11, a12, k, a13, a14⟩ := h
  have s : ∀ i, (i < 23 ∨ 34 < i) → i ≠ 60 → (va_up m' 60 ρ') i = m i := fun i hi h60 => by rw [up_ne h60]; exact hf i (by omega)
  refine ⟨?_, a2.same fun i h1 h2 => s i (by omega) (by omega), a3, a4, fun l hl => ?_, ?_, ?_, ?_, ?_, fun q hq => ?_, ?_, fun w hw => ?_, ?_⟩
  · unfold MC at a1 ⊢
    rw [s 47 (by omega) (by omega), s 48 (by omega) (by omega), s 49 (by omega) (by omega), s 50 (by omega) (by omega), s 51 (by omega) (by omega), s 52 (by omega) (by omega), s 53 (by omega) (by omega), s 54 (by omega) (by omega), s 55 (by omega) (by omega)]
    exact a1
  · rw [s 9 (by omega) (by omega), s 10 (by omega) (by omega)]; exact a5 l hl
  · rw [up_same]; exact hr
  · rw [up_same]
    unfold RR at h' ⊢
    simp (disch := omega) only [up_ne]
    exact h'
  · rw [s 47 (by omega) (by omega), s 1 (by omega) (by omega)]; exact a8
  · unfold CF at a9 ⊢
    rw [s 14 (by omega) (by omega), s 15 (by omega) (by omega), s 16 (by omega) (by omega)]; exact a9
  · rw [s 17 (by omega) (by omega)]; exact a10 q hq
  · rw [s 14 (by omega) (by omega)]; exact a11
  · rw [s 20 (by omega) (by omega)]; exact a12 w hw
  · rw [up_same]
    rcases h2 with e | e
    · exact ⟨k, by omega, e.trans a14⟩
    · exact ⟨k + 1, by omega, by rw [e, a14, nA1]⟩
