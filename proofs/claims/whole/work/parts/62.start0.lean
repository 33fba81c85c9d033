/-! the start of the law keeps the invariant -/
theorem m0_iv : Iv 0 (va_up m0 60 S_clear) m0 0 := by
  have e : ∀ i, i ≠ 60 → (va_up m0 60 S_clear) i = m0 i := fun i hi => up_ne hi
  have hFL : FL m0 0 = [] := rfl
  have hFLw : FLw m0 0 24 = [] := rfl
  refine ⟨?_, ?_, fun l h => absurd h (Nat.not_lt_zero l), fun l h => absurd h (Nat.not_lt_zero l), fun l hl => ?_, ?_, ?_, ?_, ?_, fun q h => absurd h (Nat.not_lt_zero q), ?_, fun w hw => ?_, 0, Nat.le_refl 0, ?_⟩
  · unfold MC
    rw [e 47 (by omega), e 48 (by omega), e 49 (by omega), e 50 (by omega), e 51 (by omega), e 52 (by omega), e 53 (by omega), e 54 (by omega), e 55 (by omega)]
    exact ⟨by omega, rfl, rfl, rfl, rfl, rfl, rfl, rfl, rfl, rfl⟩
  · refine ⟨by omega, by rw [e 2 (by omega)]; rfl, fun l h => absurd h (Nat.not_lt_zero l), fun w hw i hi => ?_, fun w hw => by rw [e 12 (by omega)]; rfl, fun w hw => ?_⟩
    · rw [e 11 (by omega)]
      have : bt (m0 11 w) i = false := bt_zero.mp rfl i hi
      rw [this]
      exact ⟨fun h => (by cases h), fun h => absurd h.1 (Nat.not_lt_zero i)⟩
    · rw [e 13 (by omega)]
      show jfill (fun _ => 0) 24 (-1) w = -1
      exact jfill_in hw
  · rw [e 9 (by omega), e 10 (by omega)]; exact ⟨rfl, rfl⟩
  · rw [up_same]; exact RW.clear
  · rw [up_same]
    refine ⟨fun w hw => ?_, fun w hw => ?_, fun w hw => ?_, fun w hw => ?_, fun l hl => ?_, fun l hl hp => ?_, fun l hl => ?_, ?_, ?_, ?_, ?_, ?_, ?_, fun q hq hlt => ?_⟩
    · rw [S_clear_at, if_pos (by omega), e _ (by omega)]; show jfill (fun _ => 0) 24 2 w = 2; exact jfill_in hw
    · rw [S_clear_at, if_neg (by omega), if_pos (by omega), e _ (by omega)]; show jfill (fun _ => 0) 24 (-1) w = -1; exact jfill_in hw
    · rw [S_clear_at, if_neg (by omega), if_neg (by omega), if_neg (by omega), if_neg (by omega), if_neg (by omega), e _ (by omega)]; show jfill (fun _ => 0) 24 0 w = 0; exact jfill_in hw
    · rw [S_clear_at, if_neg (by omega), if_neg (by omega), if_pos (by omega), e _ (by omega)]; show va_cpy (jfill (fun _ => 0) 24 2) (fun _ => 0) 0 0 24 w = 2; exact (cpy_in hw).trans (jfill_in hw)
    · rw [S_clear_at, if_neg (by omega), if_neg (by omega), if_neg (by omega), if_pos (by omega), e _ (by omega)]; show jfill (fun _ => 0) 30 (-1) l = -1; exact jfill_in hl
    · rw [S_clear_at, if_neg (by omega), if_neg (by omega), if_neg (by omega), if_pos (by omega)] at hp; exact absurd rfl hp
    · rw [S_clear_at, if_neg (by omega), if_neg (by omega), if_neg (by omega), if_neg (by omega), if_pos (by omega), e _ (by omega)]; show jfill (fun _ => 0) 30 (-1) l = -1; exact jfill_in hl
    · rw [e 23 (by omega)]; rfl
    · rw [e 23 (by omega)]; rfl
    · rw [e 23 (by omega)]; rfl
    · rw [e 23 (by omega)]; rfl
    · rw [e 23 (by omega)]; rfl
    · rw [e 23 (by omega)]; rfl
    · rw [show cl (S_clear 5) = 0 by decide] at hlt; omega
  · rw [e 1 (by omega), e 47 (by omega)]; exact ⟨rfl, Or.inl rfl⟩
  · rw [hFL]
    exact ⟨by rw [e 14 (by omega)]; rfl, fun i p hp => by cases hp⟩
  · rw [hFLw, e 14 (by omega)]; rfl
  · rw [e 20 (by omega)]
    rfl
  · rw [up_same]; rfl
theorem inv_0 : w_M_clear_9 m0 (fun m => Inv 0 m) := by
  have h60 : m0 = va_up m0 60 (fun _ => 0) := by
    funext i
    by_cases h : i = 60
    · subst h; rw [up_same]; rfl
    · rw [up_ne h]
  rw [h60]
  exact s_M_clear_9 ⟨m0, 0, m0_iv⟩
