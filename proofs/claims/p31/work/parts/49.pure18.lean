/-! the reference's arrivals -/
def FT (m m' : Mem) : Prop := ∀ i, i ≠ 58 → i ≠ 59 → m' i = m i
theorem FT.refl (m : Mem) : FT m m := fun _ _ _ => rfl
theorem FT.trans {a b c : Mem} (h1 : FT a b) (h2 : FT b c) : FT a c := fun i hi hj => (h2 i hi hj).trans (h1 i hi hj)
theorem MC.ft {m m' g : Mem} {n : Nat} (h : MC m g n) (hm : FT m m') : MC m' g n := by
  obtain ⟨h0, h1, h2, h3, h4, h5, h6, h7, h8, h9⟩ := h
  unfold MC
  rw [hm 47 (by omega) (by omega), hm 48 (by omega) (by omega), hm 49 (by omega) (by omega), hm 50 (by omega) (by omega), hm 51 (by omega) (by omega), hm 52 (by omega) (by omega), hm 53 (by omega) (by omega), hm 54 (by omega) (by omega), hm 55 (by omega) (by omega)]
  exact ⟨h0, h1, h2, h3, h4, h5, h6, h7, h8, h9⟩
def TI (m g : Mem) (n : Nat) : Prop := ∀ w, w < 24 → (m 59 w = 0 ∨ (m 59 w = 1 ∧ m 58 w = AR g n (g 53) w))
def unt (m : Mem) : Nat := cntB (fun w => decide (m 59 w = 0)) 24
/-- what telling w does -/
def TR (g : Mem) (n w : Nat) (m m' : Mem) (c0 : Nat) : Prop := FT m m' ∧ TI m' g n ∧ (∀ x, x < 24 → m 59 x = 1 → m' 59 x = 1) ∧ (∀ x, x < 24 → rk g n w < rk g n x → m' 59 x = m 59 x) ∧ c0 + unt m' ≤ unt m
theorem cntB_upd {m : Mem} {w : Nat} {v : Int32} (h0 : m 59 w = 0) : ∀ k, w < k → cntB (fun x => decide ((up2 (up2 m 59 w 1) 58 w v) 59 x = 0)) k + 1 = cntB (fun x => decide (m 59 x = 0)) k
  | 0, h => by omega
  | k + 1, h => by
    have q : ∀ x, (up2 (up2 m 59 w 1) 58 w v) 59 x = if x = w then 1 else m 59 x := by
      intro x
      simp (disch := omega) only [up2, up_ne, up_same, upd]
    unfold cntB
    by_cases e : k = w
    · subst e
      have same : ∀ j, j ≤ k → cntB (fun x => decide ((up2 (up2 m 59 k 1) 58 k v) 59 x = 0)) j = cntB (fun x => decide (m 59 x = 0)) j := by
        intro j
        induction j with
        | zero => intro _; rfl
        | succ j ih =>
          intro hj
          unfold cntB
          rw [ih (by omega), q j, if_neg (show ¬ j = k by omega)]
      rw [same k (Nat.le_refl _), q k, if_pos rfl, if_neg (by decide), if_pos (by rw [h0]; decide)]
    · have := cntB_upd (v := v) h0 k (by omega)
      rw [q k, if_neg e]
      omega
section MT
variable {m g : Mem} {n : Nat}
theorem TR.set {w c0 : Nat} {m1 : Mem} (hw : w < 24) (h : TR g n w m m1 c0) (h0 : m1 59 w = 0) : TR g n w m (up2 (up2 m1 59 w 1) 58 w (AR g n (g 53) w)) (c0 + 1) ∧ (up2 (up2 m1 59 w 1) 58 w (AR g n (g 53) w)) 59 w = 1 := by
  obtain ⟨f, t, a, b, c⟩ := h
  have q : ∀ x, (up2 (up2 m1 59 w 1) 58 w (AR g n (g 53) w)) 59 x = if x = w then 1 else m1 59 x := by
    intro x; simp (disch := omega) only [up2, up_ne, up_same, upd]
  have q8 : ∀ x, (up2 (up2 m1 59 w 1) 58 w (AR g n (g 53) w)) 58 x = if x = w then AR g n (g 53) w else m1 58 x := by
    intro x; simp (disch := omega) only [up2, up_ne, up_same, upd]
  refine ⟨⟨fun i hi hj => ?_, fun x hx => ?_, fun x hx h1 => ?_, fun x hx hr => ?_, ?_⟩, ?_⟩
  · rw [← f i hi hj]; simp (disch := omega) only [up2, up_ne]
  · rw [q, q8]
    by_cases e : x = w
    · rw [if_pos e, if_pos e, e]; exact Or.inr ⟨rfl, rfl⟩
    · rw [if_neg e, if_neg e]; exact t x hx
  · rw [q]; split
    · rfl
    · exact a x hx h1
  · rw [q, if_neg (fun e => by rw [e] at hr; omega)]; exact b x hx hr
  · have := cntB_upd (v := AR g n (g 53) w) h0 24 hw
    unfold unt at c ⊢
    omega
  · rw [q, if_pos rfl]
theorem TR.refl {w : Nat} (h : TI m g n) : TR g n w m m 0 := ⟨FT.refl m, h, fun _ _ h => h, fun _ _ _ => rfl, by omega⟩
/-- one pin behind another -/
theorem TR.seq {w p c0 c1 : Nat} {m1 m2 : Mem} (h1 : TR g n w m m1 c0) (h2 : TR g n p m1 m2 c1) (hp : rk g n p ≤ rk g n w) : TR g n w m m2 (c0 + c1) := by
  obtain ⟨f, t, a, b, c⟩ := h1
  obtain ⟨f', t', a', b', c'⟩ := h2
  exact ⟨f.trans f', t', fun x hx h => a' x hx (a x hx h), fun x hx hr => (b' x hx (by omega)).trans (b x hx hr), by omega⟩
/-- untold still, though wires of smaller rank are told: what TR at a bound below w leaves -/
def TB (g : Mem) (n w : Nat) (m m' : Mem) (c0 : Nat) : Prop := FT m m' ∧ TI m' g n ∧ (∀ x, x < 24 → m 59 x = 1 → m' 59 x = 1) ∧ (∀ x, x < 24 → rk g n w ≤ rk g n x → m' 59 x = m 59 x) ∧ c0 + unt m' ≤ unt m
theorem TB.refl {w : Nat} (h : TI m g n) : TB g n w m m 0 := ⟨FT.refl m, h, fun _ _ h => h, fun _ _ _ => rfl, by omega⟩
theorem TB.seq {w p c0 c1 : Nat} {m1 m2 : Mem} (h1 : TB g n w m m1 c0) (h2 : TR g n p m1 m2 c1) (hp : rk g n p < rk g n w) : TB g n w m m2 (c0 + c1) := by
  obtain ⟨f, t, a, b, c⟩ := h1
  obtain ⟨f', t', a', b', c'⟩ := h2
  exact ⟨f.trans f', t', fun x hx h => a' x hx (a x hx h), fun x hx hr => (b' x hx (by omega)).trans (b x hx hr), by omega⟩
theorem TB.tr {w c0 : Nat} {m1 : Mem} (h : TB g n w m m1 c0) : TR g n w m m1 c0 := ⟨h.1, h.2.1, h.2.2.1, fun x hx hr => h.2.2.2.1 x hx (by omega), h.2.2.2.2⟩
end MT
theorem jmin_nI {a b : Nat} (ha : a < 2 ^ 31) (hb : b < 2 ^ 31) : jmin (nI a) (nI b) = nI (min a b) := by
  unfold jmin
  by_cases h : b < a
  · rw [if_pos ((nI_ltI hb ha).mpr h), Nat.min_eq_right (by omega)]
  · rw [if_neg (fun e => h ((nI_ltI hb ha).mp e)), Nat.min_eq_left (by omega)]
/-- none, or a number that is not large (999 for a pin that lacks) -/
def okB (x : Int32) : Prop := x = -1 ∨ ∃ k : Nat, k ≤ 999 ∧ x = nI k
theorem okB_min {a b : Int32} (ha : okB a) (hb : okB b) : okB (jmin a b) ∧ (jmin a b = -1 ↔ (a = -1 ∨ b = -1)) := by
  have m1 : ∀ k : Nat, k ≤ 999 → ¬ nI k < (-1 : Int32) ∧ (-1 : Int32) < nI k := by
    intro k hk
    constructor
    · rw [Int32.lt_iff_toInt_lt, nI_toInt (by omega), show (-1 : Int32).toInt = -1 by decide]; omega
    · rw [Int32.lt_iff_toInt_lt, nI_toInt (by omega), show (-1 : Int32).toInt = -1 by decide]; omega
  rcases ha with rfl | ⟨ka, h1, rfl⟩
  · rcases hb with rfl | ⟨kb, h2, rfl⟩
    · exact ⟨Or.inl (by decide), ⟨fun _ => Or.inl rfl, fun _ => by decide⟩⟩
    · have e : jmin (-1) (nI kb) = -1 := by unfold jmin; rw [if_neg (m1 kb h2).1]
      exact ⟨Or.inl e, ⟨fun _ => Or.inl rfl, fun _ => e⟩⟩
  · rcases hb with rfl | ⟨kb, h2, rfl⟩
    · have e : jmin (nI ka) (-1) = -1 := by unfold jmin; rw [if_pos (m1 ka h1).2]
      exact ⟨Or.inl e, ⟨fun _ => Or.inr rfl, fun _ => e⟩⟩
    · rw [jmin_nI (by omega) (by omega)]
      refine ⟨Or.inr ⟨_, by omega, rfl⟩, ⟨fun h => absurd h (nI_m1 (by omega)), fun h => h.elim (fun h => absurd h (nI_m1 (by omega))) (fun h => absurd h (nI_m1 (by omega)))⟩⟩
