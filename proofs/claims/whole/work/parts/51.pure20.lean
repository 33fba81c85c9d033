/-! all arrivals told; the longest; the way -/
section MT3
variable {g : Mem} {n : Nat}
theorem p_M_tellArrivals_23 {K : Mem → Prop} (hwf : ∀ l, l < n → WFl g l) (hn : n ≤ 30) (hd : ∀ l, l < n → ∃ d : Nat, d ≤ 20 ∧ g 53 l = nI d) : ∀ (r w f : Nat) (m : Mem) (c : Nat), w + r = 24 → r < f → MC m g n → TI m g n → (∀ x, x < w → m 59 x = 1) → unt m ≤ c →
    (∀ m', FT m m' → TI m' g n → (∀ x, x < 24 → m' 59 x = 1) → K m') → w_M_tellArrivals_23 f (nI w) m c K := by
  intro r
  induction r with
  | zero =>
    intro w f m c hw hf hc ht h1 hu hK
    have e : w = 24 := by omega
    subst e
    obtain ⟨f, rfl⟩ : ∃ a, f = a + 1 := ⟨f - 1, by omega⟩
    unfold w_M_tellArrivals_23
    exact ⟨fun _ => hK m (FT.refl m) ht h1, fun h => absurd (show (24 : Int32) ≤ nI 24 by decide) h⟩
  | succ r ih =>
    intro w f m c hwr hf hc ht h1 hu hK
    have hw : w < 24 := by omega
    obtain ⟨f, rfl⟩ : ∃ a, f = a + 1 := ⟨f - 1, by omega⟩
    obtain ⟨m', c0, t1, t2, t3⟩ := p_M_tellArrival hwf hn hd 30 w m hw (by have := rk_le g n w; omega) hc ht
    have hle := t1.2.2.2.2
    unfold w_M_tellArrivals_23
    refine ⟨fun h => absurd ((nI_le24 (by omega)).mp h) (by omega), fun _ => ⟨c0, by omega, t3 c0 _ (Nat.le_refl _) ?_⟩⟩
    rw [nA1]
    refine ih (w + 1) f m' (c - c0) (by omega) (by omega) (hc.ft t1.1) t1.2.1 (fun x hx => ?_) (by omega) fun m2 f2 => hK m2 (t1.1.trans f2)
    by_cases e : x = w
    · subst e; exact t2
    · exact t1.2.2.1 x (by omega) (h1 x (by omega))
theorem p_M_tellArrivals_2 {E : Int32 → Mem → Prop} {K : Mem → Prop} : ∀ (r w f : Nat) (m : Mem), w + r = 24 → r < f → (∀ x, x < w → m 59 x = 0) → (∀ m', FT m m' → (∀ x, x < 24 → m' 59 x = 0) → E (nI 24) m') → w_M_tellArrivals_2 f (nI w) m E K := by
  intro r
  induction r with
  | zero =>
    intro w f m hw hf h0 hE
    have e : w = 24 := by omega
    subst e
    obtain ⟨f, rfl⟩ : ∃ a, f = a + 1 := ⟨f - 1, by omega⟩
    unfold w_M_tellArrivals_2
    exact ⟨fun _ => hE m (FT.refl m) h0, fun h => absurd (show (24 : Int32) ≤ nI 24 by decide) h⟩
  | succ r ih =>
    intro w f m hw hf h0 hE
    obtain ⟨f, rfl⟩ : ∃ a, f = a + 1 := ⟨f - 1, by omega⟩
    unfold w_M_tellArrivals_2
    rw [nI_clamp (by omega)]
    refine ⟨fun h => absurd ((nI_le24 (by omega)).mp h) (by omega), fun _ => ⟨vp_in_nI (by omega) (by decide), ?_⟩⟩
    intro m2 e2
    have f2 : FT m m2 := fun i hi hj => by rw [e2]; unfold up2; rw [up_ne hj]
    rw [nA1]
    refine ih (w + 1) f m2 (by omega) (by omega) (fun x hx => ?_) fun m' f' => hE m' (f2.trans f')
    rw [e2]; unfold up2; rw [up_same]
    by_cases e : x = w
    · rw [e, upd_same]
    · rw [upd_ne e]; exact h0 x (by omega)
theorem p_M_tellArrivals {m : Mem} {K : Mem → Prop} (hc : MC m g n) (hwf : ∀ l, l < n → WFl g l) (hd : ∀ l, l < n → ∃ d : Nat, d ≤ 20 ∧ g 53 l = nI d) (hK : ∀ m', FT m m' → (∀ w, w < 24 → m' 58 w = AR g n (g 53) w) → K m') : w_M_tellArrivals m K := by
  unfold w_M_tellArrivals
  refine p_M_tellArrivals_2 24 0 25 m (by omega) (by omega) (fun x hx => absurd hx (Nat.not_lt_zero x)) fun m1 f1 h1 => ?_
  refine p_M_tellArrivals_23 hwf hc.1 hd 24 0 25 m1 24 (by omega) (by omega) (hc.ft f1) (fun w hw => Or.inl (h1 w hw)) (fun x hx => absurd hx (Nat.not_lt_zero x)) (cntB_le _ 24) fun m' f' t' h' => ?_
  refine hK m' (f1.trans f') fun w hw => ?_
  rcases t' w hw with h | h
  · rw [h' w hw] at h; exact absurd h (by decide)
  · exact h.2
end MT3
/-- the greatest of the arrivals from w on -/
def S_lng (A : Nat → Int32) : Nat → Nat → Int32 → Int32
  | 0, _, x => x
  | r + 1, w, x => S_lng A r (w + 1) (jmax x (A w))
theorem p_A_greatest {m : Mem} {r : Nat} {A : Nat → Int32} {K : Int32 → Mem → Prop} (hA : ∀ w, w < 24 → m (r + 1) w = A w) (hK : K (S_lng A 24 0 0) m) : w_A_greatest r m K := by
  have go : ∀ (q w f : Nat) (x : Int32), w + q = 24 → q < f → K (S_lng A q w x) m → w_A_greatest_4 f r x (nI w) m (fun y2 y3 m4 => K y2 m4) K := by
    intro q
    induction q with
    | zero =>
      intro w f x hw hf hk
      have e : w = 24 := by omega
      subst e
      obtain ⟨f, rfl⟩ : ∃ a, f = a + 1 := ⟨f - 1, by omega⟩
      unfold w_A_greatest_4
      exact ⟨fun _ => hk, fun h => absurd (show (24 : Int32) ≤ nI 24 by decide) h⟩
    | succ q ih =>
      intro w f x hw hf hk
      obtain ⟨f, rfl⟩ : ∃ a, f = a + 1 := ⟨f - 1, by omega⟩
      unfold w_A_greatest_4
      rw [nI_clamp (by omega), hA w (by omega), nA1]
      exact ⟨fun h => absurd ((nI_le24 (by omega)).mp h) (by omega), fun _ => ⟨vp_in_nI (by omega) (by decide), ih (w + 1) f _ (by omega) (by omega) hk⟩⟩
  unfold w_A_greatest
  exact go 24 0 25 0 (by omega) (by omega) hK
theorem p_M_longestNow {m g : Mem} {n : Nat} {K : Int32 → Mem → Prop} (hc : MC m g n) (hwf : ∀ l, l < n → WFl g l) (hd : ∀ l, l < n → ∃ d : Nat, d ≤ 20 ∧ g 53 l = nI d) (hK : ∀ m', FT m m' → (∀ w, w < 24 → m' 58 w = AR g n (g 53) w) → K (S_lng (AR g n (g 53)) 24 0 0) m') : w_M_longestNow m K := by
  unfold w_M_longestNow
  refine p_M_tellArrivals hc hwf hd fun m' f' hA => ?_
  have hK' := hK m' f' hA
  have go : ∀ (q w f : Nat) (x : Int32), w + q = 24 → q < f → K (S_lng (AR g n (g 53)) q w x) m' → w_M_longestNow_8 f x (nI w) m' (fun y6 y7 m8 => K y6 m8) K := by
    intro q
    induction q with
    | zero =>
      intro w f x hw hf hk
      have e : w = 24 := by omega
      subst e
      obtain ⟨f, rfl⟩ : ∃ a, f = a + 1 := ⟨f - 1, by omega⟩
      unfold w_M_longestNow_8
      exact ⟨fun _ => hk, fun h => absurd (show (24 : Int32) ≤ nI 24 by decide) h⟩
    | succ q ih =>
      intro w f x hw hf hk
      obtain ⟨f, rfl⟩ : ∃ a, f = a + 1 := ⟨f - 1, by omega⟩
      unfold w_M_longestNow_8
      rw [nI_clamp (by omega), hA w (by omega), nA1]
      exact ⟨fun h => absurd ((nI_le24 (by omega)).mp h) (by omega), fun _ => ⟨vp_in_nI (by omega) (by decide), ih (w + 1) f _ (by omega) (by omega) hk⟩⟩
  exact go 24 0 25 0 (by omega) (by omega) hK'
