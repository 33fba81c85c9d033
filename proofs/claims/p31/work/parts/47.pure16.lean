/-! arrivals: what they are -/
def pinB (g : Mem) (l : Nat) : Int32 := if g 51 l = -1 then g 50 l else g 51 l
def pinC (g : Mem) (l : Nat) : Int32 := if g 52 l = -1 then g 50 l else g 52 l
def comb (d a b c : Int32) : Int32 := if a = -1 ∨ b = -1 ∨ c = -1 then -1 else d + jmax a (jmax b c)
def arv (g : Mem) (n : Nat) (dl : Nat → Int32) : Nat → Nat → Int32
  | 0, _ => 0
  | f + 1, w => if S_drv g n w = -1 then 0 else if g 48 (cl (S_drv g n w)) = -1 then 0 else if g 48 (cl (S_drv g n w)) = -2 then dl (cl (S_drv g n w)) else
    if ringB g n (cl (S_drv g n w)) = true then -1 else
    comb (dl (cl (S_drv g n w))) (arv g n dl f (cl (g 50 (cl (S_drv g n w))))) (arv g n dl f (cl (pinB g (cl (S_drv g n w))))) (arv g n dl f (cl (pinC g (cl (S_drv g n w)))))
/-- from how many wires one can come to w -/
def cntB (p : Nat → Bool) : Nat → Nat
  | 0 => 0
  | n + 1 => cntB p n + (if p n = true then 1 else 0)
theorem cntB_le (p : Nat → Bool) : ∀ n, cntB p n ≤ n
  | 0 => Nat.le_refl _
  | n + 1 => by have := cntB_le p n; unfold cntB; split <;> omega
theorem cntB_mono {p q : Nat → Bool} (h : ∀ i, p i = true → q i = true) : ∀ n, cntB p n ≤ cntB q n
  | 0 => Nat.le_refl _
  | n + 1 => by
    have := cntB_mono h n
    unfold cntB
    by_cases hp : p n = true
    · rw [if_pos hp, if_pos (h n hp)]; omega
    · rw [if_neg hp]; split <;> omega
theorem cntB_lt {p q : Nat → Bool} (h : ∀ i, p i = true → q i = true) {a : Nat} (hp : ¬ p a = true) (hq : q a = true) : ∀ n, a < n → cntB p n < cntB q n
  | 0, h0 => by omega
  | n + 1, h0 => by
    unfold cntB
    by_cases e : n = a
    · subst e
      have := cntB_mono h n
      rw [if_neg hp, if_pos hq]; omega
    · have := cntB_lt h hp hq n (by omega)
      by_cases hp' : p n = true
      · rw [if_pos hp', if_pos (h n hp')]; omega
      · rw [if_neg hp']; split <;> omega
def rk (g : Mem) (n w : Nat) : Nat := cntB (fun i => rch g n i w) 24
theorem rk_le (g : Mem) (n w : Nat) : rk g n w ≤ 24 := cntB_le _ 24
theorem rk_pos {g : Mem} {n w : Nat} (hw : w < 24) : 0 < rk g n w := by
  have h := cntB_lt (p := fun _ => false) (q := fun i => rch g n i w) (fun i h => by cases h) (a := w) (by decide) rch_refl 24 hw
  unfold rk
  omega
theorem rk_lt {g : Mem} {n l w p : Nat} (hl : l < n) (hk : ¬ g 48 l < 0) (hr : ¬ ringB g n l = true) (hw : w < 24) (ew : g 49 l = nI w) (hp : p < 24) (hu : S_uses g l p) : rk g n p < rk g n w := by
  unfold rk
  refine cntB_lt (p := fun i => rch g n i p) (q := fun i => rch g n i w) (fun i h => rch_trans hp h (rch_edge (edB_iff.mpr ⟨l, hl, hk, hu, ew⟩))) (a := w) ?_ rch_refl 24 hw
  intro h
  refine hr (ringB_iff.mpr ⟨p, hp, ?_, hu⟩)
  rw [ew, cl_nI (by omega)]; exact h
/-- what a gate's pins are -/
theorem WFl.pins {g : Mem} {l : Nat} (h : WFl g l) (hk : ¬ g 48 l < 0) : (isW (g 50 l) ∧ isW (pinB g l) ∧ isW (pinC g l)) ∧ (S_uses g l (cl (g 50 l)) ∧ S_uses g l (cl (pinB g l)) ∧ S_uses g l (cl (pinC g l))) := by
  obtain ⟨k, hk8, ek⟩ := h.gate hk
  have n1 : ¬ nI k = -1 := nI_m1 (by omega)
  have n2 : ¬ nI k = -2 := by
    intro e
    have := congrArg Int32.toInt e
    rw [nI_toInt (by omega), show (-2 : Int32).toInt = -2 by decide] at this
    omega
  obtain ⟨g50, g51, g52⟩ : isW (g 50 l) ∧ (if 2 ≤ k then isW (g 51 l) else g 51 l = -1) ∧ (if k = 7 then isW (g 52 l) else g 52 l = -1) := by
    rcases h.2 with hh | hh | ⟨k', hk', e', hh⟩
    · exact absurd (ek.symm.trans hh.1) n1
    · exact absurd (ek.symm.trans hh.1) n2
    · have : k' = k := (nI_eq (by omega) (by omega)).mp (e'.symm.trans ek)
      subst this; exact hh
  have ua : S_uses g l (cl (g 50 l)) := Or.inl g50.cl.1
  refine ⟨⟨g50, ?_, ?_⟩, ua, ?_, ?_⟩
  · unfold pinB; split
    · exact g50
    · rename_i hne; split at g51
      · exact g51
      · exact absurd g51 hne
  · unfold pinC; split
    · exact g50
    · rename_i hne; split at g52
      · exact g52
      · exact absurd g52 hne
  · unfold pinB; split
    · exact ua
    · rename_i hne; split at g51
      · exact Or.inr (Or.inl g51.cl.1)
      · exact absurd g51 hne
  · unfold pinC; split
    · exact ua
    · rename_i hne; split at g52
      · exact Or.inr (Or.inr g52.cl.1)
      · exact absurd g52 hne
theorem WFl.kinds {g : Mem} {l : Nat} (h : WFl g l) (h1 : ¬ g 48 l = -1) (h2 : ¬ g 48 l = -2) : ¬ g 48 l < 0 := by
  rcases h.2 with hh | hh | ⟨k, hk, e, -⟩
  · exact absurd hh.1 h1
  · exact absurd hh.1 h2
  · rw [e]; exact nI_pos (by omega)
section AR1
variable {g : Mem} {n : Nat} {dl : Nat → Int32}
/-- fuel beyond the rank changes nothing -/
theorem arv_stable (hwf : ∀ l, l < n → WFl g l) (hn : n ≤ 30) : ∀ (f f' w : Nat), w < 24 → rk g n w ≤ f → rk g n w ≤ f' → arv g n dl f w = arv g n dl f' w
  | 0, _, w, hw, h, _ => by have := rk_pos (g := g) (n := n) hw; omega
  | f + 1, 0, w, hw, _, h => by have := rk_pos (g := g) (n := n) hw; omega
  | f + 1, f' + 1, w, hw, h1, h2 => by
    unfold arv
    rcases S_drv_spec (g := g) (n := n) (w := w) with ⟨e, -⟩ | ⟨q, hq, e, ew, -⟩
    · rw [if_pos e, if_pos e]
    · have ne : ¬ S_drv g n w = -1 := by rw [e]; exact nI_m1 (by omega)
      rw [if_neg ne, if_neg ne, e, cl_nI (by omega)]
      by_cases k1 : g 48 q = -1
      · rw [if_pos k1, if_pos k1]
      · rw [if_neg k1, if_neg k1]
        by_cases k2 : g 48 q = -2
        · rw [if_pos k2, if_pos k2]
        · rw [if_neg k2, if_neg k2]
          by_cases hr : ringB g n q = true
          · rw [if_pos hr, if_pos hr]
          · rw [if_neg hr, if_neg hr]
            have hk := (hwf q hq).kinds k1 k2
            obtain ⟨⟨a1, a2, a3⟩, b1, b2, b3⟩ := (hwf q hq).pins hk
            have c1 := rk_lt hq hk hr hw ew a1.cl.2 b1
            have c2 := rk_lt hq hk hr hw ew a2.cl.2 b2
            have c3 := rk_lt hq hk hr hw ew a3.cl.2 b3
            rw [arv_stable hwf hn f f' _ a1.cl.2 (by omega) (by omega), arv_stable hwf hn f f' _ a2.cl.2 (by omega) (by omega), arv_stable hwf hn f f' _ a3.cl.2 (by omega) (by omega)]
/-- the arrival at w -/
def AR (g : Mem) (n : Nat) (dl : Nat → Int32) (w : Nat) : Int32 := arv g n dl 24 w
/-- no arrival, or a number that is not large -/
def okA (f : Nat) (x : Int32) : Prop := x = -1 ∨ ∃ k : Nat, k ≤ 20 * f ∧ x = nI k
theorem jmax_nI {a b : Nat} (ha : a < 2 ^ 31) (hb : b < 2 ^ 31) : jmax (nI a) (nI b) = nI (max a b) := by
  unfold jmax
  by_cases h : a < b
  · rw [if_pos ((nI_ltI ha hb).mpr h), Nat.max_eq_right (by omega)]
  · rw [if_neg (fun e => h ((nI_ltI ha hb).mp e)), Nat.max_eq_left (by omega)]
theorem okA_comb {f d : Nat} {x a b c : Int32} (hd : d ≤ 20) (hf : f ≤ 1000) (ex : x = nI d) (ha : okA f a) (hb : okA f b) (hc : okA f c) : okA (f + 1) (comb x a b c) := by
  unfold comb
  by_cases h : a = -1 ∨ b = -1 ∨ c = -1
  · rw [if_pos h]; exact Or.inl rfl
  · rw [if_neg h]
    obtain ⟨ka, ha1, ha2⟩ := ha.resolve_left (fun e => h (Or.inl e))
    obtain ⟨kb, hb1, hb2⟩ := hb.resolve_left (fun e => h (Or.inr (Or.inl e)))
    obtain ⟨kc, hc1, hc2⟩ := hc.resolve_left (fun e => h (Or.inr (Or.inr e)))
    rw [ex, ha2, hb2, hc2, jmax_nI (by omega) (by omega), jmax_nI (by omega) (by omega), nI_add]
    exact Or.inr ⟨d + max ka (max kb kc), by omega, rfl⟩
theorem okA_arv (hd : ∀ l, l < n → ∃ d : Nat, d ≤ 20 ∧ dl l = nI d) (hn : n ≤ 30) : ∀ (f w : Nat), f ≤ 1000 → okA f (arv g n dl f w)
  | 0, w, _ => Or.inr ⟨0, by omega, rfl⟩
  | f + 1, w, hf => by
    unfold arv
    rcases S_drv_spec (g := g) (n := n) (w := w) with ⟨e, -⟩ | ⟨q, hq, e, ew, -⟩
    · rw [if_pos e]; exact Or.inr ⟨0, by omega, rfl⟩
    · have ne : ¬ S_drv g n w = -1 := by rw [e]; exact nI_m1 (by omega)
      rw [if_neg ne, e, cl_nI (by omega)]
      obtain ⟨d, hd1, hd2⟩ := hd q hq
      split
      · exact Or.inr ⟨0, by omega, rfl⟩
      · split
        · exact Or.inr ⟨d, by omega, hd2⟩
        · split
          · exact Or.inl rfl
          · exact okA_comb hd1 (by omega) hd2 (okA_arv hd hn f _ (by omega)) (okA_arv hd hn f _ (by omega)) (okA_arv hd hn f _ (by omega))
theorem AR_ok (hd : ∀ l, l < n → ∃ d : Nat, d ≤ 20 ∧ dl l = nI d) (hn : n ≤ 30) (w : Nat) : okA 24 (AR g n dl w) := okA_arv hd hn 24 w (by omega)
theorem AR_ne (hd : ∀ l, l < n → ∃ d : Nat, d ≤ 20 ∧ dl l = nI d) (hn : n ≤ 30) (w : Nat) : ¬ AR g n dl w = -2 := by
  rcases AR_ok (g := g) hd hn w with h | ⟨k, hk, h⟩
  · rw [h]; decide
  · rw [h]
    intro e
    have := congrArg Int32.toInt e
    rw [nI_toInt (by omega), show (-2 : Int32).toInt = -2 by decide] at this
    omega
/-- the arrivals' own rule -/
theorem AR_eq (hwf : ∀ l, l < n → WFl g l) (hn : n ≤ 30) {w : Nat} (hw : w < 24) : AR g n dl w = (if S_drv g n w = -1 then 0 else if g 48 (cl (S_drv g n w)) = -1 then 0 else if g 48 (cl (S_drv g n w)) = -2 then dl (cl (S_drv g n w)) else
    if ringB g n (cl (S_drv g n w)) = true then -1 else
    comb (dl (cl (S_drv g n w))) (AR g n dl (cl (g 50 (cl (S_drv g n w))))) (AR g n dl (cl (pinB g (cl (S_drv g n w))))) (AR g n dl (cl (pinC g (cl (S_drv g n w)))))) := by
  have h := arv_stable (dl := dl) hwf hn 24 25 w hw (rk_le g n w) (by have := rk_le g n w; omega)
  unfold AR
  rw [h]
  rfl
end AR1
