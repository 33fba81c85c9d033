/-! arrivals, the longest, the way: where nothing is in a ring -/
theorem GD.noring {g : Mem} {n q : Nat} (hG : GD g n) (hq : q < n) : ¬ ringB g n q = true := fun h => by
  have h17 := hG.1
  obtain ⟨w, hw, hr, hu⟩ := ringB_iff.mp h
  have hlt := (hG.2 q hq).2.2.2.2.2 w hw hu
  rw [(hG.2 q hq).2.1, cl_nI (by omega)] at hr
  have := pth_closed (g := g) (n := n) (C := fun j => q ≤ j) (fun i j hi hj hc he => by
    obtain ⟨l, hl, -, hu2, e⟩ := edB_iff.mp he
    have e2 : l = j := (nI_eq (by omega) (by omega)).mp ((hG.2 l hl).2.1.symm.trans e)
    have := (hG.2 l hl).2.2.2.2.2 i hi hu2
    show q ≤ j
    have : q ≤ i := hc
    omega) 24 q w (Nat.le_refl _) (by omega) hw (Nat.le_refl q) hr
  omega
def av (g : Mem) (n w : Nat) : Nat := cl (AR g n (g 53) w)
theorem GD.dels {g : Mem} {n : Nat} (hG : GD g n) : ∀ l, l < n → ∃ d : Nat, d ≤ 20 ∧ g 53 l = nI d := fun l hl => (hG.2 l hl).2.2.2.1
theorem GD.ar_ne {g : Mem} {n : Nat} (hG : GD g n) : ∀ (f w : Nat), w < f → w < 24 → ¬ AR g n (g 53) w = -1
  | 0, w, h, _ => absurd h (Nat.not_lt_zero w)
  | f + 1, w, h, hw => by
    have hn := hG.le30
    have h17 := hG.1
    rw [AR_eq hG.wf hn hw, hG.drv hw]
    by_cases hwn : w < n
    · rw [if_pos hwn, if_neg (nI_m1 (by omega)), cl_nI (by omega)]
      obtain ⟨d, hd, ed⟩ := hG.dels w hwn
      split
      · decide
      · split
        · rw [ed]; exact nI_m1 (by omega)
        · rename_i k1 k2
          rw [if_neg (hG.noring hwn)]
          have hk := (hG.wf w hwn).kinds k1 k2
          obtain ⟨⟨pa, pb, pc⟩, ua, ub, uc⟩ := (hG.wf w hwn).pins hk
          have key : ∀ x, isW x → S_uses g w (cl x) → ∃ k : Nat, k ≤ 480 ∧ AR g n (g 53) (cl x) = nI k := fun x hx hu => by
            have hlt := (hG.2 w hwn).2.2.2.2.2 (cl x) hx.cl.2 hu
            exact (AR_ok (g := g) hG.dels hn (cl x)).resolve_left (GD.ar_ne hG f (cl x) (by omega) hx.cl.2)
          obtain ⟨a, ha, ea⟩ := key _ pa ua
          obtain ⟨b, hb, eb⟩ := key _ pb ub
          obtain ⟨c, hc, ec⟩ := key _ pc uc
          rw [ea, eb, ec, ed]
          unfold comb
          rw [if_neg (fun q => q.elim (nI_m1 (by omega)) (fun q => q.elim (nI_m1 (by omega)) (nI_m1 (by omega)))), jmax_nI (by omega) (by omega), jmax_nI (by omega) (by omega), nI_add]
          exact nI_m1 (by omega)
    · rw [if_neg hwn, if_pos rfl]; decide
theorem GD.ar {g : Mem} {n w : Nat} (hG : GD g n) (hw : w < 24) : AR g n (g 53) w = nI (av g n w) ∧ av g n w ≤ 480 := by
  obtain ⟨k, hk, e⟩ := (AR_ok (g := g) hG.dels hG.le30 w).resolve_left (hG.ar_ne (w + 1) w (by omega) hw)
  unfold av
  rw [e, cl_nI (by omega)]
  exact ⟨rfl, by omega⟩
theorem GD.av0 {g : Mem} {n w : Nat} (hG : GD g n) (hw : w < 24) (hwn : ¬ w < n) : av g n w = 0 := by
  unfold av
  rw [AR_eq hG.wf hG.le30 hw, hG.drv hw, if_neg hwn, if_pos rfl]; rfl
/-- what a pin adds -/
def pv (g : Mem) (n : Nat) (x : Int32) : Nat := if x < 0 then 0 else av g n (cl x)
theorem GD.avg {g : Mem} {n w : Nat} (hG : GD g n) (hwn : w < n) (hk : ¬ g 48 w < 0) : ∃ d : Nat, d ≤ 20 ∧ g 53 w = nI d ∧ av g n w = max (max (max 0 (pv g n (g 50 w))) (pv g n (g 51 w))) (pv g n (g 52 w)) + d ∧
    ∀ p, p < 24 → S_uses g w p → av g n p ≤ av g n w := by
  have hn := hG.le30
  have h17 := hG.1
  obtain ⟨d, hd, ed⟩ := hG.dels w hwn
  obtain ⟨k, hk8, ek⟩ := (hG.wf w hwn).gate hk
  obtain ⟨g50, g51, g52⟩ := (hG.wf w hwn).gpins hk8 ek
  obtain ⟨⟨pa, pb, pc⟩, -⟩ := (hG.wf w hwn).pins hk
  have hE := AR_eq (dl := g 53) hG.wf hn (w := w) (by omega)
  rw [hG.drv (by omega), if_pos hwn, if_neg (nI_m1 (by omega)), cl_nI (by omega), if_neg (fun e => hk (by rw [e]; decide)), if_neg (fun e => hk (by rw [e]; decide)), if_neg (hG.noring hwn), (hG.ar pa.cl.2).1, (hG.ar pb.cl.2).1, (hG.ar pc.cl.2).1, (hG.ar (w := w) (by omega)).1, ed] at hE
  have la := (hG.ar pa.cl.2).2
  have lb := (hG.ar pb.cl.2).2
  have lc := (hG.ar pc.cl.2).2
  have lw := (hG.ar (w := w) (by omega)).2
  unfold comb at hE
  rw [if_neg (fun q => q.elim (nI_m1 (by omega)) (fun q => q.elim (nI_m1 (by omega)) (nI_m1 (by omega)))), jmax_nI (by omega) (by omega), jmax_nI (by omega) (by omega), nI_add] at hE
  have hA := (nI_eq (by omega) (by omega)).mp hE
  have p50 : pv g n (g 50 w) = av g n (cl (g 50 w)) := by
    obtain ⟨a, ha, e⟩ := g50
    unfold pv
    rw [e, if_neg (nI_pos (by omega))]
  have p51 : (g 51 w = -1 ∧ pv g n (g 51 w) = 0 ∧ pinB g w = g 50 w) ∨ (¬ g 51 w = -1 ∧ pv g n (g 51 w) = av g n (cl (g 51 w)) ∧ pinB g w = g 51 w) := by
    by_cases e : g 51 w = -1
    · left
      unfold pv pinB
      rw [e]; exact ⟨rfl, if_pos (by decide), if_pos rfl⟩
    · right
      have : isW (g 51 w) := by
        by_cases q : 2 ≤ k
        · rw [if_pos q] at g51; exact g51
        · rw [if_neg q] at g51; exact absurd g51 e
      refine ⟨e, ?_, if_neg e⟩
      obtain ⟨a, ha, ea⟩ := this
      unfold pv
      rw [ea, if_neg (nI_pos (by omega))]
  have p52 : (g 52 w = -1 ∧ pv g n (g 52 w) = 0 ∧ pinC g w = g 50 w) ∨ (¬ g 52 w = -1 ∧ pv g n (g 52 w) = av g n (cl (g 52 w)) ∧ pinC g w = g 52 w) := by
    by_cases e : g 52 w = -1
    · left
      unfold pv pinC
      rw [e]; exact ⟨rfl, if_pos (by decide), if_pos rfl⟩
    · right
      have : isW (g 52 w) := by
        by_cases q : k = 7
        · rw [if_pos q] at g52; exact g52
        · rw [if_neg q] at g52; exact absurd g52 e
      refine ⟨e, ?_, if_neg e⟩
      obtain ⟨a, ha, ea⟩ := this
      unfold pv
      rw [ea, if_neg (nI_pos (by omega))]
  refine ⟨d, hd, ed, ?_, fun p hp hu => ?_⟩
  · rcases p51 with ⟨-, e1, e2⟩ | ⟨-, e1, e2⟩ <;> rcases p52 with ⟨-, f1, f2⟩ | ⟨-, f1, f2⟩ <;> (rw [e2, f2] at hA; rw [p50, e1, f1, hA]; omega)
  · have hcl : ∀ x, x = nI p → cl x = p := fun x e => by rw [e, cl_nI (by omega)]
    rcases hu with e | e | e
    · rw [hcl _ e] at hA; omega
    · rcases p51 with ⟨q, -⟩ | ⟨-, -, e2⟩
      · exact absurd (e.symm.trans q) (nI_m1 (by omega))
      · rw [e2, hcl _ e] at hA; omega
    · rcases p52 with ⟨q, -⟩ | ⟨-, -, e2⟩
      · exact absurd (e.symm.trans q) (nI_m1 (by omega))
      · rw [e2, hcl _ e] at hA; omega
theorem GD.lng {g : Mem} {n : Nat} (hG : GD g n) : ∀ (r w x : Nat), w + r = 24 → x ≤ 480 → ∃ L : Nat, S_lng (AR g n (g 53)) r w (nI x) = nI L ∧ L ≤ 480 ∧ x ≤ L ∧ (∀ p, w ≤ p → p < 24 → av g n p ≤ L) ∧ (L = x ∨ ∃ p, p < 24 ∧ L = av g n p)
  | 0, w, x, hr, hx => ⟨x, rfl, hx, Nat.le_refl _, fun p h1 h2 => by omega, Or.inl rfl⟩
  | r + 1, w, x, hr, hx => by
    obtain ⟨ea, la⟩ := hG.ar (w := w) (by omega)
    unfold S_lng
    rw [ea, jmax_nI (by omega) (by omega)]
    obtain ⟨L, e, h1, h2, h3, h4⟩ := GD.lng hG r (w + 1) (max x (av g n w)) (by omega) (by omega)
    refine ⟨L, e, h1, by omega, fun p hp hp2 => ?_, ?_⟩
    · by_cases q : p = w
      · rw [q]; omega
      · exact h3 p (by omega) hp2
    · rcases h4 with h4 | h4
      · by_cases q : x ≤ av g n w
        · exact Or.inr ⟨w, by omega, by omega⟩
        · exact Or.inl (by omega)
      · exact Or.inr h4
theorem GD.lat {g : Mem} {n : Nat} (hG : GD g n) : ∀ (r w : Nat) (b : Int32), w + r = 24 → ((b = -1 ∧ w = 0) ∨ ∃ q, q < w ∧ q < n ∧ b = nI q ∧ ∀ p, p < w → p < n → av g n p ≤ av g n q) → ∃ q, q < n ∧ S_latL g n (AR g n (g 53)) r w b = nI q ∧ ∀ p, p < n → av g n p ≤ av g n q
  | 0, w, b, hr, h => by
    have h17 := hG.1
    rcases h with h | ⟨q, h1, h2, h3, h4⟩
    · omega
    · exact ⟨q, h2, h3, fun p hp => h4 p (by omega) hp⟩
  | r + 1, w, b, hr, h => by
    have h17 := hG.1
    obtain ⟨ea, la⟩ := hG.ar (w := w) (by omega)
    unfold S_latL
    refine GD.lat hG r (w + 1) _ (by omega) ?_
    rw [hG.drv (by omega)]
    by_cases hwn : w < n
    · rw [if_pos hwn, if_neg (nI_m1 (by omega)), ea, if_neg (nI_m1 (by omega))]
      rcases h with ⟨h1, h2⟩ | ⟨q, h1, h2, h3, h4⟩
      · rw [if_pos h1]
        exact Or.inr ⟨w, by omega, hwn, rfl, fun p hp _ => by rw [show p = w by omega]; exact Nat.le_refl _⟩
      · obtain ⟨eq, lq⟩ := hG.ar (w := q) (by omega)
        rw [h3, if_neg (nI_m1 (by omega)), cl_nI (by omega), eq]
        by_cases c : av g n w ≤ av g n q
        · rw [if_pos (nI_le c (by omega))]
          exact Or.inr ⟨q, by omega, h2, rfl, fun p hp hpn => by
            by_cases e : p = w
            · rw [e]; exact c
            · exact h4 p (by omega) hpn⟩
        · rw [if_neg (fun e => c ((nI_leI (by omega) (by omega)).mp e))]
          exact Or.inr ⟨w, by omega, hwn, rfl, fun p hp hpn => by
            by_cases e : p = w
            · rw [e]; exact Nat.le_refl _
            · have := h4 p (by omega) hpn; omega⟩
    · rw [if_neg hwn, if_pos rfl]
      rcases h with h | ⟨q, h1, h2, h3, h4⟩
      · omega
      · exact Or.inr ⟨q, by omega, h2, h3, fun p hp hpn => h4 p (by omega) hpn⟩
/-- the longest, and the way's first wire -/
theorem GD.top {g : Mem} {n : Nat} (hG : GD g n) : ∃ L q : Nat, S_lng (AR g n (g 53)) 24 0 0 = nI L ∧ L ≤ 480 ∧ (∀ p, p < 24 → av g n p ≤ L) ∧ q < n ∧ S_lat g n (AR g n (g 53)) = nI q ∧ av g n q = L := by
  obtain ⟨L, e1, h1, -, h3, h4⟩ := hG.lng 24 0 0 (by omega) (by omega)
  obtain ⟨q, hq, e2, h5⟩ := hG.lat 24 0 (-1) (by omega) (Or.inl ⟨rfl, rfl⟩)
  have h17 := hG.1
  refine ⟨L, q, e1, h1, fun p hp => h3 p (by omega) hp, hq, e2, ?_⟩
  have hqL := h3 q (by omega) (by omega)
  rcases h4 with h4 | ⟨p, hp, h4⟩
  · omega
  · by_cases hpn : p < n
    · have := h5 p hpn; omega
    · have := hG.av0 hp hpn; omega
theorem wayL_succ {g : Mem} {n : Nat} {A : Nat → Int32} : ∀ (k : Nat) (x : Int32), S_wayL g n A (k + 1) x = if S_wayL g n A k x = -1 then -1 else S_beh g n A (cl (S_wayL g n A k x))
  | 0, x => rfl
  | k + 1, x => by
    show (if x = -1 then -1 else S_wayL g n A (k + 1) (S_beh g n A (cl x))) = if (if x = -1 then -1 else S_wayL g n A k (S_beh g n A (cl x))) = -1 then -1 else S_beh g n A (cl (if x = -1 then -1 else S_wayL g n A k (S_beh g n A (cl x))))
    by_cases e : x = -1
    · rw [if_pos e, if_pos e, if_pos rfl]
    · rw [if_neg e, if_neg e, wayL_succ k]
theorem GD.beh {g : Mem} {n w : Nat} (hG : GD g n) (hwn : w < n) : (g 48 w < 0 ∧ S_beh g n (AR g n (g 53)) w = -1) ∨ (¬ g 48 w < 0 ∧ ∃ p, p < n ∧ S_beh g n (AR g n (g 53)) w = nI p ∧ S_uses g w p ∧ av g n p ≤ av g n w) := by
  have h17 := hG.1
  unfold S_beh
  rw [hG.drv (by omega), if_pos hwn, if_neg (nI_m1 (by omega)), cl_nI (by omega)]
  by_cases hk : g 48 w < 0
  · rw [if_pos hk]; exact Or.inl ⟨hk, rfl⟩
  · rw [if_neg hk]
    obtain ⟨⟨pa, pb, pc⟩, ua, ub, uc⟩ := (hG.wf w hwn).pins hk
    obtain ⟨d, -, -, -, hu⟩ := hG.avg hwn hk
    refine Or.inr ⟨hk, ?_⟩
    have fin : ∀ x : Int32, isW x → S_uses g w (cl x) → ∃ p, p < n ∧ x = nI p ∧ S_uses g w p ∧ av g n p ≤ av g n w := fun x hx hux => ⟨cl x, by have := (hG.2 w hwn).2.2.2.2.2 (cl x) hx.cl.2 hux; omega, hx.cl.1, hux, hu _ hx.cl.2 hux⟩
    rcases S_pick_or (A := AR g n (g 53)) (x := S_pick (AR g n (g 53)) (g 50 w) (pinB g w)) (y := pinC g w) with h | h
    · rw [h]
      rcases S_pick_or (A := AR g n (g 53)) (x := g 50 w) (y := pinB g w) with h | h
      · rw [h]; exact fin _ pa ua
      · rw [h]; exact fin _ pb ub
    · rw [h]; exact fin _ pc uc
theorem way_lo {g : Mem} {n p : Nat} {A : Nat → Int32} (hp : p < 24) : S_way g n A (nI p) = S_wayL g n A p (S_lat g n A) := by
  unfold S_way
  rw [if_neg (nI_pos (by omega)), if_pos (show nI p < (24 : Int32) from (nI_ltI (b := 24) (by omega) (by decide)).mpr hp), cl_nI (by omega)]
/-- the place p on the way is the wire w: what is behind it -/
theorem GD.step {g : Mem} {n p w : Nat} (hG : GD g n) (hp : p < 24) (hwn : w < n) (e : S_way g n (AR g n (g 53)) (nI p) = nI w) : (g 48 w < 0 ∧ S_way g n (AR g n (g 53)) (nI (p + 1)) = -1) ∨ (p + 1 < 24 ∧ ¬ g 48 w < 0 ∧ ∃ v, v < n ∧ S_way g n (AR g n (g 53)) (nI (p + 1)) = nI v ∧ S_uses g w v ∧ av g n v ≤ av g n w) := by
  have h17 := hG.1
  rw [way_lo hp] at e
  have hs := wayL_succ (g := g) (n := n) (A := AR g n (g 53)) p (S_lat g n (AR g n (g 53)))
  rw [e, if_neg (nI_m1 (by omega)), cl_nI (by omega)] at hs
  by_cases h24 : p + 1 < 24
  · rw [way_lo h24, hs]
    rcases hG.beh hwn with h | ⟨hk, v, hv, h1, h2, h3⟩
    · exact Or.inl h
    · exact Or.inr ⟨h24, hk, v, hv, h1, h2, h3⟩
  · have e24 : p + 1 = 24 := by omega
    left
    rw [e24, way_24 hG.wf hG.le30 (Nat.le_refl _)] at hs
    refine ⟨?_, by rw [e24]; rfl⟩
    rcases hG.beh hwn with h | ⟨hk, v, hv, h1, -⟩
    · exact h.1
    · exact absurd (h1.symm.trans hs.symm) (nI_m1 (by omega))
