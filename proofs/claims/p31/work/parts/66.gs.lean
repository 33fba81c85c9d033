/-! what reads only the lines' kinds and wires -/
def GS (g g' : Mem) : Prop := g' 48 = g 48 ∧ g' 49 = g 49 ∧ g' 50 = g 50 ∧ g' 51 = g 51 ∧ g' 52 = g 52
section GSS
variable {g g' : Mem} {n : Nat}
theorem GS.uses (h : GS g g') (l w : Nat) : S_uses g' l w ↔ S_uses g l w := by
  obtain ⟨-, -, h50, h51, h52⟩ := h
  unfold S_uses
  rw [h50, h51, h52]
theorem GS.wfl (h : GS g g') {l : Nat} (hd : (g 48 l = -1 → g' 53 l = 0)) (hw : WFl g l) : WFl g' l := by
  obtain ⟨h48, h49, h50, h51, h52⟩ := h
  unfold WFl at hw ⊢
  rw [h48, h49, h50, h51, h52]
  refine ⟨hw.1, ?_⟩
  rcases hw.2 with ⟨a, b, c, d, e⟩ | hh | hh
  · exact Or.inl ⟨a, b, c, d, hd a⟩
  · exact Or.inr (Or.inl hh)
  · exact Or.inr (Or.inr hh)
theorem GS.ndr (h : GS g g') (w : Nat) : ∀ k, S_ndr g' w k = S_ndr g w k
  | 0 => rfl
  | k + 1 => by
    unfold S_ndr
    rw [GS.ndr h w k, h.2.1]
theorem GS.nus (h : GS g g') (w : Nat) : ∀ k, S_nus g' w k = S_nus g w k
  | 0 => rfl
  | k + 1 => by
    unfold S_nus
    rw [GS.nus h w k, h.2.2.1, h.2.2.2.1, h.2.2.2.2]
theorem GS.drvL (h : GS g g') (x : Int32) : ∀ (r l : Nat), S_drvL g' x r l = S_drvL g x r l
  | 0, _ => rfl
  | r + 1, l => by
    unfold S_drvL
    rw [GS.drvL h x r (l + 1), h.2.1]
theorem GS.drv (h : GS g g') (n w : Nat) : S_drv g' n w = S_drv g n w := h.drvL _ _ _
theorem GS.usB (h : GS g g') (l w : Nat) : usB g' l w = usB g l w := by
  rw [Bool.eq_iff_iff, usB_iff, usB_iff]
  exact h.uses l w
theorem GS.edB (h : GS g g') (n i k : Nat) : edB g' n i k = edB g n i k := by
  rw [Bool.eq_iff_iff, edB_iff, edB_iff]
  constructor
  · rintro ⟨l, a, b, c, d⟩
    exact ⟨l, a, by rw [← h.1]; exact b, (h.uses l i).mp c, by rw [← h.2.1]; exact d⟩
  · rintro ⟨l, a, b, c, d⟩
    exact ⟨l, a, by rw [h.1]; exact b, (h.uses l i).mpr c, by rw [h.2.1]; exact d⟩
theorem GS.pth (h : GS g g') (n : Nat) : ∀ (k a b : Nat), pth g' n k a b = pth g n k a b
  | 0, a, b => by
    rw [Bool.eq_iff_iff, pth_0, pth_0, h.edB]
  | k + 1, a, b => by
    rw [Bool.eq_iff_iff, pth_s, pth_s, GS.pth h n k, GS.pth h n k, GS.pth h n k]
theorem GS.ring (h : GS g g') (n l : Nat) : ringB g' n l = ringB g n l := by
  rw [Bool.eq_iff_iff, ringB_iff, ringB_iff]
  unfold rch
  constructor
  · rintro ⟨w, a, b, c⟩
    exact ⟨w, a, by rw [← h.2.1, ← h.pth n]; exact b, (h.uses l w).mp c⟩
  · rintro ⟨w, a, b, c⟩
    exact ⟨w, a, by rw [h.2.1, h.pth n]; exact b, (h.uses l w).mpr c⟩
theorem GS.flw (h : GS g g') (n : Nat) : ∀ w, FLw g' n w = FLw g n w
  | 0 => rfl
  | w + 1 => by
    unfold FLw FLw1
    rw [GS.flw h n w, h.ndr, h.nus]
theorem GS.fll (h : GS g g') (n : Nat) : ∀ l, FLl g' n l = FLl g n l
  | 0 => rfl
  | l + 1 => by
    unfold FLl FLl1
    rw [GS.fll h n l, h.1, h.ring]
theorem GS.fl (h : GS g g') (n : Nat) : FL g' n = FL g n := by
  unfold FL
  rw [h.flw, h.fll]
theorem GS.arvE (h : GS g g') {dl dl' : Nat → Int32} (hn : n ≤ 30) (hd : ∀ l, l < n → dl' l = dl l) : ∀ (f w : Nat), arv g' n dl' f w = arv g n dl f w
  | 0, _ => rfl
  | f + 1, w => by
    unfold arv
    rw [h.drv]
    rcases S_drv_spec (g := g) (n := n) (w := w) with ⟨e, -⟩ | ⟨q, hq, e, -, -⟩
    · rw [if_pos e, if_pos e]
    · have hp : pinB g' q = pinB g q ∧ pinC g' q = pinC g q := by
        unfold pinB pinC
        rw [h.2.2.1, h.2.2.2.1, h.2.2.2.2]
        exact ⟨rfl, rfl⟩
      rw [e, cl_nI (by omega), h.1, h.ring, h.2.2.1, hd q hq, hp.1, hp.2, GS.arvE h hn hd f, GS.arvE h hn hd f, GS.arvE h hn hd f]
theorem GS.ar (h : GS g g') {dl dl' : Nat → Int32} (hn : n ≤ 30) (hd : ∀ l, l < n → dl' l = dl l) (w : Nat) : AR g' n dl' w = AR g n dl w := h.arvE hn hd 24 w
theorem GS.ci (h : GS g g') {m : Mem} (hi : CI_ m g n n) : CI_ m g' n n := fun q hq => by rw [h.1, h.ring]; exact hi q hq
/-- the circuit as the class holds it, with other delays and windows -/
theorem GS.cc (h : GS g g') {m m' : Mem} (hcc : CC m g n) (hm : ∀ i, 2 ≤ i → i ≤ 13 → i ≠ 8 → i ≠ 9 → i ≠ 10 → m' i = m i) (h8 : ∀ l, l < n → m' 8 l = g' 53 l) (h9 : ∀ l, l < n → m' 9 l = g' 54 l) (h10 : ∀ l, l < n → m' 10 l = g' 55 l) : CC m' g' n := by
  obtain ⟨a1, a2, a3, a4, a5, a6⟩ := hcc
  refine ⟨a1, by rw [hm 2 (by omega) (by omega) (by omega) (by omega) (by omega)]; exact a2, fun l hl => ?_, fun w hw i hi => ?_, fun w hw => ?_, fun w hw => ?_⟩
  · obtain ⟨b1, b2, b3, b4, b5, b6⟩ := a3 l hl
    unfold CL
    rw [hm 4 (by omega) (by omega) (by omega) (by omega) (by omega), hm 5 (by omega) (by omega) (by omega) (by omega) (by omega), hm 3 (by omega) (by omega) (by omega) (by omega) (by omega), hm 6 (by omega) (by omega) (by omega) (by omega) (by omega), hm 7 (by omega) (by omega) (by omega) (by omega) (by omega), h.1, h.2.1, h.2.2.1, h.2.2.2.1, h.2.2.2.2]
    exact ⟨b1, b2, h8 l hl, h9 l hl, h10 l hl, b6⟩
  · rw [hm 11 (by omega) (by omega) (by omega) (by omega) (by omega), h.uses]; exact a4 w hw i hi
  · rw [hm 12 (by omega) (by omega) (by omega) (by omega) (by omega), h.ndr]; exact a5 w hw
  · rw [hm 13 (by omega) (by omega) (by omega) (by omega) (by omega), h.drv]; exact a6 w hw
end GSS
theorem GS.up {g : Mem} {i l : Nat} {v : Int32} (hi : i < 48 ∨ 52 < i) : GS g (up2 g i l v) := by
  unfold GS up2
  rw [up_ne (by omega), up_ne (by omega), up_ne (by omega), up_ne (by omega), up_ne (by omega)]
  exact ⟨rfl, rfl, rfl, rfl, rfl⟩
theorem GS.trans {a b c : Mem} (h1 : GS a b) (h2 : GS b c) : GS a c := ⟨h2.1.trans h1.1, h2.2.1.trans h1.2.1, h2.2.2.1.trans h1.2.2.1, h2.2.2.2.1.trans h1.2.2.2.1, h2.2.2.2.2.trans h1.2.2.2.2⟩
