/-! bits, and the class's circuit against the reference's -/
def bt (x : Int32) (i : Nat) : Bool := x.toBitVec.getLsbD i
theorem sh1 : ∀ l, l < 32 → ((1 : Int32) <<< (nI l &&& 31)).toBitVec = BitVec.twoPow 32 l := by decide
theorem two_ne : ∀ l, l < 32 → ¬ (BitVec.twoPow 32 l = 0#32) := by decide
theorem bt_test {x : Int32} {l : Nat} (hl : l < 32) : (x &&& ((1 : Int32) <<< (nI l &&& 31))) = 0 ↔ bt x l = false := by
  rw [← Int32.toBitVec_inj, Int32.toBitVec_and, sh1 l hl, BitVec.and_twoPow]
  unfold bt
  cases h : x.toBitVec.getLsbD l
  · simp
  · simp only [if_true]
    exact ⟨fun e => absurd e (two_ne l hl), fun e => by cases e⟩
theorem bt_or {x y : Int32} {i : Nat} : bt (x ||| y) i = (bt x i || bt y i) := by
  unfold bt
  rw [Int32.toBitVec_or, BitVec.getLsbD_or]
theorem bt_and {x y : Int32} {i : Nat} : bt (x &&& y) i = (bt x i && bt y i) := by
  unfold bt
  rw [Int32.toBitVec_and, BitVec.getLsbD_and]
theorem bt_one {l i : Nat} (hl : l < 32) : bt ((1 : Int32) <<< (nI l &&& 31)) i = decide (l = i) := by
  unfold bt
  rw [sh1 l hl, BitVec.getLsbD_twoPow]
  simp [hl]
theorem bt_zero {x : Int32} : x = 0 ↔ ∀ i, i < 32 → bt x i = false := by
  rw [← Int32.toBitVec_inj]
  constructor
  · intro h i _
    unfold bt; rw [h]; exact BitVec.getLsbD_zero
  · intro h
    refine BitVec.eq_of_getLsbD_eq fun i hi => ?_
    have := h i hi
    unfold bt at this
    rw [this]; exact BitVec.getLsbD_zero.symm
/-- how many of the lines below n drive w -/
def S_ndr (g : Mem) (w : Nat) : Nat → Nat
  | 0 => 0
  | n + 1 => S_ndr g w n + (if g 49 n = nI w then 1 else 0)
def CL (m g : Mem) (l : Nat) : Prop := m 4 l = g 49 l ∧ m 5 l = g 50 l ∧ m 8 l = g 53 l ∧ m 9 l = g 54 l ∧ m 10 l = g 55 l ∧
  ((g 48 l = -1 ∧ m 3 l = 8 ∧ m 6 l = -1 ∧ m 7 l = -1) ∨ (g 48 l = -2 ∧ m 3 l = 9 ∧ m 6 l = g 51 l ∧ m 7 l = g 52 l) ∨
   (∃ k : Nat, k < 8 ∧ g 48 l = nI k ∧ m 3 l = nI k ∧ m 6 l = (if 2 ≤ k then g 51 l else g 50 l) ∧ m 7 l = (if k = 7 then g 52 l else g 50 l)))
def CC (m g : Mem) (n : Nat) : Prop := n ≤ 30 ∧ m 2 11 = nI n ∧ (∀ l, l < n → CL m g l) ∧ (∀ w, w < 24 → ∀ i, i < 32 → (bt (m 11 w) i = true ↔ (i < n ∧ S_uses g i w))) ∧
  (∀ w, w < 24 → m 12 w = nI (S_ndr g w n)) ∧ (∀ w, w < 24 → m 13 w = S_drv g n w)
theorem CC.same {m m' g : Mem} {n : Nat} (h : CC m g n) (hm : ∀ i, 2 ≤ i → i ≤ 13 → m' i = m i) : CC m' g n := by
  obtain ⟨h1, h2, h3, h4, h5, h6⟩ := h
  unfold CC CL
  rw [hm 2 (by omega) (by omega), hm 3 (by omega) (by omega), hm 4 (by omega) (by omega), hm 5 (by omega) (by omega), hm 6 (by omega) (by omega), hm 7 (by omega) (by omega), hm 8 (by omega) (by omega), hm 9 (by omega) (by omega), hm 10 (by omega) (by omega), hm 11 (by omega) (by omega), hm 12 (by omega) (by omega), hm 13 (by omega) (by omega)]
  exact ⟨h1, h2, h3, h4, h5, h6⟩
theorem CC.fr {m m' g : Mem} {n r : Nat} (h : CC m g n) (hr : 23 ≤ r) (hm : FR r m m') : CC m' g n := h.same fun i h1 h2 => hm i (Or.inl (by omega))
/-- the values of a row -/
def VR (ρ : Rw) : Prop := (∀ w, w < 24 → isV (ρ (6 + w))) ∧ ∀ l, l < 30 → (ρ (102 + l) = -1 ∨ isV (ρ (102 + l)))
theorem VR.val {ρ : Rw} {x : Int32} (h : VR ρ) (hx : isW x) : isV (S_val ρ x) := by
  obtain ⟨w, hw, rfl⟩ := hx
  rw [S_val, cl_nI (by omega)]; exact h.1 w hw
theorem isV_not {a : Int32} (h : isV a) : isV (S_not a) := by
  rcases h with rfl | rfl | rfl
  · exact Or.inr (Or.inl (by decide))
  · exact Or.inl (by decide)
  · exact Or.inr (Or.inr (by decide))
theorem isV_and {a b : Int32} (ha : isV a) (hb : isV b) : isV (S_and a b) := by
  unfold S_and
  repeat' split
  · exact Or.inl rfl
  · exact Or.inr (Or.inl rfl)
  · exact Or.inr (Or.inr rfl)
theorem isV0 : isV 0 := Or.inl rfl
theorem isV2 : isV 2 := Or.inr (Or.inr rfl)
theorem isV_work {k a b c : Int32} (ha : isV a) (hb : isV b) (hc : isV c) : isV (S_work k a b c) := by
  unfold S_work
  repeat' split
  all_goals first | assumption | exact isV_not ha | exact isV_and ha hb | exact isV_not (isV_and (isV_not ha) (isV_not hb)) | exact isV_not (isV_and ha hb) | exact isV_and (isV_not ha) (isV_not hb) | exact isV0 | exact isV2 | exact Or.inr (Or.inl rfl)
theorem VR.upd_out {ρ : Rw} {i : Nat} {v : Int32} (h : VR ρ) (hi : (i < 6 ∨ 30 ≤ i) ∧ (i < 102 ∨ 132 ≤ i)) : VR (upd ρ i v) :=
  ⟨fun w hw => by rw [upd_ne (by omega)]; exact h.1 w hw, fun l hl => by rw [upd_ne (by omega)]; exact h.2 l hl⟩
theorem VR.upd_pend {ρ : Rw} {l : Nat} {v : Int32} (h : VR ρ) (hv : v = -1 ∨ isV v) : VR (upd ρ (102 + l) v) := by
  refine ⟨fun w hw => by rw [upd_ne (by omega)]; exact h.1 w hw, fun q hq => ?_⟩
  by_cases e : q = l
  · subst e; rw [upd_same]; exact hv
  · rw [upd_ne (by omega)]; exact h.2 q hq
theorem VR.pend {g : Mem} {ρ : Rw} {l : Nat} {v : Int32} (h : VR ρ) (hl : l < 30) (hv : isV v) : VR (S_pend g ρ l v) := by
  unfold S_pend
  exact VR.upd_out (VR.upd_out (VR.upd_out (h.upd_pend (Or.inr hv)) (by omega)) (by omega)) (by omega)
theorem VR.haz {ρ : Rw} {c w : Int32} (h : VR ρ) : VR (S_haz ρ c w) := by
  unfold S_haz
  split
  · exact h
  · exact VR.upd_out (VR.upd_out (VR.upd_out (VR.upd_out h (by omega)) (by omega)) (by omega)) (by omega)
theorem VR.begin {ρ : Rw} (h : VR ρ) : VR (S_begin ρ) :=
  ⟨fun w hw => by rw [S_begin_lo (by omega)]; exact h.1 w hw, fun l hl => by rw [S_begin_lo (by omega)]; exact h.2 l hl⟩
theorem WFl.v52 {g : Mem} {ρ : Rw} {l : Nat} (h : VR ρ) (hw : WFl g l) : ∀ x : Int32, (isW0 x) → isV (S_val ρ x) := by
  intro x hx
  rcases hx with rfl | hx
  · rw [S_val, show cl (-1) = 0 by decide]; exact h.1 0 (by omega)
  · exact h.val hx
theorem WFl.w0 {g : Mem} {l : Nat} (hw : WFl g l) : isW0 (g 50 l) ∧ isW0 (g 51 l) ∧ isW0 (g 52 l) := by
  rcases hw.2 with h | h | ⟨k, hk, e, h1, h2, h3⟩
  · exact ⟨Or.inl h.2.1, Or.inl h.2.2.1, Or.inl h.2.2.2.1⟩
  · exact ⟨Or.inr h.2.1, Or.inr h.2.2.1, h.2.2.2⟩
  · refine ⟨Or.inr h1, ?_, ?_⟩
    · split at h2
      · exact Or.inr h2
      · exact Or.inl h2
    · split at h3
      · exact Or.inr h3
      · exact Or.inl h3
theorem VR.reckon {g : Mem} {ρ : Rw} {l : Nat} (h : VR ρ) (hw : WFl g l) : isV (S_reckon g ρ l) := by
  obtain ⟨a, b, c⟩ := hw.w0
  unfold S_reckon
  refine isV_work (WFl.v52 h hw _ a) ?_ (WFl.v52 h hw _ c)
  split
  · exact isV0
  · exact WFl.v52 h hw _ b
theorem VR.gate {g : Mem} {ρ : Rw} {l : Nat} (h : VR ρ) (hl : l < 30) (hw : WFl g l) : VR (S_gate g ρ l) := by
  have hv := h.reckon hw
  have h1 : VR (S_gate1 ρ l (S_reckon g ρ l)) := by
    unfold S_gate1
    split
    · exact h
    · exact VR.upd_out (h.upd_pend (Or.inl rfl)) (by omega)
  unfold S_gate S_gate2
  split
  · exact h1.pend hl hv
  · exact h1
theorem VR.reg1 {g : Mem} {ρ : Rw} {l w : Nat} (h : VR ρ) (hl : l < 30) : VR (S_reg1 g ρ l w) := by
  unfold S_reg1
  split
  · exact h.pend hl isV0
  · exact h
theorem VR.reg2r {g : Mem} {ρ : Rw} {l : Nat} (h : VR ρ) (hl : l < 30) (hw : WFl g l) : VR (S_reg2r g ρ l) := by
  unfold S_reg2r S_rise
  split
  · exact VR.pend (VR.upd_out h.haz (by omega)) hl isV2
  · exact VR.pend (VR.upd_out h (by omega)) hl (WFl.v52 h hw _ hw.w0.1)
theorem VR.reg2 {g : Mem} {ρ : Rw} {l w : Nat} {was : Int32} (h : VR ρ) (hl : l < 30) (hw : WFl g l) : VR (S_reg2 g ρ l w was) := by
  unfold S_reg2
  split
  · exact h.reg2r hl hw
  · exact h
theorem VR.reg3 {g : Mem} {ρ : Rw} {l w : Nat} (h : VR ρ) (hl : l < 30) : VR (S_reg3 g ρ l w) := by
  unfold S_reg3
  split
  · exact VR.pend h.haz hl isV2
  · exact h
theorem VR.reg {g : Mem} {ρ : Rw} {l w : Nat} {was : Int32} (h : VR ρ) (hl : l < 30) (hw : WFl g l) : VR (S_reg g ρ l w was) := ((h.reg1 hl).reg2 hl hw).reg3 hl
theorem VR.ask1 {g : Mem} {ρ : Rw} {l w : Nat} {was : Int32} (h : VR ρ) (hl : l < 30) (hw : WFl g l) : VR (S_ask1 g w was l ρ) := by
  unfold S_ask1
  split
  · split
    · exact h.reg hl hw
    · exact h.gate hl hw
  · exact h
theorem VR.ask {g : Mem} {w n : Nat} {was : Int32} (hn : n ≤ 30) (hwf : ∀ l, l < n → WFl g l) : ∀ (r l : Nat) {ρ : Rw}, l + r = n → VR ρ → VR (S_ask g w was r l ρ)
  | 0, _, _, _, h => h
  | r + 1, l, _, hl, h => VR.ask hn hwf r (l + 1) (by omega) (h.ask1 (by omega) (hwf l (by omega)))
theorem VR.chg0 {ρ : Rw} {w : Nat} {v : Int32} (h : VR ρ) (hw : w < 24) (hv : isV v) : VR (S_chg0 w v ρ) := by
  have h1 : VR (upd ρ (6 + w) v) := by
    refine ⟨fun x hx => ?_, fun l hl => by rw [upd_ne (by omega)]; exact h.2 l hl⟩
    by_cases e : x = w
    · subst e; rw [upd_same]; exact hv
    · rw [upd_ne (by omega)]; exact h.1 x hx
  unfold S_chg0
  exact VR.upd_out (VR.upd_out (VR.upd_out h1 (by omega)) (by omega)) (by omega)
theorem VR.change {g : Mem} {ρ : Rw} {n w : Nat} {v : Int32} (hn : n ≤ 30) (hwf : ∀ l, l < n → WFl g l) (h : VR ρ) (hw : w < 24) (hv : isV v) : VR (S_change g n w v ρ) := VR.ask hn hwf n 0 (by omega) (h.chg0 hw hv)
theorem VR.come {g : Mem} {ρ : Rw} {n l : Nat} (hn : n ≤ 30) (hwf : ∀ l, l < n → WFl g l) (h : VR ρ) (hl : l < n) (hp : ¬ ρ (102 + l) = -1) : VR (S_come g n l ρ) := by
  have h1 : VR (upd (upd ρ (102 + l) (-1)) 0 (ρ (132 + l))) := VR.upd_out (h.upd_pend (Or.inl rfl)) (by omega)
  unfold S_come
  split
  · exact h1
  · exact VR.change hn hwf h1 (hwf l hl).1.cl.2 ((h.2 l (by omega)).resolve_left hp)
theorem VR.give {ρ : Rw} {n : Nat} (h : VR ρ) (hn : n ≤ 30) : VR (S_give n ρ) := by
  refine ⟨fun w hw => by rw [S_give_lo hn (by omega)]; exact h.1 w hw, fun l hl => ?_⟩
  rw [S_give, S_giveL_at]
  split
  · exact Or.inl rfl
  · exact h.2 l hl
theorem VR.passL {g : Mem} {n : Nat} {u : Int32} (hn : n ≤ 30) (hwf : ∀ l, l < n → WFl g l) : ∀ (r : Nat) {ρ : Rw}, VR ρ → VR (S_passL g n u r ρ)
  | 0, ρ, h => by
    unfold S_passL
    split
    · exact h
    · exact VR.give (VR.upd_out h (by omega)) hn
  | r + 1, ρ, h => by
    unfold S_passL
    split
    · exact h
    · rename_i hh
      obtain ⟨q, hq, eq, hp⟩ := (S_next_spec (n := n) (ρ := ρ)).resolve_left (fun e => hh (Or.inl e))
      rw [eq, cl_nI (by omega)]
      exact VR.passL hn hwf r (h.come hn hwf hq hp)
theorem VR.hz1 {g : Mem} {ρ : Rw} {n w : Nat} (h : VR ρ) : VR (S_hz1 g n ρ w) := by
  unfold S_hz1
  repeat' split
  all_goals first | exact h | exact h.haz
theorem VR.hzL {g : Mem} {n : Nat} : ∀ (r w : Nat) {ρ : Rw}, VR ρ → VR (S_hzL g n r w ρ)
  | 0, _, _, h => h
  | r + 1, w, _, h => VR.hzL r (w + 1) h.hz1
theorem VR.settle {g : Mem} {ρ : Rw} {n : Nat} (hn : n ≤ 30) (hwf : ∀ l, l < n → WFl g l) (h : VR ρ) : VR (S_settle g n ρ) := (VR.hzL 24 0 (VR.passL hn hwf 300 h)).begin
