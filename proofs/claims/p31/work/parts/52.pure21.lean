/-! a line is added -/
def gadd (g : Mem) (n : Nat) (k w a b c d : Int32) : Mem := up2 (up2 (up2 (up2 (up2 (up2 g 48 n k) 49 n w) 50 n a) 51 n b) 52 n c) 53 n d
section GA
variable {g : Mem} {n : Nat} {k w a b c d : Int32}
theorem ga48 (l : Nat) : gadd g n k w a b c d 48 l = if l = n then k else g 48 l := by simp (disch := omega) only [gadd, up2, up_ne, up_same, upd]
theorem ga49 (l : Nat) : gadd g n k w a b c d 49 l = if l = n then w else g 49 l := by simp (disch := omega) only [gadd, up2, up_ne, up_same, upd]
theorem ga50 (l : Nat) : gadd g n k w a b c d 50 l = if l = n then a else g 50 l := by simp (disch := omega) only [gadd, up2, up_ne, up_same, upd]
theorem ga51 (l : Nat) : gadd g n k w a b c d 51 l = if l = n then b else g 51 l := by simp (disch := omega) only [gadd, up2, up_ne, up_same, upd]
theorem ga52 (l : Nat) : gadd g n k w a b c d 52 l = if l = n then c else g 52 l := by simp (disch := omega) only [gadd, up2, up_ne, up_same, upd]
theorem ga53 (l : Nat) : gadd g n k w a b c d 53 l = if l = n then d else g 53 l := by simp (disch := omega) only [gadd, up2, up_ne, up_same, upd]
theorem ga54 : gadd g n k w a b c d 54 = g 54 := by simp (disch := omega) only [gadd, up2, up_ne]
theorem ga55 : gadd g n k w a b c d 55 = g 55 := by simp (disch := omega) only [gadd, up2, up_ne]
theorem ga_uses {l : Nat} (hl : ¬ l = n) (x : Nat) : S_uses (gadd g n k w a b c d) l x ↔ S_uses g l x := by
  unfold S_uses; rw [ga50, ga51, ga52, if_neg hl, if_neg hl, if_neg hl]
theorem ga_uses_n (x : Nat) : S_uses (gadd g n k w a b c d) n x ↔ (a = nI x ∨ b = nI x ∨ c = nI x) := by
  unfold S_uses; rw [ga50, ga51, ga52, if_pos rfl, if_pos rfl, if_pos rfl]
theorem ga_ndr {x : Nat} : ∀ j, j ≤ n → S_ndr (gadd g n k w a b c d) x j = S_ndr g x j
  | 0, _ => rfl
  | j + 1, h => by unfold S_ndr; rw [ga_ndr j (by omega), ga49, if_neg (show ¬ j = n by omega)]
theorem ga_drvL {x : Int32} (hn : n ≤ 30) : ∀ (r l : Nat), l + r = n → S_drvL (gadd g n k w a b c d) x (r + 1) l = (if S_drvL g x r l = -1 then (if w = x then nI n else -1) else S_drvL g x r l)
  | 0, l, h => by
    have e : l = n := by omega
    subst e
    unfold S_drvL
    rw [ga49, if_pos rfl]
    show _ = (if (-1 : Int32) = -1 then _ else _)
    rw [if_pos rfl]; rfl
  | r + 1, l, h => by
    have ih := ga_drvL (x := x) hn r (l + 1) (by omega)
    unfold S_drvL
    rw [ga49, if_neg (show ¬ l = n by omega), ih]
    by_cases e : g 49 l = x
    · simp only [if_pos e]
      rw [if_neg (nI_m1 (show l < 2 ^ 31 by omega))]
    · simp only [if_neg e]
theorem ndr_drv {x : Nat} : ∀ (j : Nat), (S_ndr g x j = 0 ↔ ∀ l, l < j → ¬ g 49 l = nI x)
  | 0 => ⟨fun _ l h => by omega, fun _ => rfl⟩
  | j + 1 => by
    have ih := ndr_drv (x := x) j
    unfold S_ndr
    constructor
    · intro h l hl e
      by_cases e2 : l = j
      · subst e2; rw [if_pos e] at h; omega
      · exact ih.mp (by omega) l (by omega) e
    · intro h
      rw [if_neg (h j (by omega)), ih.mpr fun l hl => h l (by omega)]
theorem drv_0 {x : Nat} (hn : n ≤ 30) : S_drv g n x = -1 ↔ S_ndr g x n = 0 := by
  rw [ndr_drv]
  rcases S_drv_spec (g := g) (n := n) (w := x) with ⟨e, h⟩ | ⟨q, hq, e, eq, -⟩
  · exact ⟨fun _ => h, fun _ => e⟩
  · rw [e]
    exact ⟨fun h => absurd h (nI_m1 (by omega)), fun h => absurd eq (h q hq)⟩
end GA
section CAd
variable {m g : Mem} {n : Nat}
theorem s_C_noteUse {x : Int32} {K : Mem → Prop} (hn : n < 30) (hx : isW0 x) (hK : ∀ m', (∀ i, i ≠ 11 → m' i = m i) → (∀ w, w < 24 → ∀ i, i < 32 → (bt (m' 11 w) i = true ↔ (bt (m 11 w) i = true ∨ (x = nI w ∧ i = n)))) → K m') : w_C_noteUse (nI n) x m K := by
  unfold w_C_noteUse
  rcases hx with rfl | ⟨v, hv, rfl⟩
  · unfold w_N_isWire
    refine ⟨fun _ => ⟨fun _ => hK m (fun _ _ => rfl) fun w hw i hi => ⟨Or.inl, fun h => h.elim id fun h => absurd h.1.symm (nI_m1 (by omega))⟩, fun h => absurd rfl h⟩, fun h => absurd (show (-1 : Int32) < 0 by decide) h⟩
  · refine s_N_isWire hv ⟨fun e => absurd e (by decide), fun _ => ⟨vp_in_nI hv (by decide), vp_in_nI hv (by decide), ?_⟩⟩
    rw [nI_clamp (by omega)]
    intro m4 e4
    refine hK m4 (fun i hi => by rw [e4]; unfold up2; rw [up_ne hi]) fun w hw i hi => ?_
    rw [e4]; unfold up2; rw [up_same]
    by_cases e : w = v
    · subst e
      rw [upd_same, bt_or, Bool.or_eq_true, bt_one (by omega), decide_eq_true_eq]
      exact ⟨fun h => h.imp id fun h => ⟨rfl, h.symm⟩, fun h => h.imp id fun h => h.2.symm⟩
    · rw [upd_ne e]
      exact ⟨Or.inl, fun h => h.elim id fun h => absurd ((nI_eq (by omega) (by omega)).mp h.1).symm e⟩
theorem s_C_add {w : Nat} {k a b c d : Int32} {K : Int32 → Mem → Prop} (hcc : CC m g n) (hn : n < 30) (hw : w < 24) (ha : isW0 a) (hb : isW0 b) (hc : isW0 c)
    (hK : ∀ m', (∀ i, (i < 2 ∨ 13 < i ∨ i = 9 ∨ i = 10) → m' i = m i) → m' 2 11 = nI (n + 1) → m' 3 = upd (m 3) n k → m' 4 = upd (m 4) n (nI w) → m' 5 = upd (m 5) n a → m' 6 = upd (m 6) n b → m' 7 = upd (m 7) n c → m' 8 = upd (m 8) n d →
      (∀ x, x < 24 → ∀ i, i < 32 → (bt (m' 11 x) i = true ↔ (bt (m 11 x) i = true ∨ ((a = nI x ∨ b = nI x ∨ c = nI x) ∧ i = n)))) → m' 12 = upd (m 12) w (nI (S_ndr g w n + 1)) → m' 13 = (if S_ndr g w n = 0 then upd (m 13) w (nI n) else m 13) → K (nI n) m') : w_C_add k (nI w) a b c d m K := by
  have hin : vp_in (nI n) 30 := vp_in_nI hn (by decide)
  have hinw : vp_in (nI w) 24 := vp_in_nI hw (by decide)
  have hnd := S_ndr_le g w n
  unfold w_C_add
  rw [hcc.2.1]
  refine ⟨fun h => absurd ((nI_le30 (by omega)).mp h) (by omega), fun _ => s_N_isWire hw ⟨fun _ => ?_, fun e => absurd e (by decide)⟩⟩
  rw [hcc.2.1, nI_clamp (show n < 2 ^ 31 by omega)]
  refine ⟨hin, ?_⟩
  intro m5 e5
  refine ⟨hin, ?_⟩
  intro m6 e6
  refine ⟨hin, ?_⟩
  intro m7 e7
  refine ⟨hin, ?_⟩
  intro m8 e8
  refine ⟨hin, ?_⟩
  intro m9 e9
  refine ⟨hin, ?_⟩
  intro m10 e10
  refine s_C_noteUse hn ha fun m11 f11 b11 => s_C_noteUse hn hb fun m12 f12 b12 => s_C_noteUse hn hc fun m13 f13 b13 => ⟨hinw, ?_⟩
  have o : ∀ i, i ≠ 11 → m13 i = m10 i := fun i hi => (f13 i hi).trans ((f12 i hi).trans (f11 i hi))
  have e11 : m10 11 = m 11 := by rw [e10, e9, e8, e7, e6, e5]; simp (disch := omega) only [up2, up_ne]
  have bits : ∀ x, x < 24 → ∀ i, i < 32 → (bt (m13 11 x) i = true ↔ (bt (m 11 x) i = true ∨ ((a = nI x ∨ b = nI x ∨ c = nI x) ∧ i = n))) := by
    intro x hx i hi
    rw [b13 x hx i hi, b12 x hx i hi, b11 x hx i hi, e11]
    constructor
    · rintro (((h | h) | h) | h)
      · exact Or.inl h
      · exact Or.inr ⟨Or.inl h.1, h.2⟩
      · exact Or.inr ⟨Or.inr (Or.inl h.1), h.2⟩
      · exact Or.inr ⟨Or.inr (Or.inr h.1), h.2⟩
    · rintro (h | ⟨h | h | h, h2⟩)
      · exact Or.inl (Or.inl (Or.inl h))
      · exact Or.inl (Or.inl (Or.inr ⟨h, h2⟩))
      · exact Or.inl (Or.inr ⟨h, h2⟩)
      · exact Or.inr ⟨h, h2⟩
  have e12 : m13 12 = m 12 := by rw [o 12 (by omega), e10, e9, e8, e7, e6, e5]; simp (disch := omega) only [up2, up_ne]
  have e13 : m13 13 = m 13 := by rw [o 13 (by omega), e10, e9, e8, e7, e6, e5]; simp (disch := omega) only [up2, up_ne]
  have e2 : m13 2 = m 2 := by rw [o 2 (by omega), e10, e9, e8, e7, e6, e5]; simp (disch := omega) only [up2, up_ne]
  rw [nI_clamp (show w < 2 ^ 31 by omega)]
  intro J hJ
  have key : ∀ m14 : Mem, (∀ i, i ≠ 13 → m14 i = m13 i) → m14 13 = (if S_ndr g w n = 0 then upd (m 13) w (nI n) else m 13) → J m14 := by
    intro m14 o14 h13
    refine hJ _ ⟨hinw, hinw, ?_⟩
    intro m18 e18 m19 e19
    have q12 : m14 12 w = nI (S_ndr g w n) := by rw [o14 12 (by omega), e12]; exact hcc.2.2.2.2.1 w hw
    rw [q12, nA1] at e18
    have q2 : m18 2 11 = nI n := by rw [e18]; simp (disch := omega) only [up2, up_ne]; rw [o14 2 (by omega), e2]; exact hcc.2.1
    rw [q2, nA1] at e19
    refine hK m19 (fun i hi => ?_) ?_ ?_ ?_ ?_ ?_ ?_ ?_ (fun x hx i hi => ?_) ?_ ?_
    · rw [e19, e18]; simp (disch := omega) only [up2, up_ne]; rw [o14 i (by omega), o i (by omega), e10, e9, e8, e7, e6, e5]; simp (disch := omega) only [up2, up_ne]
    · rw [e19]; simp only [up2, up_same, upd_same]
    · rw [e19, e18]; simp (disch := omega) only [up2, up_ne]; rw [o14 3 (by omega), o 3 (by omega), e10, e9, e8, e7, e6, e5]; simp (disch := omega) only [up2, up_ne, up_same]
    · rw [e19, e18]; simp (disch := omega) only [up2, up_ne]; rw [o14 4 (by omega), o 4 (by omega), e10, e9, e8, e7, e6, e5]; simp (disch := omega) only [up2, up_ne, up_same]
    · rw [e19, e18]; simp (disch := omega) only [up2, up_ne]; rw [o14 5 (by omega), o 5 (by omega), e10, e9, e8, e7, e6, e5]; simp (disch := omega) only [up2, up_ne, up_same]
    · rw [e19, e18]; simp (disch := omega) only [up2, up_ne]; rw [o14 6 (by omega), o 6 (by omega), e10, e9, e8, e7, e6, e5]; simp (disch := omega) only [up2, up_ne, up_same]
    · rw [e19, e18]; simp (disch := omega) only [up2, up_ne]; rw [o14 7 (by omega), o 7 (by omega), e10, e9, e8, e7, e6, e5]; simp (disch := omega) only [up2, up_ne, up_same]
    · rw [e19, e18]; simp (disch := omega) only [up2, up_ne]; rw [o14 8 (by omega), o 8 (by omega), e10, e9, e8, e7, e6, e5]; simp (disch := omega) only [up2, up_ne, up_same]
    · have : m19 11 = m13 11 := by rw [e19, e18]; simp (disch := omega) only [up2, up_ne]; exact o14 11 (by omega)
      rw [this]; exact bits x hx i hi
    · rw [e19, e18]; simp (disch := omega) only [up2, up_ne, up_same]; rw [o14 12 (by omega), e12]
    · rw [e19, e18]; simp (disch := omega) only [up2, up_ne]; exact h13
  rw [e12, hcc.2.2.2.2.1 w hw]
  refine ⟨fun ne => key m13 (fun _ _ => rfl) ?_, fun e0 => ⟨hinw, ?_⟩⟩
  · rw [if_neg (fun h => ne (by rw [h]; rfl))]; exact e13
  · intro m17 e17
    refine key m17 (fun i hi => by rw [e17]; unfold up2; rw [up_ne hi]) ?_
    rw [if_pos ((nI_eq (b := 0) (by omega) (by decide)).mp e0), e17]; unfold up2; rw [up_same, e13]
end CAd
