/-! the flaws, as a list -/
def S_nus (g : Mem) (w : Nat) : Nat → Nat
  | 0 => 0
  | n + 1 => S_nus g w n + (if g 50 n = nI w ∨ g 51 n = nI w ∨ g 52 n = nI w then 1 else 0)
theorem S_ndr_le (g : Mem) (w : Nat) : ∀ n, S_ndr g w n ≤ n
  | 0 => Nat.le_refl _
  | n + 1 => by have := S_ndr_le g w n; unfold S_ndr; split <;> omega
theorem S_nus_le (g : Mem) (w : Nat) : ∀ n, S_nus g w n ≤ n
  | 0 => Nat.le_refl _
  | n + 1 => by have := S_nus_le g w n; unfold S_nus; split <;> omega
theorem S_nus_0 (g : Mem) (w : Nat) : ∀ n, S_nus g w n = 0 ↔ ∀ l, l < n → ¬ S_uses g l w
  | 0 => ⟨fun _ l h => by omega, fun _ => rfl⟩
  | n + 1 => by
    unfold S_nus
    have ih := S_nus_0 g w n
    constructor
    · intro h l hl hu
      by_cases e : l = n
      · subst e; rw [if_pos (show g 50 l = nI w ∨ g 51 l = nI w ∨ g 52 l = nI w from hu)] at h; omega
      · exact ih.mp (by omega) l (by omega) hu
    · intro h
      rw [if_neg (show ¬ (g 50 n = nI w ∨ g 51 n = nI w ∨ g 52 n = nI w) from h n (by omega)), ih.mpr fun l hl => h l (by omega)]
def FLw1 (g : Mem) (n w : Nat) : List (Int32 × Int32) := if 1 < S_ndr g w n then [(1, nI w)] else if S_ndr g w n = 0 ∧ 0 < S_nus g w n then [(2, nI w)] else []
def FLw (g : Mem) (n : Nat) : Nat → List (Int32 × Int32)
  | 0 => []
  | w + 1 => FLw g n w ++ FLw1 g n w
def FLl1 (g : Mem) (n l : Nat) : List (Int32 × Int32) := if ¬ g 48 l < 0 ∧ ringB g n l = true then [(3, nI l)] else []
def FLl (g : Mem) (n : Nat) : Nat → List (Int32 × Int32)
  | 0 => []
  | l + 1 => FLl g n l ++ FLl1 g n l
def FL (g : Mem) (n : Nat) : List (Int32 × Int32) := FLw g n 24 ++ FLl g n n
theorem FLw1_le {g : Mem} {n w : Nat} : (FLw1 g n w).length ≤ 1 := by
  unfold FLw1
  repeat' split
  all_goals simp
theorem FLl1_le {g : Mem} {n w : Nat} : (FLl1 g n w).length ≤ 1 := by unfold FLl1; split <;> simp
theorem FLw_le {g : Mem} {n : Nat} : ∀ w, (FLw g n w).length ≤ w
  | 0 => Nat.le_refl _
  | w + 1 => by have h1 := FLw_le (g := g) (n := n) w; have h2 := FLw1_le (g := g) (n := n) (w := w); unfold FLw; rw [List.length_append]; omega
theorem FLl_le {g : Mem} {n : Nat} : ∀ l, (FLl g n l).length ≤ l
  | 0 => Nat.le_refl _
  | l + 1 => by have h1 := FLl_le (g := g) (n := n) l; have h2 := FLl1_le (g := g) (n := n) (w := l); unfold FLl; rw [List.length_append]; omega
/-- the class's rows hold the list L -/
def CF (m : Mem) (L : List (Int32 × Int32)) : Prop := m 14 4 = nI L.length ∧ ∀ i p, L[i]? = some p → m 15 i = p.1 ∧ m 16 i = p.2
/-- the reference's row holds the list L -/
def MF (m : Mem) (L : List (Int32 × Int32)) : Prop := m 47 12 = nI L.length ∧ ∀ i p, L[i]? = some p → m 57 (2 * i) = p.1 ∧ m 57 (2 * i + 1) = p.2
section FR2
variable {m g : Mem} {n : Nat}
theorem s_F_note {L : List (Int32 × Int32)} {c w : Int32} {K : Mem → Prop} (h : CF m L) (hL : L.length < 54) (hK : ∀ m', FX m m' → m' 18 = m 18 → m' 17 = m 17 → m' 14 5 = m 14 5 → CF m' (L ++ [(c, w)]) → K m') : w_F_note c w m K := by
  obtain ⟨h1, h2⟩ := h
  have hin : vp_in (nI L.length) 54 := vp_in_nI hL (by decide)
  unfold w_F_note
  rw [h1, nI_clamp (by omega)]
  refine ⟨fun e => absurd ((nI_leI (a := 54) (by decide) (by omega)).mp e) (by omega), fun _ => ⟨hin, ?_⟩⟩
  intro m2 e2
  have q2 : m2 14 4 = nI L.length := by rw [e2]; simp (disch := omega) only [up2, up_ne]; exact h1
  rw [q2, nI_clamp (by omega)]
  refine ⟨hin, ?_⟩
  intro m3 e3 m4 e4
  have q3 : m3 14 4 = nI L.length := by rw [e3]; simp (disch := omega) only [up2, up_ne]; exact q2
  rw [q3, nA1] at e4
  refine hK m4 ?_ ?_ ?_ ?_ ⟨?_, ?_⟩
  · rw [e4, e3, e2]; unfold up2; exact FX.up (FX.up (FX.up (FX.refl m) (by omega)) (by omega)) (by omega)
  · rw [e4, e3, e2]; simp (disch := omega) only [up2, up_ne]
  · rw [e4, e3, e2]; simp (disch := omega) only [up2, up_ne]
  · rw [e4, e3, e2]; simp (disch := omega) only [up2, up_ne, up_same, upd_ne]
  · rw [e4]; simp only [up2, up_same, upd_same, List.length_append, List.length_cons, List.length_nil, Nat.zero_add]
  · intro i p hp
    rw [e4, e3, e2]
    by_cases e : i = L.length
    · subst e
      rw [List.getElem?_append_right (Nat.le_refl _), Nat.sub_self] at hp
      cases hp
      simp (disch := omega) only [up2, up_ne, up_same, upd_same]; first | exact ⟨trivial, trivial⟩ | exact ⟨rfl, trivial⟩ | exact ⟨trivial, rfl⟩ | exact ⟨rfl, rfl⟩
    · have hlt : i < L.length := by
        have := (List.getElem?_eq_some_iff.mp hp).1
        rw [List.length_append, List.length_cons, List.length_nil] at this
        omega
      rw [List.getElem?_append_left hlt] at hp
      simp (disch := omega) only [up2, up_ne, up_same, upd_ne]
      exact h2 i p hp
theorem users_0 {w : Nat} (hcc : CC m g n) (hw : w < 24) : m 11 w = 0 ↔ S_nus g w n = 0 := by
  have hn := hcc.1
  rw [bt_zero, S_nus_0]
  constructor
  · intro h l hl hu
    have := (hcc.2.2.2.1 w hw l (by omega)).mpr ⟨hl, hu⟩
    rw [h l (by omega)] at this; cases this
  · intro h i hi
    cases hb : bt (m 11 w) i
    · rfl
    · obtain ⟨a, b⟩ := (hcc.2.2.2.1 w hw i hi).mp hb
      exact absurd b (h i a)
theorem s_F_find_7 {E : Int32 → Mem → Prop} {K : Mem → Prop} : ∀ (r w f : Nat) (m : Mem), w + r = 24 → r < f → CC m g n → CF m (FLw g n w) →
    (∀ m', FX m m' → CF m' (FLw g n 24) → E (nI 24) m') → w_F_find_7 f (nI w) m E K := by
  intro r
  induction r with
  | zero =>
    intro w f m hl hf hcc hL hE
    have e : w = 24 := by omega
    subst e
    obtain ⟨f, rfl⟩ : ∃ q, f = q + 1 := ⟨f - 1, by omega⟩
    unfold w_F_find_7
    exact ⟨fun _ => hE m (FX.refl m) hL, fun h => absurd (show (24 : Int32) ≤ nI 24 by decide) h⟩
  | succ r ih =>
    intro w f m hl hf hcc hL hE
    have hn := hcc.1
    have hw : w < 24 := by omega
    have hin : vp_in (nI w) 24 := vp_in_nI hw (by decide)
    have hd := S_ndr_le g w n
    have hlen := FLw_le (g := g) (n := n) w
    obtain ⟨f, rfl⟩ : ∃ q, f = q + 1 := ⟨f - 1, by omega⟩
    unfold w_F_find_7
    rw [nI_clamp (by omega), hcc.2.2.2.2.1 w hw]
    have go : ∀ m', FX m m' → CF m' (FLw g n w ++ FLw1 g n w) → w_F_find_7 f (nI w + 1) m' E K := by
      intro m' f' c'
      rw [nA1]
      exact ih (w + 1) f m' (by omega) (by omega) (hcc.fx f') c' fun m2 f2 c2 => hE m2 (f'.trans f2) c2
    unfold FLw1 at go
    refine ⟨fun h => absurd ((nI_le24 (by omega)).mp h) (by omega), fun _ => ⟨hin, fun h1 => ⟨hin, fun h0 => ?_, fun h0 => ⟨hin, fun hu => ?_, fun hu => ?_⟩⟩, fun h1 => ?_⟩⟩
    · have a : ¬ 1 < S_ndr g w n := fun h => by have := (nI_leI (b := 1) (by omega) (by decide)).mp h1; omega
      have b : ¬ S_ndr g w n = 0 := fun h => h0 (by rw [h]; rfl)
      rw [if_neg a, if_neg (fun h => b h.1), List.append_nil] at go
      exact go m (FX.refl m) hL
    · have b : S_ndr g w n = 0 := (nI_eq (b := 0) (by omega) (by decide)).mp h0
      have c : S_nus g w n = 0 := (users_0 hcc hw).mp hu
      rw [if_neg (by omega), if_neg (by omega), List.append_nil] at go
      exact go m (FX.refl m) hL
    · have b : S_ndr g w n = 0 := (nI_eq (b := 0) (by omega) (by decide)).mp h0
      have c : ¬ S_nus g w n = 0 := fun h => hu ((users_0 hcc hw).mpr h)
      rw [if_neg (by omega), if_pos (by omega)] at go
      exact s_F_note hL (by omega) fun m2 f2 _ _ _ c2 => go m2 f2 c2
    · have a : 1 < S_ndr g w n := by
        rcases Nat.lt_or_ge 1 (S_ndr g w n) with h | h
        · exact h
        · exact absurd ((nI_leI (b := 1) (by omega) (by decide)).mpr h) h1
      rw [if_pos a] at go
      exact s_F_note hL (by omega) fun m2 f2 _ _ _ c2 => go m2 f2 c2
/-- which lines are in rings, in the class -/
def CI_ (m g : Mem) (n l : Nat) : Prop := ∀ q, q < l → m 17 q = (if ¬ g 48 q < 0 ∧ ringB g n q = true then 1 else 0)
theorem s_C_pinsOf {l : Nat} {K : Int32 → Mem → Prop} (hcc : CC m g n) (hl : l < n) (hwf : WFl g l) (hk : ¬ g 48 l < 0) (hK : ∀ x : Int32, (∀ i, i < 32 → (bt x i = true ↔ (i < 24 ∧ S_uses g l i))) → K x m) : w_C_pinsOf (nI l) m K := by
  have hn := hcc.1
  have hin : vp_in (nI l) 30 := vp_in_nI (by omega) (by decide)
  obtain ⟨c4, c5, c8, c9, c10, cc⟩ := hcc.2.2.1 l hl
  obtain ⟨k, hk8, ek⟩ := hwf.gate hk
  have n1 : ¬ nI k = -1 := nI_m1 (by omega)
  have n2 : ¬ nI k = -2 := by
    intro e
    have := congrArg Int32.toInt e
    rw [nI_toInt (by omega), show (-2 : Int32).toInt = -2 by decide] at this
    omega
  obtain ⟨g50, g51, g52⟩ : isW (g 50 l) ∧ (if 2 ≤ k then isW (g 51 l) else g 51 l = -1) ∧ (if k = 7 then isW (g 52 l) else g 52 l = -1) := by
    rcases hwf.2 with hh | hh | ⟨k', hk', e', hh⟩
    · exact absurd (ek.symm.trans hh.1) n1
    · exact absurd (ek.symm.trans hh.1) n2
    · have : k' = k := (nI_eq (by omega) (by omega)).mp (e'.symm.trans ek)
      subst this; exact hh
  obtain ⟨c6, c7⟩ : m 6 l = (if 2 ≤ k then g 51 l else g 50 l) ∧ m 7 l = (if k = 7 then g 52 l else g 50 l) := by
    rcases cc with hh | hh | ⟨k', hk', e', hh⟩
    · exact absurd (ek.symm.trans hh.1) n1
    · exact absurd (ek.symm.trans hh.1) n2
    · have : k' = k := (nI_eq (by omega) (by omega)).mp (e'.symm.trans ek)
      subst this; exact hh.2
  obtain ⟨a, ha, ea⟩ := g50
  have hb : ∃ b, b < 24 ∧ m 6 l = nI b ∧ ∀ i, i < 24 → ((a = i ∨ b = i) ↔ (a = i ∨ g 51 l = nI i)) := by
    rw [c6]
    by_cases h2 : 2 ≤ k
    · rw [if_pos h2] at g51 ⊢
      obtain ⟨b, hb, eb⟩ := g51
      exact ⟨b, hb, eb, fun i hi => by rw [eb, nI_eq (by omega) (by omega)]⟩
    · rw [if_neg h2] at g51 ⊢
      exact ⟨a, ha, ea, fun i hi => by rw [g51]; exact ⟨fun h => Or.inl (h.elim id id), fun h => h.elim Or.inl (fun e => absurd e.symm (nI_m1 (by omega)))⟩⟩
  have hc : ∃ c, c < 24 ∧ m 7 l = nI c ∧ ∀ i, i < 24 → ((a = i ∨ c = i) ↔ (a = i ∨ g 52 l = nI i)) := by
    rw [c7]
    by_cases h2 : k = 7
    · rw [if_pos h2] at g52 ⊢
      obtain ⟨b, hb, eb⟩ := g52
      exact ⟨b, hb, eb, fun i hi => by rw [eb, nI_eq (by omega) (by omega)]⟩
    · rw [if_neg h2] at g52 ⊢
      exact ⟨a, ha, ea, fun i hi => by rw [g52]; exact ⟨fun h => Or.inl (h.elim id id), fun h => h.elim Or.inl (fun e => absurd e.symm (nI_m1 (by omega)))⟩⟩
  obtain ⟨b, hb1, hb2, hb3⟩ := hb
  obtain ⟨c, hc1, hc2, hc3⟩ := hc
  unfold w_C_pinsOf
  rw [nI_clamp (by omega), c5, ea, hb2, hc2]
  refine ⟨hin, hin, hin, hK _ fun i hi => ?_⟩
  rw [bt_or, bt_or, bt_one (by omega), bt_one (by omega), bt_one (by omega)]
  simp only [Bool.or_eq_true, decide_eq_true_eq]
  by_cases hi24 : i < 24
  · have q1 := hb3 i hi24
    have q2 := hc3 i hi24
    have q3 : g 50 l = nI i ↔ a = i := by rw [ea, nI_eq (by omega) (by omega)]
    unfold S_uses
    rw [q3]
    constructor
    · rintro ((h | h) | h)
      · exact ⟨hi24, Or.inl h⟩
      · rcases q1.mp (Or.inr h) with e | e
        · exact ⟨hi24, Or.inl e⟩
        · exact ⟨hi24, Or.inr (Or.inl e)⟩
      · rcases q2.mp (Or.inr h) with e | e
        · exact ⟨hi24, Or.inl e⟩
        · exact ⟨hi24, Or.inr (Or.inr e)⟩
    · rintro ⟨_, h | h | h⟩
      · exact Or.inl (Or.inl h)
      · rcases q1.mpr (Or.inr h) with e | e
        · exact Or.inl (Or.inl e)
        · exact Or.inl (Or.inr e)
      · rcases q2.mpr (Or.inr h) with e | e
        · exact Or.inl (Or.inl e)
        · exact Or.inr e
  · constructor
    · rintro ((h | h) | h) <;> omega
    · rintro ⟨h, _⟩; exact absurd h hi24
theorem s_F_find_85 {E : Int32 → Mem → Prop} {K : Mem → Prop} (hwf : ∀ l, l < n → WFl g l) : ∀ (r l f : Nat) (m : Mem), l + r = n → r < f → CC m g n → RM m (fun a b => rch g n a b = true) → CF m (FLw g n 24 ++ FLl g n l) → CI_ m g n l →
    (∀ m', FX m m' → m' 14 5 = m 14 5 → CF m' (FL g n) → CI_ m' g n n → E (nI n) m') → w_F_find_85 f (nI l) m E K := by
  intro r
  induction r with
  | zero =>
    intro l f m hl hf hcc hR hL hI hE
    have e : l = n := by omega
    subst e
    obtain ⟨f, rfl⟩ : ∃ q, f = q + 1 := ⟨f - 1, by omega⟩
    unfold w_F_find_85
    rw [hcc.2.1]
    exact ⟨fun _ => hE m (FX.refl m) rfl hL hI, fun h => absurd (nI_le (Nat.le_refl _) (by have := hcc.1; omega)) h⟩
  | succ r ih =>
    intro l f m hl hf hcc hR hL hI hE
    have hn := hcc.1
    have hin : vp_in (nI l) 30 := vp_in_nI (by omega) (by decide)
    have hlen := FLw_le (g := g) (n := n) 24
    have hlen2 := FLl_le (g := g) (n := n) l
    have hw := hwf l (by omega)
    obtain ⟨hw1, hw2⟩ := hw.1.cl
    obtain ⟨f, rfl⟩ : ∃ q, f = q + 1 := ⟨f - 1, by omega⟩
    have hlt : (FLw g n 24 ++ FLl g n l).length < 54 := by rw [List.length_append]; omega
    -- what comes behind the setting of inRing
    have step : ∀ (m2 : Mem) (b : Int32), m2 = up2 m 17 l b → b = (if ¬ g 48 l < 0 ∧ ringB g n l = true then 1 else 0) →
        vp_in (nI l) 30 ∧ (((m2 17 l) = 0 → w_F_find_85 f (nI l + 1) m2 E K) ∧ (¬ ((m2 17 l) = 0) → w_F_note (3 : Int32) (nI l) m2 (fun m3 => w_F_find_85 f (nI l + 1) m3 E K))) := by
      intro m2 b e2 eb
      have f2 : FX m m2 := by rw [e2]; exact FX.up (FX.refl m) (by omega)
      have q17 : m2 17 l = b := by rw [e2]; simp only [up2, up_same, upd_same]
      have r2 : RM m2 (fun a b => rch g n a b = true) := fun i hi j hj => by
        have : m2 18 = m 18 := by rw [e2]; simp (disch := omega) only [up2, up_ne]
        rw [this]; exact hR i hi j hj
      have L2 : CF m2 (FLw g n 24 ++ FLl g n l) := by
        refine ⟨?_, fun i p hp => ?_⟩
        · rw [e2]; simp (disch := omega) only [up2, up_ne]; exact hL.1
        · rw [e2]; simp (disch := omega) only [up2, up_ne]; exact hL.2 i p hp
      have I2 : CI_ m2 g n (l + 1) := by
        intro q hq
        by_cases e : q = l
        · subst e; rw [q17, eb]
        · rw [e2]; simp (disch := omega) only [up2, up_same, upd_ne]; exact hI q (by omega)
      have q145 : m2 14 5 = m 14 5 := by rw [e2]; simp (disch := omega) only [up2, up_ne]
      have go : ∀ m3, FX m2 m3 → m3 18 = m2 18 → m3 17 = m2 17 → m3 14 5 = m2 14 5 → CF m3 (FLw g n 24 ++ FLl g n l ++ FLl1 g n l) → w_F_find_85 f (nI l + 1) m3 E K := by
        intro m3 f3 a3 b3 d3 c3
        rw [nA1]
        refine ih (l + 1) f m3 (by omega) (by omega) ((hcc.fx f2).fx f3) (fun i hi j hj => by rw [a3]; exact r2 i hi j hj) ?_ (fun q hq => by rw [b3]; exact I2 q hq) fun m' f' d' c' i' => hE m' ((f2.trans f3).trans f') (d'.trans (d3.trans q145)) c' i'
        rw [List.append_assoc] at c3; exact c3
      unfold FLl1 at go
      refine ⟨hin, ?_⟩
      rw [q17, eb]
      by_cases hr : ¬ g 48 l < 0 ∧ ringB g n l = true
      · rw [if_pos hr] at go ⊢
        exact ⟨fun e => absurd e (by decide), fun _ => s_F_note L2 hlt fun m3 f3 a3 b3 d3 c3 => go m3 f3 a3 b3 d3 c3⟩
      · rw [if_neg hr, List.append_nil] at go
        rw [if_neg hr]
        exact ⟨fun _ => go m2 (FX.refl m2) rfl rfl rfl L2, fun e => absurd rfl e⟩
    unfold w_F_find_85
    rw [hcc.2.1]
    refine ⟨fun h => absurd h (nI_ge (by omega) (by omega)), fun _ => ?_⟩
    refine s_C_isGate hcc (by omega) hw (fun hk => ⟨fun e => absurd e (by decide), fun _ => ⟨hin, ?_⟩⟩) (fun hk => ⟨fun _ => ⟨hin, ?_⟩, fun e => absurd rfl e⟩)
    · rw [nI_clamp (by omega), (hcc.2.2.1 l (by omega)).1, hw1]
      unfold w_F_reachOf
      refine s_N_isWire hw2 ⟨fun e => absurd e (by decide), fun _ => ⟨vp_in_nI hw2 (by decide), ?_⟩⟩
      rw [nI_clamp (by omega)]
      refine s_C_pinsOf hcc (by omega) hw hk fun x hx => ?_
      intro J hJ
      have hzero : (m 18 (cl (g 49 l)) &&& x) = 0 ↔ ¬ ringB g n l = true := by
        rw [bt_zero, ringB_iff]
        constructor
        · rintro h ⟨w, hw3, hr, hu⟩
          have := h w (by omega)
          rw [bt_and, (hR _ hw2 w (by omega)).mpr ⟨hw3, hr⟩, (hx w (by omega)).mpr ⟨hw3, hu⟩] at this
          cases this
        · intro h i hi
          rw [bt_and]
          cases h1 : bt (m 18 (cl (g 49 l))) i
          · rfl
          · cases h2 : bt x i
            · rfl
            · exact absurd ⟨i, ((hx i hi).mp h2).1, ((hR _ hw2 i hi).mp h1).2, ((hx i hi).mp h2).2⟩ h
      have key : ∀ b : Int32, (b = 0 ∨ b = 1) → b = (if ¬ g 48 l < 0 ∧ ringB g n l = true then 1 else 0) → J b m := by
        intro b hb01 hb
        refine hJ _ _ ⟨hin, ?_, ?_⟩
        · rcases hb01 with rfl | rfl <;> decide
        · intro m31 e31
          exact step m31 b e31 hb
      refine ⟨fun e => key 0 (Or.inl rfl) ?_, fun e => key 1 (Or.inr rfl) ?_⟩
      · rw [if_neg (fun h => hzero.mp e h.2)]
      · rw [if_pos ⟨hk, by
          cases hb : ringB g n l
          · exact absurd (hzero.mpr (by rw [hb]; decide)) e
          · rfl⟩]
    · rw [nI_clamp (by omega)]
      intro m20 e20
      exact step m20 0 e20 (by rw [if_neg (fun h => h.1 hk)])
theorem s_F_find {K : Mem → Prop} (hcc : CC m g n) (hwf : ∀ l, l < n → WFl g l) (hK : ∀ m', FX m m' → CF m' (FL g n) → CI_ m' g n n → m' 14 5 = (if (FLw g n 24).length = 0 then 0 else 1) → K m') : w_F_find m K := by
  have hn := hcc.1
  unfold w_F_find
  intro m1 e1
  have f1 : FX m m1 := by rw [e1]; exact FX.up (FX.refl m) (by omega)
  have L1 : CF m1 (FLw g n 0) := ⟨by rw [e1]; simp only [up2, up_same, upd_same]; rfl, fun i p hp => by cases hp⟩
  refine s_F_find_7 24 0 25 m1 (by omega) (by omega) (hcc.fx f1) L1 fun m2 f2 L2 => ?_
  intro J hJ
  have hlen := FLw_le (g := g) (n := n) 24
  have key : ∀ b : Int32, (b = 0 ∨ b = 1) → b = (if (FLw g n 24).length = 0 then 0 else 1) → J b m2 := by
    intro b hb01 hb
    refine hJ _ _ ⟨?_, ?_⟩
    · rcases hb01 with rfl | rfl <;> exact ⟨rfl, by decide⟩
    · intro m14 e14
      have f14 : FX m2 m14 := by rw [e14]; exact FX.up (FX.refl m2) (by omega)
      have q145 : m14 14 5 = b := by rw [e14]; simp only [up2, up_same, upd_same]
      have L14 : CF m14 (FLw g n 24) := by
        refine ⟨?_, fun i p hp => ?_⟩
        · rw [e14]; simp (disch := omega) only [up2, up_same, upd_ne]; exact L2.1
        · rw [e14]; simp (disch := omega) only [up2, up_ne]; exact L2.2 i p hp
      have cc14 := ((hcc.fx f1).fx f2).fx f14
      refine s_F_findReach cc14 hwf fun m15 f15 r15 => ?_
      have L15 : CF m15 (FLw g n 24 ++ FLl g n 0) := by
        rw [show FLw g n 24 ++ FLl g n 0 = FLw g n 24 from List.append_nil _]
        refine ⟨?_, fun i p hp => ?_⟩
        · rw [f15 14 (by omega)]; exact L14.1
        · rw [f15 15 (by omega), f15 16 (by omega)]; exact L14.2 i p hp
      have fx15 : FX m14 m15 := fun i hi => f15 i (by omega)
      refine s_F_find_85 hwf n 0 31 m15 (by omega) (by omega) (cc14.fx fx15) r15 L15 (fun q hq => absurd hq (Nat.not_lt_zero q)) fun m' f' d' c' i' => ?_
      refine hK m' ((((f1.trans f2).trans f14).trans fx15).trans f') c' i' ?_
      rw [d', f15 14 (by omega), q145, hb]
  rw [L2.1]
  refine ⟨fun e => key 0 (Or.inl rfl) ?_, fun e => key 1 (Or.inr rfl) ?_⟩
  · have := (nI_leI (b := 0) (by omega) (by decide)).mp e
    rw [if_pos (by omega)]
  · rw [if_neg (fun h => e (by rw [h]; decide))]
end FR2
