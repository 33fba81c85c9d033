/-! the digest: what is folded, and the class's part -/
def dgs (f : Nat → Int32) : Nat → Nat → Int64 → Int64
  | 0, _, d => d
  | r + 1, i, d => dgs f r (i + 1) ((d * (31 : Int64)) + (f i).toInt64)
theorem dgs_add (f : Nat → Int32) : ∀ (a b i : Nat) (d : Int64), dgs f (a + b) i d = dgs f b (i + a) (dgs f a i d)
  | 0, b, i, d => by rw [Nat.zero_add]; rfl
  | a + 1, b, i, d => by
    rw [show a + 1 + b = (a + b) + 1 by omega]
    show dgs f (a + b) (i + 1) _ = dgs f b (i + (a + 1)) (dgs f a (i + 1) _)
    rw [dgs_add f a b (i + 1), show i + 1 + a = i + (a + 1) by omega]
theorem dgs_congr {f f' : Nat → Int32} : ∀ (r i : Nat) (d : Int64), (∀ k, i ≤ k → k < i + r → f k = f' k) → dgs f r i d = dgs f' r i d
  | 0, _, _, _ => rfl
  | r + 1, i, d, h => by
    unfold dgs
    rw [h i (by omega) (by omega)]
    exact dgs_congr r (i + 1) _ fun k h1 h2 => h k (by omega) (by omega)
/-- the flaws as one row -/
def FLf (L : List (Int32 × Int32)) (k : Nat) : Int32 := if k % 2 = 0 then ((L[k / 2]?).getD (0, 0)).1 else ((L[k / 2]?).getD (0, 0)).2
def S_wir1 (g : Mem) (n : Nat) (A ρ : Nat → Int32) (w : Nat) (d : Int64) : Int64 := dgs (fun q => ρ (6 + q * 24 + w)) 4 0 ((((d * (31 : Int64)) + (A w).toInt64) * (31 : Int64)) + (nI (S_nus g w n)).toInt64)
def S_wirL (g : Mem) (n : Nat) (A ρ : Nat → Int32) : Nat → Nat → Int64 → Int64
  | 0, _, d => d
  | r + 1, w, d => S_wirL g n A ρ r (w + 1) (S_wir1 g n A ρ w d)
/-- in how much it would settle -/
def S_in (g : Mem) (n : Nat) (ρ : Rw) : Int32 := if S_pass g n 2147483647 (va_cpy ρ (fun _ => 0) 0 0 342) 2 ≤ ρ 2 then S_pass g n 2147483647 (va_cpy ρ (fun _ => 0) 0 0 342) 0 - ρ 0 else -1
def S_d0 (g : Mem) (n : Nat) (A : Nat → Int32) (run : Int32) : Int64 := ((((((((58070 : Int64) * (31 : Int64)) + (nI n).toInt64) * (31 : Int64)) + (nI (FL g n).length).toInt64) * (31 : Int64)) + (S_lng A 24 0 0).toInt64) * (31 : Int64)) + run.toInt64
def S_d1 (n : Nat) (ρ : Rw) (d : Int64) : Int64 := dgs (fun i => S_told n ρ (nI i)) 6 0 d
def S_d2 (g : Mem) (n : Nat) (d : Int64) : Int64 := dgs (FLf (FL g n)) (2 * (FL g n).length) 0 d
def S_d3 (g : Mem) (n : Nat) (A : Nat → Int32) (d : Int64) : Int64 := dgs (fun i => S_way g n A (nI i)) 6 0 d
def S_d4 (g : Mem) (n : Nat) (A ρ : Nat → Int32) (d : Int64) : Int64 := S_wirL g n A ρ 24 0 d
def S_d5 (n : Nat) (ρ : Rw) (d : Int64) : Int64 := dgs (fun l => ρ (102 + l)) n 0 d
def S_d6 (ρ : Rw) (d : Int64) : Int64 := dgs (fun k => ρ (222 + k)) (3 * cl (ρ 5)) 0 ((d * (31 : Int64)) + (ρ 5).toInt64)
def S_d16 (g : Mem) (n : Nat) (A ρ : Nat → Int32) (run : Int32) : Int64 := S_d6 ρ (S_d5 n ρ (S_d4 g n A ρ (S_d3 g n A (S_d2 g n (S_d1 n ρ (S_d0 g n A run))))))
def S_dig (g : Mem) (n : Nat) (A ρ : Nat → Int32) (run : Int32) : Int64 := if run = 0 then S_d16 g n A ρ run else (S_d16 g n A ρ run * (31 : Int64)) + (S_in g n ρ).toInt64
section DGN
variable {m g : Mem} {n : Nat} {d : Int64} {K : Int64 → Mem → Prop} {X : String → Mem → Prop}
theorem nI_lt5 {i : Nat} (hi : i < 2 ^ 31) : ((5 : Int32) < nI i) ↔ 5 < i := nI_ltI (a := 5) (by decide) hi
theorem nI_lt3 {i : Nat} (hi : i < 2 ^ 31) : ((3 : Int32) < nI i) ↔ 3 < i := nI_ltI (a := 3) (by decide) hi
theorem nI_lt2 {i : Nat} (hi : i < 2 ^ 31) : ((2 : Int32) < nI i) ↔ 2 < i := nI_ltI (a := 2) (by decide) hi
theorem nI_le6 {i : Nat} (hi : i < 2 ^ 31) : ((6 : Int32) ≤ nI i) ↔ 6 ≤ i := nI_leI (a := 6) (by decide) hi
theorem nI_le4 {i : Nat} (hi : i < 2 ^ 31) : ((4 : Int32) ≤ nI i) ↔ 4 ≤ i := nI_leI (a := 4) (by decide) hi
theorem s_N_dTimes (hcc : CC m g n) (h : RR 23 m (m 60)) (hK : K (S_d1 n (m 60) d) m) : w_N_digestOfTimes d m K X := by
  have go : ∀ (r i f : Nat) (p1 d : Int64), i + r = 6 → r < f → K (dgs (fun i => S_told n (m 60) (nI i)) r i d) m → w_N_digestOfTimes_5 f p1 d (nI i) m (fun y4 y5 y6 m7 => K y5 m7) K X := by
    intro r
    induction r with
    | zero =>
      intro i f p1 d hi hf hk
      have e : i = 6 := by omega
      subst e
      obtain ⟨f, rfl⟩ : ∃ a, f = a + 1 := ⟨f - 1, by omega⟩
      unfold w_N_digestOfTimes_5
      exact ⟨fun _ => hk, fun h => absurd ((nI_lt5 (by decide)).mpr (by decide)) h⟩
    | succ r ih =>
      intro i f p1 d hi hf hk
      obtain ⟨f, rfl⟩ : ∃ a, f = a + 1 := ⟨f - 1, by omega⟩
      unfold w_N_digestOfTimes_5
      have hn5 : ¬ (5 : Int32) < nI i := fun q => absurd ((nI_lt5 (by omega)).mp q) (by omega)
      refine ⟨fun q => absurd q hn5, fun _ => ?_⟩
      refine s_N_told hcc h (in05 (nI_pos (by omega)) hn5) ?_
      rw [nA1]
      exact ih (i + 1) f p1 _ (by omega) (by omega) hk
  unfold w_N_digestOfTimes
  exact go 6 0 7 d d (by omega) (by omega) hK
theorem s_N_ofFlaw0 {i : Nat} {p : Int32 × Int32} {K : Int32 → Mem → Prop} (hF : CF m (FL g n)) (hn : n ≤ 30) (hp : (FL g n)[i]? = some p) (hK : K p.1 m) : w_N_ofFlaw (nI i) 0 m K X := by
  have hL := FL_le (g := g) (n := n)
  have hi : i < (FL g n).length := by
    rcases Nat.lt_or_ge i (FL g n).length with hh | hh
    · exact hh
    · rw [List.getElem?_eq_none hh] at hp; cases hp
  unfold w_N_ofFlaw
  rw [hF.1, nI_clamp (by omega), (hF.2 i p hp).1]
  exact c_ix (by omega) (fun k hk ep => ⟨fun ne => absurd rfl ne, fun _ => ⟨vp_in_nI (by omega) (by decide), hK⟩⟩) (fun hno => absurd rfl (hno i hi))
theorem s_N_ofFlaw1 {i : Nat} {p : Int32 × Int32} {K : Int32 → Mem → Prop} (hF : CF m (FL g n)) (hn : n ≤ 30) (hp : (FL g n)[i]? = some p) (hK : K p.2 m) : w_N_ofFlaw (nI i) 1 m K X := by
  have hL := FL_le (g := g) (n := n)
  have hi : i < (FL g n).length := by
    rcases Nat.lt_or_ge i (FL g n).length with hh | hh
    · exact hh
    · rw [List.getElem?_eq_none hh] at hp; cases hp
  unfold w_N_ofFlaw
  rw [hF.1, nI_clamp (by omega), (hF.2 i p hp).2]
  exact c_ix (by omega) (fun k hk ep => ⟨fun _ => ⟨fun ne => absurd rfl ne, fun _ => ⟨vp_in_nI (by omega) (by decide), hK⟩⟩, fun e => absurd e (by decide)⟩) (fun hno => absurd rfl (hno i hi))
theorem FLf_at {L : List (Int32 × Int32)} {i : Nat} {p : Int32 × Int32} (hp : L[i]? = some p) : FLf L (2 * i) = p.1 ∧ FLf L (2 * i + 1) = p.2 := by
  unfold FLf
  rw [if_pos (by omega), if_neg (by omega), show 2 * i / 2 = i by omega, show (2 * i + 1) / 2 = i by omega, hp]
  exact ⟨rfl, rfl⟩
theorem s_N_dCircuit {A : Nat → Int32} (hcc : CC m g n) (hwf : ∀ l, l < n → WFl g l) (hF : CF m (FL g n)) (hA : ∀ w, w < 24 → m 20 w = A w) (hok : okN A) (hK : K (S_d3 g n A (S_d2 g n d)) m) : w_N_digestOfCircuit d m K X := by
  have hn := hcc.1
  have hL := FL_le (g := g) (n := n)
  have go2 : ∀ (r i f : Nat) (p1 d : Int64), i + r = 6 → r < f → K (dgs (fun i => S_way g n A (nI i)) r i d) m → w_N_digestOfCircuit_56 f p1 d (nI i) m (fun y13 y14 y15 m16 => K y14 m16) K X := by
    intro r
    induction r with
    | zero =>
      intro i f p1 d hi hf hk
      have e : i = 6 := by omega
      subst e
      obtain ⟨f, rfl⟩ : ∃ a, f = a + 1 := ⟨f - 1, by omega⟩
      unfold w_N_digestOfCircuit_56
      exact ⟨fun _ => hk, fun h => absurd ((nI_le6 (by decide)).mpr (by decide)) h⟩
    | succ r ih =>
      intro i f p1 d hi hf hk
      obtain ⟨f, rfl⟩ : ∃ a, f = a + 1 := ⟨f - 1, by omega⟩
      unfold w_N_digestOfCircuit_56
      refine ⟨fun q => absurd ((nI_le6 (by omega)).mp q) (by omega), fun _ => ?_⟩
      refine s_N_way hcc hwf hA hok ?_
      rw [nA1]
      exact ih (i + 1) f p1 _ (by omega) (by omega) hk
  have go1 : ∀ (r i f : Nat) (d : Int64) (E : Int64 → Int64 → Int32 → Mem → Prop) (p1 : Int64), i + r = (FL g n).length → r < f → (∀ y, E p1 (dgs (FLf (FL g n)) (2 * r) (2 * i) d) y m) → w_N_digestOfCircuit_5 f p1 d (nI i) m E K X := by
    intro r
    induction r with
    | zero =>
      intro i f d E p1 hi hf hk
      obtain ⟨f, rfl⟩ : ∃ a, f = a + 1 := ⟨f - 1, by omega⟩
      unfold w_N_digestOfCircuit_5
      rw [hF.1]
      exact ⟨fun _ => hk _, fun h => absurd (nI_le (by omega) (by omega)) h⟩
    | succ r ih =>
      intro i f d E p1 hi hf hk
      obtain ⟨f, rfl⟩ : ∃ a, f = a + 1 := ⟨f - 1, by omega⟩
      have hp := List.getElem?_eq_getElem (l := FL g n) (i := i) (by omega)
      obtain ⟨q1, q2⟩ := FLf_at hp
      unfold w_N_digestOfCircuit_5
      rw [hF.1]
      refine ⟨fun q => absurd q (nI_ge (by omega) (by omega)), fun _ => ?_⟩
      refine s_N_ofFlaw0 hF hn hp (s_N_ofFlaw1 hF hn hp ?_)
      rw [nA1]
      refine ih (i + 1) f _ E p1 (by omega) (by omega) fun y => ?_
      have := hk y
      rw [show 2 * (r + 1) = 2 * r + 1 + 1 by omega] at this
      unfold dgs at this
      unfold dgs at this
      rw [q1, q2] at this
      exact this
  unfold w_N_digestOfCircuit
  refine go1 (FL g n).length 0 55 d _ d (by omega) (by omega) fun y => ?_
  exact go2 6 0 7 _ _ (by omega) (by omega) hK
theorem s_N_ofWire {w q : Nat} {K : Int32 → Mem → Prop} (h : RR 23 m (m 60)) (hw : w < 24) (hq : q < 4) (hK : K ((m 60) (6 + q * 24 + w)) m) : w_N_ofWire (nI w) (nI q) m K X := by
  have vp : vp_in (nI w) 24 := vp_in_nI hw (by decide)
  unfold w_N_ofWire
  refine s_N_checkWire (fun w' hw' e => ?_) (fun no => absurd ⟨w, hw, rfl⟩ no)
  rw [nI_clamp (by omega)]
  have : q = 0 ∨ q = 1 ∨ q = 2 ∨ q = 3 := by omega
  rcases this with rfl | rfl | rfl | rfl
  · rw [show (m 60) (6 + 0 * 24 + w) = m 24 w from (h.1 w hw).symm] at hK
    exact ⟨fun _ => ⟨vp, hK⟩, fun e => absurd e (by decide), fun e => absurd e (by decide), fun e => absurd e (by decide), fun ne => absurd rfl ne⟩
  · rw [show (m 60) (6 + 1 * 24 + w) = m 25 w from (h.2.1 w hw).symm] at hK
    exact ⟨fun e => absurd e (by decide), fun _ => ⟨vp, hK⟩, fun e => absurd e (by decide), fun e => absurd e (by decide), fun _ ne => absurd rfl ne⟩
  · rw [show (m 60) (6 + 2 * 24 + w) = m 26 w from (h.2.2.1 w hw).symm] at hK
    exact ⟨fun e => absurd e (by decide), fun e => absurd e (by decide), fun _ => ⟨vp, hK⟩, fun e => absurd e (by decide), fun _ _ ne => absurd rfl ne⟩
  · rw [show (m 60) (6 + 3 * 24 + w) = m 27 w from (h.2.2.2.1 w hw).symm] at hK
    exact ⟨fun e => absurd e (by decide), fun e => absurd e (by decide), fun e => absurd e (by decide), fun _ => ⟨vp, hK⟩, fun _ _ _ ne => absurd rfl ne⟩
theorem s_N_dWires {A : Nat → Int32} (hcc : CC m g n) (h : RR 23 m (m 60)) (hA : ∀ w, w < 24 → m 20 w = A w) (hK : K (S_d4 g n A (m 60) d) m) : w_N_digestOfWires d m K X := by
  have go1 : ∀ (r i f w : Nat) (d p1 : Int64) (E : Int64 → Int64 → Int32 → Int32 → Mem → Prop), w < 24 → i + r = 4 → r < f → (∀ y, E p1 (dgs (fun q => (m 60) (6 + q * 24 + w)) r i d) (nI w) y m) → w_N_digestOfWires_43 f p1 d (nI w) (nI i) m E K X := by
    intro r
    induction r with
    | zero =>
      intro i f w d p1 E hw hi hf hk
      have e : i = 4 := by omega
      subst e
      obtain ⟨f, rfl⟩ : ∃ a, f = a + 1 := ⟨f - 1, by omega⟩
      unfold w_N_digestOfWires_43
      exact ⟨fun _ => hk _, fun h => absurd ((nI_lt3 (by decide)).mpr (by decide)) h⟩
    | succ r ih =>
      intro i f w d p1 E hw hi hf hk
      obtain ⟨f, rfl⟩ : ∃ a, f = a + 1 := ⟨f - 1, by omega⟩
      unfold w_N_digestOfWires_43
      refine ⟨fun q => absurd ((nI_lt3 (by omega)).mp q) (by omega), fun _ => ?_⟩
      refine s_N_ofWire h hw (by omega) ?_
      rw [nA1]
      exact ih (i + 1) f w _ p1 E hw (by omega) (by omega) hk
  have go2 : ∀ (r w f : Nat) (d p1 : Int64), w + r = 24 → r < f → K (S_wirL g n A (m 60) r w d) m → w_N_digestOfWires_5 f p1 d (nI w) m (fun y14 y15 y16 m17 => K y15 m17) K X := by
    intro r
    induction r with
    | zero =>
      intro w f d p1 hw hf hk
      have e : w = 24 := by omega
      subst e
      obtain ⟨f, rfl⟩ : ∃ a, f = a + 1 := ⟨f - 1, by omega⟩
      unfold w_N_digestOfWires_5
      exact ⟨fun _ => hk, fun h => absurd (show (24 : Int32) ≤ nI 24 by decide) h⟩
    | succ r ih =>
      intro w f d p1 hw hf hk
      obtain ⟨f, rfl⟩ : ∃ a, f = a + 1 := ⟨f - 1, by omega⟩
      have vp : vp_in (nI w) 24 := vp_in_nI (by omega) (by decide)
      unfold w_N_digestOfWires_5 w_N_arrival w_N_users
      refine ⟨fun h => absurd ((nI_le24 (by omega)).mp h) (by omega), fun _ => ?_⟩
      refine s_N_checkWire (fun _ _ _ => ⟨vp, ?_⟩) (fun no => absurd ⟨w, by omega, rfl⟩ no)
      refine s_N_checkWire (fun _ _ _ => ⟨vp, ?_⟩) (fun no => absurd ⟨w, by omega, rfl⟩ no)
      rw [nI_clamp (by omega), hA w (by omega), users_pop hcc (by omega)]
      refine go1 4 0 5 w _ p1 _ (by omega) (by omega) (by omega) fun y => ?_
      rw [nA1]
      exact ih (w + 1) f _ p1 (by omega) (by omega) hk
  unfold w_N_digestOfWires
  exact go2 24 0 25 d d (by omega) (by omega) hK
theorem s_N_ofHazard {H k q : Nat} {K : Int32 → Mem → Prop} (h : RR 23 m (m 60)) (hH : H ≤ 40) (e5 : (m 60) 5 = nI H) (hk : k < H) (hq : q < 3) (hK : K ((m 60) (222 + (3 * k + q))) m) : w_N_ofHazard (nI k) (nI q) m K X := by
  have vp : vp_in (nI k) 40 := vp_in_nI (by omega) (by decide)
  have e12 : m 23 12 = nI H := h.2.2.2.2.2.2.2.1.trans e5
  have hz := h.2.2.2.2.2.2.2.2.2.2.2.2.2
  rw [e5, cl_nI (by omega)] at hz
  obtain ⟨z1, z2, z3⟩ := hz k (by omega) hk
  unfold w_N_ofHazard
  rw [e12, nI_clamp (by omega)]
  refine c_ix (by omega) (fun k' hk' ep => ?_) (fun hno => absurd rfl (hno k hk))
  have : q = 0 ∨ q = 1 ∨ q = 2 := by omega
  rcases this with rfl | rfl | rfl
  · rw [show 222 + (3 * k + 0) = 222 + 3 * k by omega, ← z1] at hK
    exact ⟨fun _ => ⟨vp, hK⟩, fun e => absurd e (by decide), fun e => absurd e (by decide), fun ne => absurd rfl ne⟩
  · rw [show 222 + (3 * k + 1) = 222 + 3 * k + 1 by omega, ← z2] at hK
    exact ⟨fun e => absurd e (by decide), fun _ => ⟨vp, hK⟩, fun e => absurd e (by decide), fun _ ne => absurd rfl ne⟩
  · rw [show 222 + (3 * k + 2) = 222 + 3 * k + 2 by omega, ← z3] at hK
    exact ⟨fun e => absurd e (by decide), fun e => absurd e (by decide), fun _ => ⟨vp, hK⟩, fun _ _ ne => absurd rfl ne⟩
theorem s_N_dRun (hcc : CC m g n) (h : RR 23 m (m 60)) (hz : HZ (m 60)) (hK : K (S_d6 (m 60) (S_d5 n (m 60) d)) m) : w_N_digestOfRun d m K X := by
  have hn := hcc.1
  obtain ⟨H, hH, e5⟩ := hz
  have e12 : m 23 12 = nI H := h.2.2.2.2.2.2.2.1.trans e5
  have go1 : ∀ (r i f k : Nat) (d p1 : Int64) (E : Int64 → Int64 → Int32 → Int32 → Mem → Prop), k < H → i + r = 3 → r < f → (∀ y, E p1 (dgs (fun q => (m 60) (222 + q)) r (3 * k + i) d) (nI k) y m) → w_N_digestOfRun_67 f p1 d (nI k) (nI i) m E K X := by
    intro r
    induction r with
    | zero =>
      intro i f k d p1 E hk hi hf hE
      have e : i = 3 := by omega
      subst e
      obtain ⟨f, rfl⟩ : ∃ a, f = a + 1 := ⟨f - 1, by omega⟩
      unfold w_N_digestOfRun_67
      exact ⟨fun _ => hE _, fun h => absurd ((nI_lt2 (by decide)).mpr (by decide)) h⟩
    | succ r ih =>
      intro i f k d p1 E hk hi hf hE
      obtain ⟨f, rfl⟩ : ∃ a, f = a + 1 := ⟨f - 1, by omega⟩
      unfold w_N_digestOfRun_67
      refine ⟨fun q => absurd ((nI_lt2 (by omega)).mp q) (by omega), fun _ => ?_⟩
      refine s_N_ofHazard h hH e5 hk (by omega) ?_
      rw [nA1]
      exact ih (i + 1) f k _ p1 E hk (by omega) (by omega) hE
  have go2 : ∀ (r k f : Nat) (d p1 : Int64), k + r = H → r < f → K (dgs (fun q => (m 60) (222 + q)) (3 * r) (3 * k) d) m → w_N_digestOfRun_52 f p1 d (nI k) m (fun y19 y20 y21 m22 => K y20 m22) K X := by
    intro r
    induction r with
    | zero =>
      intro k f d p1 hk hf hE
      obtain ⟨f, rfl⟩ : ∃ a, f = a + 1 := ⟨f - 1, by omega⟩
      unfold w_N_digestOfRun_52
      rw [e12]
      exact ⟨fun _ => hE, fun h => absurd (nI_le (by omega) (by omega)) h⟩
    | succ r ih =>
      intro k f d p1 hk hf hE
      obtain ⟨f, rfl⟩ : ∃ a, f = a + 1 := ⟨f - 1, by omega⟩
      unfold w_N_digestOfRun_52
      rw [e12]
      refine ⟨fun q => absurd q (nI_ge (by omega) (by omega)), fun _ => ?_⟩
      refine go1 3 0 4 k d p1 _ (by omega) (by omega) (by omega) fun y => ?_
      rw [nA1]
      refine ih (k + 1) f _ p1 (by omega) (by omega) ?_
      rw [show 3 * (r + 1) = 3 + 3 * r by omega, dgs_add] at hE
      rw [show 3 * (k + 1) = 3 * k + 3 by omega]
      exact hE
  have go3 : ∀ (r i f : Nat) (d p1 : Int64) (E : Int64 → Int64 → Int32 → Mem → Prop), i + r = n → r < f → (∀ y, E p1 (dgs (fun l => (m 60) (102 + l)) r i d) y m) → w_N_digestOfRun_5 f p1 d (nI i) m E K X := by
    intro r
    induction r with
    | zero =>
      intro i f d p1 E hi hf hE
      obtain ⟨f, rfl⟩ : ∃ a, f = a + 1 := ⟨f - 1, by omega⟩
      unfold w_N_digestOfRun_5
      rw [hcc.2.1]
      exact ⟨fun _ => hE _, fun h => absurd (nI_le (by omega) (by omega)) h⟩
    | succ r ih =>
      intro i f d p1 E hi hf hE
      obtain ⟨f, rfl⟩ : ∃ a, f = a + 1 := ⟨f - 1, by omega⟩
      unfold w_N_digestOfRun_5 w_N_pending
      rw [hcc.2.1]
      refine ⟨fun q => absurd q (nI_ge (by omega) (by omega)), fun _ => ?_⟩
      refine s_N_checkLine hcc (fun _ _ _ => ⟨vp_in_nI (by omega) (by decide), ?_⟩) (fun no => absurd rfl (no i (by omega)))
      rw [nI_clamp (by omega), nA1]
      refine ih (i + 1) f _ p1 E (by omega) (by omega) fun y => ?_
      have := hE y
      unfold dgs at this
      rw [← h.2.2.2.2.1 i (by omega)] at this
      exact this
  unfold S_d6 at hK
  rw [e5, cl_nI (by omega)] at hK
  unfold w_N_digestOfRun w_N_hazards
  refine go3 n 0 31 d d _ (by omega) (by omega) fun y => ?_
  rw [e12]
  exact go2 H 0 41 _ d (by omega) (by omega) hK
end DGN
