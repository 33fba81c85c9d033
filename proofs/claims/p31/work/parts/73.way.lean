/-! the way -/
def S_pick (A : Nat → Int32) (x y : Int32) : Int32 := if A (cl y) ≤ A (cl x) then x else y
theorem S_pick_self {A : Nat → Int32} {x : Int32} : S_pick A x x = x := by unfold S_pick; split <;> rfl
theorem i_le_of {a b : Int32} (h : ¬ a ≤ b) : b ≤ a := by
  rw [Int32.le_iff_toInt_le] at h ⊢
  omega
theorem S_pick_back {A : Nat → Int32} {a b : Int32} : S_pick A (S_pick A a b) a = S_pick A a b := by
  by_cases h : A (cl b) ≤ A (cl a)
  · have e : S_pick A a b = a := if_pos h
    rw [e]; exact S_pick_self
  · have e : S_pick A a b = b := if_neg h
    rw [e]
    exact if_pos (i_le_of h)
theorem S_pick_or {A : Nat → Int32} {x y : Int32} : S_pick A x y = x ∨ S_pick A x y = y := by
  unfold S_pick
  split
  · exact Or.inl rfl
  · exact Or.inr rfl
/-- the wire behind a wire, on the way -/
def S_beh (g : Mem) (n : Nat) (A : Nat → Int32) (w : Nat) : Int32 :=
  if S_drv g n w = -1 then -1 else if g 48 (cl (S_drv g n w)) < 0 then -1 else S_pick A (S_pick A (g 50 (cl (S_drv g n w))) (pinB g (cl (S_drv g n w)))) (pinC g (cl (S_drv g n w)))
def S_wayL (g : Mem) (n : Nat) (A : Nat → Int32) : Nat → Int32 → Int32
  | 0, x => x
  | k + 1, x => if x = -1 then -1 else S_wayL g n A k (S_beh g n A (cl x))
theorem wayL_m1 {g : Mem} {n : Nat} {A : Nat → Int32} : ∀ k, S_wayL g n A k (-1) = -1
  | 0 => rfl
  | k + 1 => by unfold S_wayL; rw [if_pos rfl]
def S_latL (g : Mem) (n : Nat) (A : Nat → Int32) : Nat → Nat → Int32 → Int32
  | 0, _, b => b
  | r + 1, w, b => S_latL g n A r (w + 1) (if S_drv g n w = -1 then b else if A w = -1 then b else if b = -1 then nI w else if A w ≤ A (cl b) then b else nI w)
def S_lat (g : Mem) (n : Nat) (A : Nat → Int32) : Int32 := S_latL g n A 24 0 (-1)
theorem S_latL_spec {g : Mem} {n : Nat} {A : Nat → Int32} : ∀ (r w : Nat) (b : Int32), w + r = 24 → (b = -1 ∨ ∃ q, q < 24 ∧ b = nI q ∧ ¬ A q = -1) → (S_latL g n A r w b = -1 ∨ ∃ q, q < 24 ∧ S_latL g n A r w b = nI q ∧ ¬ A q = -1)
  | 0, _, _, _, h => h
  | r + 1, w, b, hw, h => by
    unfold S_latL
    refine S_latL_spec r (w + 1) _ (by omega) ?_
    split
    · exact h
    · split
      · exact h
      · next ha =>
        split
        · exact Or.inr ⟨w, by omega, rfl, ha⟩
        · split
          · exact h
          · exact Or.inr ⟨w, by omega, rfl, ha⟩
theorem S_lat_spec {g : Mem} {n : Nat} {A : Nat → Int32} : S_lat g n A = -1 ∨ ∃ q, q < 24 ∧ S_lat g n A = nI q ∧ ¬ A q = -1 := S_latL_spec 24 0 _ (by omega) (Or.inl rfl)
/-- what is on the way at a place -/
def S_way (g : Mem) (n : Nat) (A : Nat → Int32) (p : Int32) : Int32 := if p < 0 then -1 else if p < 24 then S_wayL g n A (cl p) (S_lat g n A) else -1
section WAY
variable {g : Mem} {n : Nat} {A : Nat → Int32}
theorem S_beh_W (hwf : ∀ l, l < n → WFl g l) (hn : n ≤ 30) (w : Nat) : isW0 (S_beh g n A w) := by
  unfold S_beh
  rcases S_drv_spec (g := g) (n := n) (w := w) with ⟨e, -⟩ | ⟨q, hq, e, -, -⟩
  · rw [if_pos e]; exact Or.inl rfl
  · rw [e, if_neg (nI_m1 (by omega)), cl_nI (by omega)]
    split
    · exact Or.inl rfl
    · next hk =>
      obtain ⟨⟨pa, pb, pc⟩, -⟩ := (hwf q hq).pins hk
      rcases S_pick_or (A := A) (x := S_pick A (g 50 q) (pinB g q)) (y := pinC g q) with h | h
      · rw [h]
        rcases S_pick_or (A := A) (x := g 50 q) (y := pinB g q) with h | h
        · rw [h]; exact Or.inr pa
        · rw [h]; exact Or.inr pb
      · rw [h]; exact Or.inr pc
end WAY
section WAY2
variable {g : Mem} {n : Nat} {dl : Nat → Int32}
theorem comb_ne {d a b c : Int32} (h : ¬ comb d a b c = -1) : ¬ a = -1 ∧ ¬ b = -1 ∧ ¬ c = -1 := by
  unfold comb at h
  refine ⟨fun e => h (if_pos (Or.inl e)), fun e => h (if_pos (Or.inr (Or.inl e))), fun e => h (if_pos (Or.inr (Or.inr e)))⟩
theorem beh_prop (hwf : ∀ l, l < n → WFl g l) (hn : n ≤ 30) {w : Nat} (hw : w < 24) (ha : ¬ AR g n dl w = -1) : S_beh g n (AR g n dl) w = -1 ∨ ∃ p, p < 24 ∧ S_beh g n (AR g n dl) w = nI p ∧ ¬ AR g n dl p = -1 ∧ rk g n p < rk g n w := by
  have hE := AR_eq (dl := dl) hwf hn hw
  unfold S_beh
  rcases S_drv_spec (g := g) (n := n) (w := w) with ⟨e, -⟩ | ⟨q, hq, e, ew, -⟩
  · rw [if_pos e]; exact Or.inl rfl
  · rw [e, cl_nI (by omega), if_neg (nI_m1 (by omega))] at hE
    rw [e, if_neg (nI_m1 (by omega)), cl_nI (by omega)]
    by_cases hk : g 48 q < 0
    · rw [if_pos hk]; exact Or.inl rfl
    · rw [if_neg hk]
      have k1 : ¬ g 48 q = -1 := fun e => hk (by rw [e]; decide)
      have k2 : ¬ g 48 q = -2 := fun e => hk (by rw [e]; decide)
      rw [if_neg k1, if_neg k2] at hE
      by_cases hr : ringB g n q = true
      · rw [if_pos hr] at hE; exact absurd hE ha
      · rw [if_neg hr] at hE
        rw [hE] at ha
        obtain ⟨na, nb, nc⟩ := comb_ne ha
        obtain ⟨⟨pa, pb, pc⟩, ua, ub, uc⟩ := (hwf q hq).pins hk
        right
        have fin : ∀ x : Int32, isW x → S_uses g q (cl x) → ¬ AR g n dl (cl x) = -1 → ∃ p, p < 24 ∧ x = nI p ∧ ¬ AR g n dl p = -1 ∧ rk g n p < rk g n w := fun x hx hu hne => ⟨cl x, hx.cl.2, hx.cl.1, hne, rk_lt hq hk hr hw ew hx.cl.2 hu⟩
        rcases S_pick_or (A := AR g n dl) (x := S_pick (AR g n dl) (g 50 q) (pinB g q)) (y := pinC g q) with h | h
        · rw [h]
          rcases S_pick_or (A := AR g n dl) (x := g 50 q) (y := pinB g q) with h | h
          · rw [h]; exact fin _ pa ua na
          · rw [h]; exact fin _ pb ub nb
        · rw [h]; exact fin _ pc uc nc
theorem wayL_end (hwf : ∀ l, l < n → WFl g l) (hn : n ≤ 30) : ∀ (k w : Nat), w < 24 → ¬ AR g n dl w = -1 → rk g n w ≤ k → S_wayL g n (AR g n dl) k (nI w) = -1
  | 0, w, hw, _, hk => absurd (rk_pos (g := g) (n := n) hw) (by omega)
  | k + 1, w, hw, ha, hk => by
    unfold S_wayL
    rw [if_neg (nI_m1 (by omega)), cl_nI (by omega)]
    rcases beh_prop hwf hn hw ha with e | ⟨p, hp, e, hpa, hr⟩
    · rw [e]; exact wayL_m1 k
    · rw [e]; exact wayL_end hwf hn k p hp hpa (by omega)
theorem way_24 (hwf : ∀ l, l < n → WFl g l) (hn : n ≤ 30) {k : Nat} (hk : 24 ≤ k) : S_wayL g n (AR g n dl) k (S_lat g n (AR g n dl)) = -1 := by
  rcases S_lat_spec (g := g) (n := n) (A := AR g n dl) with e | ⟨q, hq, e, ha⟩
  · rw [e]; exact wayL_m1 k
  · rw [e]; exact wayL_end hwf hn k q hq ha (Nat.le_trans (rk_le g n q) hk)
end WAY2
section WAY3
variable {m g : Mem} {n : Nat} {A : Nat → Int32}
/-- an arrival is none or a number -/
def okN (A : Nat → Int32) : Prop := ∀ w, A w = -1 ∨ ∃ k : Nat, k < 2 ^ 31 ∧ A w = nI k
theorem m1_le {k : Nat} (hk : k < 2 ^ 31) : (-1 : Int32) ≤ nI k := by
  rw [Int32.le_iff_toInt_le, nI_toInt hk, show (-1 : Int32).toInt = -1 by decide]
  omega
theorem nI_nle_m1 {k : Nat} (hk : k < 2 ^ 31) : ¬ nI k ≤ (-1 : Int32) := by
  rw [Int32.le_iff_toInt_le, nI_toInt hk, show (-1 : Int32).toInt = -1 by decide]
  omega
theorem s_A_latest {r : Nat} {K : Int32 → Mem → Prop} (hcc : CC m g n) (hA : ∀ w, w < 24 → m (r + 1) w = A w) (hok : okN A) (hK : K (S_lat g n A) m) : w_A_latestDriven r m K := by
  have go : ∀ (q w f : Nat) (b x : Int32), w + q = 24 → q < f → ((b = -1 ∧ x = -1) ∨ ∃ p, p < 24 ∧ b = nI p ∧ x = A p ∧ ¬ A p = -1) → K (S_latL g n A q w b) m → w_A_latestDriven_7 f r b x (nI w) m (fun y4 y5 y6 m7 => K y4 m7) K := by
    intro q
    induction q with
    | zero =>
      intro w f b x hw hf _ hk
      have e : w = 24 := by omega
      subst e
      obtain ⟨f, rfl⟩ : ∃ a, f = a + 1 := ⟨f - 1, by omega⟩
      unfold w_A_latestDriven_7
      exact ⟨fun _ => hk, fun h => absurd (show (24 : Int32) ≤ nI 24 by decide) h⟩
    | succ q ih =>
      intro w f b x hw hf hb hk
      obtain ⟨f, rfl⟩ : ∃ a, f = a + 1 := ⟨f - 1, by omega⟩
      have hd := drivers_0 hcc (w := w) (by omega)
      have vp : vp_in (nI w) 24 := vp_in_nI (by omega) (by decide)
      unfold w_A_latestDriven_7
      unfold S_latL at hk
      rw [nI_clamp (by omega), hA w (by omega), nA1]
      refine ⟨fun h => absurd ((nI_le24 (by omega)).mp h) (by omega), fun _ => ⟨vp, fun h => ?_, fun h => ⟨vp, fun le => ?_, fun nle => ⟨vp, ?_⟩⟩⟩⟩
      · rw [if_pos (hd.mp h)] at hk; exact ih (w + 1) f b x (by omega) (by omega) hb hk
      · rw [if_neg (fun q => h (hd.mpr q))] at hk
        refine ih (w + 1) f b x (by omega) (by omega) hb ?_
        rcases hok w with e | ⟨k, hk31, e⟩
        · rw [if_pos e] at hk; exact hk
        · rcases hb with ⟨rfl, rfl⟩ | ⟨p, hp, rfl, rfl, -⟩
          · rw [e] at le; exact absurd le (nI_nle_m1 hk31)
          · rw [if_neg (by rw [e]; exact nI_m1 hk31), if_neg (nI_m1 (by omega)), cl_nI (by omega), if_pos le] at hk; exact hk
      · rw [if_neg (fun q => h (hd.mpr q))] at hk
        have hne : ¬ A w = -1 := by
          intro e
          rw [e] at nle
          rcases hb with ⟨rfl, rfl⟩ | ⟨p, hp, rfl, rfl, hpn⟩
          · exact nle (Int32.le_refl _)
          · rcases hok p with e2 | ⟨k, hk31, e2⟩
            · exact hpn e2
            · rw [e2] at nle; exact nle (m1_le hk31)
        rw [if_neg hne] at hk
        refine ih (w + 1) f (nI w) (A w) (by omega) (by omega) (Or.inr ⟨w, by omega, rfl, rfl, hne⟩) ?_
        rcases hb with ⟨rfl, rfl⟩ | ⟨p, hp, rfl, rfl, hpn⟩
        · rw [if_pos rfl] at hk; exact hk
        · rw [if_neg (nI_m1 (by omega)), cl_nI (by omega), if_neg nle] at hk; exact hk
  unfold w_A_latestDriven
  exact go 24 0 25 _ _ (by omega) (by omega) (Or.inl ⟨rfl, rfl⟩) hK
theorem s_A_behind {r w : Nat} {K : Int32 → Mem → Prop} (hcc : CC m g n) (hwf : ∀ l, l < n → WFl g l) (hw : w < 24) (hA : ∀ w, w < 24 → m (r + 1) w = A w) (hK : K (S_beh g n A w) m) : w_A_wireBehind r (nI w) m K := by
  have hn := hcc.1
  unfold S_beh at hK
  unfold w_A_wireBehind
  refine s_C_firstLineOf hcc hw ?_
  rcases S_drv_spec (g := g) (n := n) (w := w) with ⟨e, -⟩ | ⟨q, hq, e, -, -⟩
  · rw [if_pos e] at hK
    exact ⟨fun _ => hK, fun ne => absurd e ne⟩
  · rw [e, if_neg (nI_m1 (by omega)), cl_nI (by omega)] at hK
    rw [e]
    refine ⟨fun h => absurd h (nI_m1 (by omega)), fun _ => ?_⟩
    refine s_C_isGate hcc hq (hwf q hq) (fun hk => ⟨fun _ => ?_, fun e => absurd e (by decide)⟩) (fun hk => ⟨fun ne => absurd rfl ne, fun _ => by rw [if_pos hk] at hK; exact hK⟩)
    rw [if_neg hk] at hK
    have vp : vp_in (nI q) 30 := vp_in_nI (by omega) (by decide)
    obtain ⟨⟨pa, pb, pc⟩, -⟩ := (hwf q hq).pins hk
    have hCL := hcc.2.2.1 q hq
    have e5 : m 5 q = g 50 q := hCL.2.1
    obtain ⟨e6, e7⟩ := hCL.pins (hwf q hq) hk
    rw [nI_clamp (by omega), e5, e6]
    refine ⟨vp, vp, s_A_arrivalOf pb (s_A_arrivalOf pa ?_)⟩
    rw [hA _ pb.cl.2, hA _ pa.cl.2]
    intro J hJ
    have hv : isW (S_pick A (g 50 q) (pinB g q)) := by
      rcases S_pick_or (A := A) (x := g 50 q) (y := pinB g q) with h | h
      · rw [h]; exact pa
      · rw [h]; exact pb
    have hj : J (S_pick A (g 50 q) (pinB g q)) m := by
      refine hJ _ _ ?_
      rw [e7]
      refine ⟨vp, s_A_arrivalOf pc (s_A_arrivalOf hv ?_)⟩
      rw [hA _ pc.cl.2, hA _ hv.cl.2]
      refine ⟨fun le => ?_, fun nle => ⟨vp, ?_⟩⟩
      · rw [show S_pick A (S_pick A (g 50 q) (pinB g q)) (pinC g q) = S_pick A (g 50 q) (pinB g q) from if_pos le] at hK; exact hK
      · rw [show S_pick A (S_pick A (g 50 q) (pinB g q)) (pinC g q) = pinC g q from if_neg nle] at hK; rw [e7]; exact hK
    refine ⟨fun le => ?_, fun nle => ⟨vp, ?_⟩⟩
    · rw [show S_pick A (g 50 q) (pinB g q) = g 50 q from if_pos le] at hj; exact hj
    · rw [show S_pick A (g 50 q) (pinB g q) = pinB g q from if_neg nle] at hj; rw [e6]; exact hj
theorem s_N_wayL {p : Nat} {E : Int32 → Int32 → Int32 → Mem → Prop} {K : Int32 → Mem → Prop} (hcc : CC m g n) (hwf : ∀ l, l < n → WFl g l) (hA : ∀ w, w < 24 → m 20 w = A w) (hp : p < 24) : ∀ (k i f : Nat) (x : Int32), i + k = p → k < f → isW0 x → (∀ y, E (nI p) (S_wayL g n A k x) y m) → w_N_way_26 f (nI p) x (nI i) m E K := by
  intro k
  induction k with
  | zero =>
    intro i f x hi hf _ hE
    obtain ⟨f, rfl⟩ : ∃ a, f = a + 1 := ⟨f - 1, by omega⟩
    unfold w_N_way_26
    exact ⟨fun _ => hE _, fun h => absurd (nI_le (by omega) (by omega)) h⟩
  | succ k ih =>
    intro i f x hi hf hx hE
    obtain ⟨f, rfl⟩ : ∃ a, f = a + 1 := ⟨f - 1, by omega⟩
    unfold w_N_way_26
    unfold S_wayL at hE
    refine ⟨fun h => absurd h (nI_ge (by omega) (by omega)), fun _ => ⟨fun e => ?_, fun ne => ?_⟩⟩
    · rw [if_pos e] at hE; rw [e]; exact hE _
    · rw [if_neg ne] at hE
      have hw := (hx.resolve_left ne).cl
      rw [nA1, hw.1]
      exact s_A_behind (r := 19) hcc hwf hw.2 hA (ih (i + 1) f _ (by omega) (by omega) (S_beh_W hwf hcc.1 _) hE)
theorem S_lat_W : isW0 (S_lat g n A) := by
  rcases S_lat_spec (g := g) (n := n) (A := A) with e | ⟨q, hq, e, -⟩
  · exact Or.inl e
  · exact Or.inr ⟨q, hq, e⟩
theorem s_N_way {p : Int32} {K : Int32 → Mem → Prop} (hcc : CC m g n) (hwf : ∀ l, l < n → WFl g l) (hA : ∀ w, w < 24 → m 20 w = A w) (hok : okN A) (hK : K (S_way g n A p) m) : w_N_way p m K := by
  unfold S_way at hK
  unfold w_N_way
  refine ⟨fun lt => by rw [if_pos lt] at hK; exact hK, fun ge => ⟨fun lt => ?_, fun nlt => by rw [if_neg ge, if_neg nlt] at hK; exact hK⟩⟩
  rw [if_neg ge, if_pos lt] at hK
  obtain ⟨k, hk, rfl⟩ := nI_of ge
  have hk24 : k < 24 := (nI_ltI (b := 24) hk (by decide)).mp lt
  rw [cl_nI hk] at hK
  exact s_A_latest (r := 19) hcc hA hok (s_N_wayL hcc hwf hA hk24 k 0 25 _ (by omega) (by omega) S_lat_W fun _ => hK)
end WAY3
section WAY4
variable {m g : Mem} {n : Nat}
theorem AR_okN (hd : ∀ l, l < n → ∃ d : Nat, d ≤ 20 ∧ g 53 l = nI d) (hn : n ≤ 30) : okN (AR g n (g 53)) := fun w => (AR_ok hd hn w).imp id fun ⟨k, h1, h2⟩ => ⟨k, by omega, h2⟩
end WAY4
section CASES17
variable {j : Nat} {m : Mem} {o : Nat → Int64}
end CASES17
