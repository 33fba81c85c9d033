/-! the reference's flaws -/
def FN (m m' : Mem) : Prop := (∀ i, i ≠ 47 → i ≠ 57 → m' i = m i) ∧ ∀ j, j ≠ 12 → m' 47 j = m 47 j
theorem FN.refl (m : Mem) : FN m m := ⟨fun _ _ _ => rfl, fun _ _ => rfl⟩
theorem FN.trans {a b c : Mem} (h1 : FN a b) (h2 : FN b c) : FN a c := ⟨fun i hi hj => (h2.1 i hi hj).trans (h1.1 i hi hj), fun j hj => (h2.2 j hj).trans (h1.2 j hj)⟩
theorem MC.fn {m m' g : Mem} {n : Nat} (h : MC m g n) (hm : FN m m') : MC m' g n := by
  obtain ⟨h0, h1, h2, h3, h4, h5, h6, h7, h8, h9⟩ := h
  unfold MC
  rw [hm.2 1 (by omega), hm.1 48 (by omega) (by omega), hm.1 49 (by omega) (by omega), hm.1 50 (by omega) (by omega), hm.1 51 (by omega) (by omega), hm.1 52 (by omega) (by omega), hm.1 53 (by omega) (by omega), hm.1 54 (by omega) (by omega), hm.1 55 (by omega) (by omega)]
  exact ⟨h0, h1, h2, h3, h4, h5, h6, h7, h8, h9⟩
section MF1
variable {m g : Mem} {n : Nat}
theorem p_M_uses {l w : Nat} {K : Int32 → Mem → Prop} (hc : MC m g n) (hl : l < 30) (h1 : S_uses g l w → K 1 m) (h0 : ¬ S_uses g l w → K 0 m) : w_M_uses (nI l) (nI w) m K := by
  have h := s_M_uses (m := m) (ρ := m 60) (K := K) (w := w) hc hl (by rw [up_self]; exact h1) (by rw [up_self]; exact h0)
  rw [up_self] at h; exact h
theorem p_M_isGate {l : Nat} {K : Int32 → Mem → Prop} (hc : MC m g n) (hl : l < 30) (h1 : ¬ g 48 l < 0 → K 1 m) (h0 : g 48 l < 0 → K 0 m) : w_M_isGate (nI l) m K := by
  have h := s_M_isGate (m := m) (ρ := m 60) (K := K) hc hl (by rw [up_self]; exact h1) (by rw [up_self]; exact h0)
  rw [up_self] at h; exact h
theorem p_M_isInRing {l : Nat} {K : Int32 → Mem → Prop} (hc : MC m g n) (hwf : ∀ l, l < n → WFl g l) (hl : l < n) (h1 : ringB g n l = true → K 1 m) (h0 : ringB g n l = false → K 0 m) : w_M_isInRing (nI l) m K := by
  have h := s_M_isInRing (m := m) (ρ := m 60) (K := K) hc hwf hl (by rw [up_self]; exact h1) (by rw [up_self]; exact h0)
  rw [up_self] at h; exact h
theorem p_M_driver {w : Nat} {K : Int32 → Mem → Prop} (hc : MC m g n) (hK : K (S_drv g n w) m) : w_M_driver (nI w) m K := by
  have h := s_M_driver (m := m) (ρ := m 60) (K := K) (w := w) hc (by rw [up_self]; exact hK)
  rw [up_self] at h; exact h
theorem p_M_usersNow_4 {w : Nat} {E : Int32 → Int32 → Int32 → Mem → Prop} {K : Int32 → Mem → Prop} (hc : MC m g n) : ∀ (r l f : Nat), l + r = n → r < f → E (nI w) (nI (S_nus g w n)) (nI n) m → w_M_usersNow_4 f (nI w) (nI (S_nus g w l)) (nI l) m E K := by
  intro r
  induction r with
  | zero =>
    intro l f hl hf hE
    have e : l = n := by omega
    subst e
    obtain ⟨f, rfl⟩ : ∃ q, f = q + 1 := ⟨f - 1, by omega⟩
    unfold w_M_usersNow_4
    rw [hc.2.1]
    exact ⟨fun _ => hE, fun h => absurd (nI_le (Nat.le_refl _) (by have := hc.1; omega)) h⟩
  | succ r ih =>
    intro l f hl hf hE
    have hn := hc.1
    obtain ⟨f, rfl⟩ : ∃ q, f = q + 1 := ⟨f - 1, by omega⟩
    unfold w_M_usersNow_4
    rw [hc.2.1]
    refine ⟨fun h => absurd h (nI_ge (by omega) (by omega)), fun _ => ?_⟩
    have go := ih (l + 1) f (by omega) (by omega) hE
    unfold S_nus at go
    refine p_M_uses hc (by omega) (fun hu => ⟨fun e => absurd e (by decide), fun _ => ?_⟩) (fun hu => ⟨fun _ => ?_, fun e => absurd rfl e⟩)
    · rw [if_pos (show g 50 l = nI w ∨ g 51 l = nI w ∨ g 52 l = nI w from hu)] at go
      rw [nA1, nA1]; exact go
    · rw [if_neg (show ¬ (g 50 l = nI w ∨ g 51 l = nI w ∨ g 52 l = nI w) from hu)] at go
      rw [nA1, show nI (S_nus g w l) + (0 : Int32) = nI (S_nus g w l) from nI_add _ 0]; exact go
theorem p_M_usersNow {w : Nat} {K : Int32 → Mem → Prop} (hc : MC m g n) (hK : K (nI (S_nus g w n)) m) : w_M_usersNow (nI w) m K := by
  unfold w_M_usersNow
  exact p_M_usersNow_4 hc n 0 31 (by omega) (by have := hc.1; omega) hK
theorem p_M_note {L : List (Int32 × Int32)} {c w : Int32} {K : Mem → Prop} (h : MF m L) (hL : L.length < 54) (hK : ∀ m', FN m m' → MF m' (L ++ [(c, w)]) → K m') : w_M_note c w m K := by
  obtain ⟨h1, h2⟩ := h
  unfold w_M_note
  rw [h1]
  simp (disch := omega) only [n2m, nI_clamp, vp_in_nI, true_and]
  intro m1 e1
  have q1 : m1 47 12 = nI L.length := by rw [e1]; simp (disch := omega) only [up2, up_ne]; exact h1
  rw [q1]
  simp (disch := omega) only [n2m, nA1, nI_clamp, vp_in_nI, true_and]
  intro m2 e2 m3 e3
  have q2 : m2 47 12 = nI L.length := by rw [e2]; simp (disch := omega) only [up2, up_ne]; exact q1
  rw [q2, nA1] at e3
  refine hK m3 ⟨fun i hi hj => ?_, fun j hj => ?_⟩ ⟨?_, fun i p hp => ?_⟩
  · rw [e3, e2, e1]; simp (disch := omega) only [up2, up_ne]
  · rw [e3, e2, e1]; simp (disch := omega) only [up2, up_same, up_ne, upd_ne]
  · rw [e3]; simp only [up2, up_same, upd_same, List.length_append, List.length_cons, List.length_nil, Nat.zero_add]
  · rw [e3, e2, e1]
    by_cases e : i = L.length
    · subst e
      rw [List.getElem?_append_right (Nat.le_refl _), Nat.sub_self] at hp
      cases hp
      simp (disch := omega) only [up2, up_ne, up_same, upd_same, upd_ne]; first | exact ⟨trivial, trivial⟩ | exact ⟨rfl, trivial⟩ | exact ⟨trivial, rfl⟩ | exact ⟨rfl, rfl⟩
    · have hlt : i < L.length := by
        have := (List.getElem?_eq_some_iff.mp hp).1
        rw [List.length_append, List.length_cons, List.length_nil] at this
        omega
      rw [List.getElem?_append_left hlt] at hp
      simp (disch := omega) only [up2, up_ne, up_same, upd_ne]
      exact h2 i p hp
theorem p_M_noteFlaws_17 {w : Nat} {E : Int32 → Int32 → Int32 → Mem → Prop} {K : Mem → Prop} (hc : MC m g n) : ∀ (r l f : Nat), l + r = n → r < f → E (nI w) (nI (S_ndr g w n)) (nI n) m → w_M_noteFlaws_17 f (nI w) (nI (S_ndr g w l)) (nI l) m E K := by
  intro r
  induction r with
  | zero =>
    intro l f hl hf hE
    have e : l = n := by omega
    subst e
    obtain ⟨f, rfl⟩ : ∃ q, f = q + 1 := ⟨f - 1, by omega⟩
    unfold w_M_noteFlaws_17
    rw [hc.2.1]
    exact ⟨fun _ => hE, fun h => absurd (nI_le (Nat.le_refl _) (by have := hc.1; omega)) h⟩
  | succ r ih =>
    intro l f hl hf hE
    have hn := hc.1
    obtain ⟨f, rfl⟩ : ∃ q, f = q + 1 := ⟨f - 1, by omega⟩
    unfold w_M_noteFlaws_17
    rw [hc.2.1, nI_clamp (by omega), hc.2.2.2.1]
    have go := ih (l + 1) f (by omega) (by omega) hE
    unfold S_ndr at go
    refine ⟨fun h => absurd h (nI_ge (by omega) (by omega)), fun _ => ⟨vp_in_nI (by omega) (by decide), fun h => ?_, fun h => ?_⟩⟩
    · rw [if_neg h] at go
      rw [nA1, show nI (S_ndr g w l) + (0 : Int32) = nI (S_ndr g w l) from nI_add _ 0]; exact go
    · rw [if_pos h] at go
      rw [nA1, nA1]; exact go
theorem p_M_noteFlaws_7 {E : Int32 → Mem → Prop} {K : Mem → Prop} : ∀ (r w f : Nat) (m : Mem), w + r = 24 → r < f → MC m g n → MF m (FLw g n w) → (∀ m', FN m m' → MF m' (FLw g n 24) → E (nI 24) m') → w_M_noteFlaws_7 f (nI w) m E K := by
  intro r
  induction r with
  | zero =>
    intro w f m hl hf hc hL hE
    have e : w = 24 := by omega
    subst e
    obtain ⟨f, rfl⟩ : ∃ q, f = q + 1 := ⟨f - 1, by omega⟩
    unfold w_M_noteFlaws_7
    exact ⟨fun _ => hE m (FN.refl m) hL, fun h => absurd (show (24 : Int32) ≤ nI 24 by decide) h⟩
  | succ r ih =>
    intro w f m hl hf hc hL hE
    have hn := hc.1
    have hd := S_ndr_le g w n
    have hu := S_nus_le g w n
    have hlen := FLw_le (g := g) (n := n) w
    obtain ⟨f, rfl⟩ : ∃ q, f = q + 1 := ⟨f - 1, by omega⟩
    unfold w_M_noteFlaws_7
    refine ⟨fun h => absurd ((nI_le24 (by omega)).mp h) (by omega), fun _ => ?_⟩
    have go : ∀ m', FN m m' → MF m' (FLw g n w ++ FLw1 g n w) → w_M_noteFlaws_7 f (nI w + 1) m' E K := by
      intro m' f' c'
      rw [nA1]
      exact ih (w + 1) f m' (by omega) (by omega) (hc.fn f') c' fun m2 f2 c2 => hE m2 (f'.trans f2) c2
    unfold FLw1 at go
    refine p_M_noteFlaws_17 hc n 0 31 (by omega) (by omega) ?_
    intro J hJ
    refine ⟨fun h1 => hJ _ ⟨fun h0 => ?_, fun h0 => ?_⟩, fun h1 => ?_⟩
    · have a : ¬ 1 < S_ndr g w n := fun h => by have := (nI_leI (b := 1) (by omega) (by decide)).mp h1; omega
      have b : ¬ S_ndr g w n = 0 := fun h => h0 (by rw [h]; rfl)
      rw [if_neg a, if_neg (fun h => b h.1), List.append_nil] at go
      exact go m (FN.refl m) hL
    · have b : S_ndr g w n = 0 := (nI_eq (b := 0) (by omega) (by decide)).mp h0
      refine p_M_usersNow hc ⟨fun e => ?_, fun e => ?_⟩
      · have c : S_nus g w n ≤ 0 := (nI_leI (b := 0) (by omega) (by decide)).mp e
        rw [if_neg (by omega), if_neg (by omega), List.append_nil] at go
        exact go m (FN.refl m) hL
      · have c : ¬ S_nus g w n ≤ 0 := fun h => e ((nI_leI (b := 0) (by omega) (by decide)).mpr h)
        rw [if_neg (by omega), if_pos (by omega)] at go
        exact p_M_note hL (by omega) fun m2 f2 c2 => go m2 f2 c2
    · have a : 1 < S_ndr g w n := by
        rcases Nat.lt_or_ge 1 (S_ndr g w n) with h | h
        · exact h
        · exact absurd ((nI_leI (b := 1) (by omega) (by decide)).mpr h) h1
      rw [if_pos a] at go
      refine p_M_note hL (by omega) fun m2 f2 c2 => hJ _ ⟨fun _ => go m2 f2 c2, fun h0 => absurd ((nI_eq (b := 0) (by omega) (by decide)).mp h0) (by omega)⟩
theorem p_M_noteFlaws_86 {E : Int32 → Mem → Prop} {K : Mem → Prop} (hwf : ∀ l, l < n → WFl g l) : ∀ (r l f : Nat) (m : Mem), l + r = n → r < f → MC m g n → MF m (FLw g n 24 ++ FLl g n l) → (∀ m', FN m m' → MF m' (FL g n) → E (nI n) m') → w_M_noteFlaws_86 f (nI l) m E K := by
  intro r
  induction r with
  | zero =>
    intro l f m hl hf hc hL hE
    have e : l = n := by omega
    subst e
    obtain ⟨f, rfl⟩ : ∃ q, f = q + 1 := ⟨f - 1, by omega⟩
    unfold w_M_noteFlaws_86
    rw [hc.2.1]
    exact ⟨fun _ => hE m (FN.refl m) hL, fun h => absurd (nI_le (Nat.le_refl _) (by have := hc.1; omega)) h⟩
  | succ r ih =>
    intro l f m hl hf hc hL hE
    have hn := hc.1
    have hlen := FLw_le (g := g) (n := n) 24
    have hlen2 := FLl_le (g := g) (n := n) l
    have hlt : (FLw g n 24 ++ FLl g n l).length < 54 := by rw [List.length_append]; omega
    obtain ⟨f, rfl⟩ : ∃ q, f = q + 1 := ⟨f - 1, by omega⟩
    unfold w_M_noteFlaws_86
    rw [hc.2.1]
    have go : ∀ m', FN m m' → MF m' (FLw g n 24 ++ FLl g n l ++ FLl1 g n l) → w_M_noteFlaws_86 f (nI l + 1) m' E K := by
      intro m' f' c'
      rw [nA1]
      rw [List.append_assoc] at c'
      exact ih (l + 1) f m' (by omega) (by omega) (hc.fn f') c' fun m2 f2 c2 => hE m2 (f'.trans f2) c2
    unfold FLl1 at go
    refine ⟨fun h => absurd h (nI_ge (by omega) (by omega)), fun _ => ?_⟩
    refine p_M_isGate hc (by omega) (fun hk => ⟨fun e => absurd e (by decide), fun _ => ?_⟩) (fun hk => ⟨fun _ => ?_, fun e => absurd rfl e⟩)
    · refine p_M_isInRing hc hwf (by omega) (fun hr => ⟨fun e => absurd e (by decide), fun _ => ?_⟩) (fun hr => ⟨fun _ => ?_, fun e => absurd rfl e⟩)
      · rw [if_pos ⟨hk, hr⟩] at go
        exact p_M_note hL hlt fun m2 f2 c2 => go m2 f2 c2
      · rw [if_neg (fun h => by rw [hr] at h; exact absurd h.2 (by decide)), List.append_nil] at go
        exact go m (FN.refl m) hL
    · rw [if_neg (fun h => h.1 hk), List.append_nil] at go
      exact go m (FN.refl m) hL
theorem p_M_noteFlaws {K : Mem → Prop} (hc : MC m g n) (hwf : ∀ l, l < n → WFl g l) (hK : ∀ m', FN m m' → MF m' (FL g n) → K m') : w_M_noteFlaws m K := by
  have hn := hc.1
  unfold w_M_noteFlaws
  intro m1 e1
  have f1 : FN m m1 := by
    rw [e1]
    exact ⟨fun i hi hj => by simp (disch := omega) only [up2, up_ne], fun j hj => by simp (disch := omega) only [up2, up_same, upd_ne]⟩
  have L1 : MF m1 (FLw g n 0) := ⟨by rw [e1]; simp only [up2, up_same, upd_same]; rfl, fun i p hp => by cases hp⟩
  refine p_M_noteFlaws_7 24 0 25 m1 (by omega) (by omega) (hc.fn f1) L1 fun m2 f2 L2 => ?_
  refine p_M_noteFlaws_86 hwf n 0 31 m2 (by omega) (by omega) ((hc.fn f1).fn f2) (by rw [show FLw g n 24 ++ FLl g n 0 = FLw g n 24 from List.append_nil _]; exact L2) fun m3 f3 L3 => ?_
  exact hK m3 ((f1.trans f2).trans f3) L3
end MF1
