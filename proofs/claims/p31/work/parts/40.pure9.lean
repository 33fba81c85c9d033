/-! the class's run, on: changes, what comes next, coming -/
def C_nextL (ρ : Rw) (u : Int32) : Nat → Nat → Int32 → Int32
  | 0, _, b => b
  | r + 1, l, b => C_nextL ρ u r (l + 1) (if ρ (102 + l) = -1 then b else if u < ρ (132 + l) then b else if b = -1 ∨ ρ (132 + l) < ρ (132 + cl b) ∨ (ρ (132 + l) = ρ (132 + cl b) ∧ ¬ ρ (162 + cl b) ≤ ρ (162 + l)) then nI l else b)
def C_next (n : Nat) (u : Int32) (ρ : Rw) : Int32 := C_nextL ρ u n 0 (-1)
def S_cut (ρ : Rw) (u : Int32) (b : Int32) : Int32 := if b = -1 ∨ u < ρ (132 + cl b) then -1 else b
theorem C_nextL_eq {ρ : Rw} {u : Int32} : ∀ (r l : Nat) (bm bc : Int32), l + r ≤ 30 → bc = S_cut ρ u bm → C_nextL ρ u r l bc = S_cut ρ u (S_nextL ρ r l bm)
  | 0, _, _, _, _, h => h
  | r + 1, l, bm, bc, hl, h => by
    unfold C_nextL S_nextL
    refine C_nextL_eq r (l + 1) _ _ (by omega) ?_
    have ecl : cl (nI l) = l := cl_nI (by omega)
    have nl : ¬ nI l = -1 := nI_m1 (by omega)
    by_cases hp : ρ (102 + l) = -1
    · rw [if_pos hp, if_pos hp]; exact h
    · rw [if_neg hp, if_neg hp]
      by_cases hm : bm = -1
      · have hb : bc = -1 := by rw [h, S_cut, if_pos (Or.inl hm)]
        rw [if_pos (show bm = -1 ∨ _ from Or.inl hm), if_pos (show bc = -1 ∨ _ from Or.inl hb)]
        unfold S_cut
        rw [ecl]
        by_cases hu : u < ρ (132 + l)
        · rw [if_pos hu, if_pos (Or.inr hu)]; exact hb
        · rw [if_neg hu, if_neg (fun hh => hh.elim nl hu)]
      · by_cases hu2 : u < ρ (132 + cl bm)
        · have hb : bc = -1 := by rw [h, S_cut, if_pos (Or.inr hu2)]
          rw [if_pos (show bc = -1 ∨ _ from Or.inl hb)]
          by_cases hbt : ρ (132 + l) < ρ (132 + cl bm) ∨ (ρ (132 + l) = ρ (132 + cl bm) ∧ ¬ ρ (162 + cl bm) ≤ ρ (162 + l))
          · rw [if_pos (show bm = -1 ∨ _ from Or.inr hbt)]
            unfold S_cut
            rw [ecl]
            by_cases hu : u < ρ (132 + l)
            · rw [if_pos hu, if_pos (Or.inr hu)]; exact hb
            · rw [if_neg hu, if_neg (fun hh => hh.elim nl hu)]
          · rw [if_neg (show ¬ (bm = -1 ∨ _) from fun hh => hh.elim hm hbt)]
            have hu : u < ρ (132 + l) := by
              rw [Int32.lt_iff_toInt_lt] at hu2 ⊢
              have : ¬ ρ (132 + l) < ρ (132 + cl bm) := fun e => hbt (Or.inl e)
              rw [Int32.lt_iff_toInt_lt] at this
              omega
            rw [if_pos hu, S_cut, if_pos (Or.inr hu2)]; exact hb
        · have hb : bc = bm := by rw [h, S_cut, if_neg (fun hh => hh.elim hm hu2)]
          rw [hb]
          by_cases hbt : ρ (132 + l) < ρ (132 + cl bm) ∨ (ρ (132 + l) = ρ (132 + cl bm) ∧ ¬ ρ (162 + cl bm) ≤ ρ (162 + l))
          · rw [if_pos (show bm = -1 ∨ _ from Or.inr hbt)]
            have hu : ¬ u < ρ (132 + l) := by
              rw [Int32.lt_iff_toInt_lt] at hu2 ⊢
              have : ρ (132 + l) ≤ ρ (132 + cl bm) := by
                rcases hbt with e | e
                · rw [Int32.lt_iff_toInt_lt] at e; rw [Int32.le_iff_toInt_le]; omega
                · rw [e.1]; exact Int32.le_refl _
              rw [Int32.le_iff_toInt_le] at this
              omega
            rw [if_neg hu, S_cut, ecl, if_neg (fun hh => hh.elim nl hu)]
          · rw [if_neg (show ¬ (bm = -1 ∨ _) from fun hh => hh.elim hm hbt), S_cut, if_neg (show ¬ (bm = -1 ∨ u < ρ (132 + cl bm)) from fun hh => hh.elim hm hu2)]
            split <;> rfl
theorem C_next_eq {n : Nat} {u : Int32} {ρ : Rw} (hn : n ≤ 30) : C_next n u ρ = S_cut ρ u (S_next n ρ) := C_nextL_eq n 0 _ _ (by omega) (by rw [S_cut, if_pos (Or.inl rfl)])
theorem RW.come {g : Mem} {n l : Nat} {ρ : Rw} (hn : n ≤ 30) (hwf : ∀ l, l < n → WFl g l) (h : RW g n ρ) (hl : l < n) (hp : ¬ ρ (102 + l) = -1) : RW g n (S_come g n l ρ) := ⟨S_come_hz h.1, h.2.1.come hn hwf hl hp, h.2.2.come hwf hl⟩
theorem RW.ask1 {g : Mem} {n l w : Nat} {was : Int32} {ρ : Rw} (hn : n ≤ 30) (hwf : ∀ l, l < n → WFl g l) (h : RW g n ρ) (hl : l < n) : RW g n (S_ask1 g w was l ρ) := ⟨S_ask1_hz h.1, h.2.1.ask1 (by omega) (hwf l hl), h.2.2.ask1 hl⟩
theorem RW.chg0 {g : Mem} {n w : Nat} {v : Int32} {ρ : Rw} (h : RW g n ρ) (hw : w < 24) (hv : isV v) : RW g n (S_chg0 w v ρ) := ⟨S_chg0_hz h.1, h.2.1.chg0 hw hv, h.2.2.chg0 hw⟩
theorem RW.change {g : Mem} {n w : Nat} {v : Int32} {ρ : Rw} (hn : n ≤ 30) (hwf : ∀ l, l < n → WFl g l) (h : RW g n ρ) (hw : w < 24) (hv : isV v) : RW g n (S_change g n w v ρ) := ⟨S_change_hz h.1, h.2.1.change hn hwf hw hv, h.2.2.change hw⟩
theorem RW.begin {g : Mem} {n : Nat} {ρ : Rw} (h : RW g n ρ) : RW g n (S_begin ρ) := ⟨S_begin_hz h.1, h.2.1.begin, h.2.2.begin⟩
theorem RW.pass {g : Mem} {n : Nat} {u : Int32} {ρ : Rw} (hn : n ≤ 30) (hwf : ∀ l, l < n → WFl g l) (h : RW g n ρ) : RW g n (S_pass g n u ρ) := ⟨S_passL_hz _ h.1, VR.passL hn hwf _ h.2.1, PN.passL hn hwf _ h.2.2⟩
theorem RW.settle {g : Mem} {n : Nat} {ρ : Rw} (hn : n ≤ 30) (hwf : ∀ l, l < n → WFl g l) (h : RW g n ρ) : RW g n (S_settle g n ρ) := ⟨S_settle_hz h.1, h.2.1.settle hn hwf, h.2.2.settle hn hwf⟩
section CR3
variable {m g : Mem} {n r : Nat} {ρ : Rw}
theorem s_C_isUsedBy {l w : Nat} {K : Int32 → Mem → Prop} (hcc : CC m g n) (hl : l < n) (hw : w < 24) (h1 : S_uses g l w → K 1 m) (h0 : ¬ S_uses g l w → K 0 m) : w_C_isUsedBy (nI w) (nI l) m K := by
  have hn := hcc.1
  have hu := hcc.2.2.2.1 w hw l (by omega)
  unfold w_C_isUsedBy
  rw [nI_clamp (by omega)]
  refine ⟨vp_in_nI hw (by decide), ?_⟩
  rw [bt_test (by omega)]
  refine ⟨fun e => h0 fun hh => ?_, fun e => h1 ?_⟩
  · rw [hu.mpr ⟨hl, hh⟩] at e; cases e
  · cases hb : bt (m 11 w) l
    · exact absurd hb e
    · exact (hu.mp hb).2
theorem CL.gate {l k : Nat} (h : CL m g l) (hk : k < 8) (e : g 48 l = nI k) : m 3 l = nI k := by
  rcases h.2.2.2.2.2 with hh | hh | ⟨k', hk', e', hh⟩
  · exact absurd (e.symm.trans hh.1) (nI_m1 (by omega))
  · exfalso
    have := congrArg Int32.toInt (e.symm.trans hh.1)
    rw [nI_toInt (by omega), show (-2 : Int32).toInt = -2 by decide] at this
    omega
  · exact hh.1.trans (e'.symm.trans e)
theorem CL.reg {l : Nat} (h : CL m g l) (e : g 48 l = -2) : m 3 l = 9 := by
  rcases h.2.2.2.2.2 with hh | hh | ⟨k', hk', e', hh⟩
  · exact absurd (hh.1.symm.trans e) (by decide)
  · exact hh.2.1
  · exfalso
    have := congrArg Int32.toInt (e'.symm.trans e)
    rw [nI_toInt (by omega), show (-2 : Int32).toInt = -2 by decide] at this
    omega
theorem s_R_change_65 {w : Nat} {v was : Int32} {E : Int32 → Int32 → Int32 → Int32 → Mem → Prop} {K : Mem → Prop} (hr : 23 ≤ r) (hw : w < 24) (hwf : ∀ l, l < n → WFl g l) : ∀ (k l f : Nat) (m : Mem) (ρ : Rw), l + k = n → k < f → CC m g n → RW g n ρ → RR r m ρ →
    (∀ m', FR r m m' → RR r m' (S_ask g w was k l ρ) → E (nI w) v was (nI n) m') → w_R_change_65 f r (nI w) v was (nI l) m E K := by
  intro k
  induction k with
  | zero =>
    intro l f m ρ hl hf hcc hrw h hE
    have hln : l = n := by omega
    subst hln
    obtain ⟨f, rfl⟩ : ∃ q, f = q + 1 := ⟨f - 1, by omega⟩
    unfold w_R_change_65
    rw [hcc.2.1]
    exact ⟨fun _ => hE m (FR.refl r m) h, fun hh => absurd (nI_le (Nat.le_refl _) (by have := hcc.1; omega)) hh⟩
  | succ k ih =>
    intro l f m ρ hl hf hcc hrw h hE
    have hn := hcc.1
    obtain ⟨f, rfl⟩ : ∃ q, f = q + 1 := ⟨f - 1, by omega⟩
    unfold w_R_change_65
    rw [hcc.2.1]
    refine ⟨fun hh => absurd hh (nI_ge (by omega) (by omega)), fun _ => ?_⟩
    have hw' := hwf l (by omega)
    have hrw' : RW g n (S_ask1 g w was l ρ) := hrw.ask1 hn hwf (by omega)
    have go : ∀ m', FR r m m' → RR r m' (S_ask1 g w was l ρ) → w_R_change_65 f r (nI w) v was (nI l + 1) m' E K := by
      intro m' f' r'
      rw [nA1]
      exact ih (l + 1) f m' _ (by omega) (by omega) (hcc.fr hr f') hrw' r' fun m2 f2 r2 => hE m2 (f'.trans f2) r2
    unfold S_ask1 at go
    refine s_C_isUsedBy hcc (by omega) hw (fun hu => ⟨fun _ => ⟨vp_in_nI (by omega) (by decide), ?_⟩, fun e => absurd e (by decide)⟩) (fun hu => ⟨fun e => absurd rfl e, fun _ => ?_⟩)
    · rw [if_pos (show g 50 l = nI w ∨ g 51 l = nI w ∨ g 52 l = nI w from hu)] at go
      rw [nI_clamp (by omega)]
      by_cases hk : g 48 l < 0
      · have e2 := hw'.notIn hw hu hk
        rw [if_pos hk] at go
        rw [(hcc.2.2.1 l (by omega)).reg e2]
        refine ⟨fun e => absurd rfl e, fun _ => ?_⟩
        exact s_R_askRegister hcc hr (by omega) hw' e2 hw hrw.1 h go
      · obtain ⟨q, hq, eq⟩ := hw'.gate hk
        rw [if_neg hk] at go
        rw [(hcc.2.2.1 l (by omega)).gate hq eq]
        refine ⟨fun _ => ?_, fun e => absurd ((nI_eq (b := 9) (by omega) (by decide)).mp e) (by omega)⟩
        exact s_R_askGate hcc hr (by omega) hw' hq eq hrw.2.1 h go
    · rw [if_neg (show ¬ (g 50 l = nI w ∨ g 51 l = nI w ∨ g 52 l = nI w) from hu)] at go
      exact go m (FR.refl r m) h
theorem s_R_change {w : Nat} {v : Int32} {K : Mem → Prop} (hcc : CC m g n) (hr : 23 ≤ r) (hw : w < 24) (hv : isV v) (hwf : ∀ l, l < n → WFl g l) (hrw : RW g n ρ) (h : RR r m ρ)
    (hK : ∀ m', FR r m m' → RR r m' (if ρ (6 + w) = v then ρ else S_change g n w v ρ) → K m') : w_R_change r (nI w) v m K := by
  have hn := hcc.1
  have hin : vp_in (nI w) 24 := vp_in_nI hw (by decide)
  have e1 : m (r + 1) w = ρ (6 + w) := h.1 w hw
  unfold w_R_change
  refine s_N_isWire hw ⟨fun e => absurd e (by decide), fun _ => ⟨hin, ?_⟩⟩
  rw [nI_clamp (by omega), e1]
  refine ⟨fun ne => ⟨hin, hin, ?_⟩, fun eq => ?_⟩
  · rw [if_neg ne] at hK
    intro m5 e5
    have q5 : m5 r 13 = m r 13 := by rw [e5]; simp (disch := omega) only [up2, up_ne]
    rw [q5]
    refine ⟨hin, ?_⟩
    intro m6 e6
    have q6 : m6 (r + 3) w = m (r + 3) w := by rw [e6, e5]; simp (disch := omega) only [up2, up_ne]
    rw [q6]
    refine ⟨hin, hin, ?_⟩
    intro m7 e7 m8 e8
    have q7 : m7 r 17 = m r 17 := by rw [e7, e6, e5]; simp (disch := omega) only [up2, up_ne]
    rw [q7] at e8
    subst e5 e6 e7 e8
    have f8 := FR.up (r := r) (j := r) (v := upd ((up2 (up2 (up2 m (r + 1) w v) (r + 2) w (m r 13)) (r + 3) w (m (r + 3) w + 1)) r) 17 (m r 17 + 1)) (FR.up (j := r + 3) (v := upd ((up2 (up2 m (r + 1) w v) (r + 2) w (m r 13)) (r + 3)) w (m (r + 3) w + 1)) (FR.up (j := r + 2) (v := upd ((up2 m (r + 1) w v) (r + 2)) w (m r 13)) (FR.up (j := r + 1) (v := upd (m (r + 1)) w v) (FR.refl r m) (by omega)) (by omega)) (by omega)) (by omega)
    have r8 := h.chg0 (g := g) (n := n) (v := v) hw
    exact s_R_change_65 hr hw hwf n 0 31 _ _ (by omega) (by omega) (hcc.fr hr f8) (hrw.chg0 hw hv) r8 fun m2 f2 r2 => hK m2 (f8.trans f2) r2
  · rw [if_pos eq] at hK
    exact hK m (FR.refl r m) h
theorem s_R_comes {l b : Nat} {K : Int32 → Mem → Prop} (hn : n ≤ 30) (hl : l < n) (hb : b < n) (h : RR r m ρ) (pl : ¬ ρ (102 + l) = -1) (pb : ¬ ρ (102 + b) = -1)
    (h1 : (ρ (132 + l) < ρ (132 + b) ∨ (ρ (132 + l) = ρ (132 + b) ∧ ¬ ρ (162 + b) ≤ ρ (162 + l))) → K 1 m) (h0 : ¬ (ρ (132 + l) < ρ (132 + b) ∨ (ρ (132 + l) = ρ (132 + b) ∧ ¬ ρ (162 + b) ≤ ρ (162 + l))) → K 0 m) : w_R_comesAheadOf r (nI l) (nI b) m K := by
  have il : vp_in (nI l) 30 := vp_in_nI (by omega) (by decide)
  have ib : vp_in (nI b) 30 := vp_in_nI (by omega) (by decide)
  obtain ⟨l6, l7⟩ := h.2.2.2.2.2.1 l (by omega) pl
  obtain ⟨b6, b7⟩ := h.2.2.2.2.2.1 b (by omega) pb
  unfold w_R_comesAheadOf
  rw [nI_clamp (by omega), nI_clamp (by omega), l6, b6, l7, b7]
  refine ⟨il, ib, fun eq => ⟨il, ib, fun e => h0 fun hh => ?_, fun ne => h1 (Or.inr ⟨eq, ne⟩)⟩, fun ne => ⟨il, ib, fun e => h0 fun hh => ?_, fun n2 => h1 (Or.inl ?_)⟩⟩
  · rcases hh with hh | hh
    · rw [Int32.lt_iff_toInt_lt, eq] at hh; omega
    · exact hh.2 e
  · rcases hh with hh | hh
    · rw [Int32.lt_iff_toInt_lt] at hh; rw [Int32.le_iff_toInt_le] at e; omega
    · exact ne hh.1
  · rw [Int32.le_iff_toInt_le] at n2; rw [Int32.lt_iff_toInt_lt]; omega
theorem s_R_nextLine_4 {u : Int32} {E : Int32 → Int32 → Int32 → Mem → Prop} {K : Int32 → Mem → Prop} (hcc : CC m g n) (h : RR r m ρ) : ∀ (k l f : Nat) (b : Int32), l + k = n → k < f → (b = -1 ∨ ∃ q, q < n ∧ b = nI q ∧ ¬ ρ (102 + q) = -1) →
    (E u (C_nextL ρ u k l b) (nI n) m) → w_R_nextLine_4 f r u b (nI l) m E K := by
  intro k
  induction k with
  | zero =>
    intro l f b hl hf hb hE
    have hln : l = n := by omega
    subst hln
    obtain ⟨f, rfl⟩ : ∃ q, f = q + 1 := ⟨f - 1, by omega⟩
    unfold w_R_nextLine_4
    rw [hcc.2.1]
    exact ⟨fun _ => hE, fun hh => absurd (nI_le (Nat.le_refl _) (by have := hcc.1; omega)) hh⟩
  | succ k ih =>
    intro l f b hl hf hb hE
    have hn := hcc.1
    obtain ⟨f, rfl⟩ : ∃ q, f = q + 1 := ⟨f - 1, by omega⟩
    have hin : vp_in (nI l) 30 := vp_in_nI (by omega) (by decide)
    unfold w_R_nextLine_4
    rw [hcc.2.1, nI_clamp (by omega)]
    refine ⟨fun hh => absurd hh (nI_ge (by omega) (by omega)), fun _ => ⟨hin, ?_⟩⟩
    rw [h.2.2.2.2.1 l (by omega)]
    unfold C_nextL at hE
    have go : ∀ b', (if ρ (102 + l) = -1 then b else if u < ρ (132 + l) then b else if b = -1 ∨ ρ (132 + l) < ρ (132 + cl b) ∨ (ρ (132 + l) = ρ (132 + cl b) ∧ ¬ ρ (162 + cl b) ≤ ρ (162 + l)) then nI l else b) = b' → (b' = -1 ∨ ∃ q, q < n ∧ b' = nI q ∧ ¬ ρ (102 + q) = -1) → w_R_nextLine_4 f r u b' (nI l + 1) m E K := by
      intro b' hb' hq
      rw [hb'] at hE
      rw [nA1]
      exact ih (l + 1) f b' (by omega) (by omega) hq hE
    refine ⟨fun hp => go _ (by rw [if_pos hp]) hb, fun hp => ⟨hin, ?_⟩⟩
    rw [(h.2.2.2.2.2.1 l (by omega) hp).1]
    have hlr : nI l = -1 ∨ ∃ q, q < n ∧ nI l = nI q ∧ ¬ ρ (102 + q) = -1 := Or.inr ⟨l, by omega, rfl, hp⟩
    refine ⟨fun hu => go _ (by rw [if_neg hp, if_pos hu]) hb, fun hu => ⟨fun hb1 => go _ (by rw [if_neg hp, if_neg hu, if_pos (Or.inl hb1)]) hlr, fun hb1 => ?_⟩⟩
    obtain ⟨q, hq, rfl, hpq⟩ := hb.resolve_left hb1
    have ecl : cl (nI q) = q := cl_nI (by omega)
    rw [ecl] at go
    refine s_R_comes hn (by omega) hq h hp hpq (fun hy => ⟨fun e => absurd e (by decide), fun _ => go _ (by rw [if_neg hp, if_neg hu, if_pos (Or.inr hy)]) hlr⟩) (fun hno => ⟨fun _ => go _ (by rw [if_neg hp, if_neg hu, if_neg (fun hh => hh.elim hb1 hno)]) hb, fun e => absurd rfl e⟩)
theorem s_R_nextLine {u : Int32} {K : Int32 → Mem → Prop} (hcc : CC m g n) (h : RR r m ρ) (hK : K (C_next n u ρ) m) : w_R_nextLine r u m K := by
  unfold w_R_nextLine
  exact s_R_nextLine_4 hcc h n 0 31 (-1) (by omega) (by have := hcc.1; omega) (Or.inl rfl) hK
end CR3
