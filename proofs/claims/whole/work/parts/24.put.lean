/-! the reference's methods that put its row by: clear, putBy, settlesNow, wouldBe, hazardsWith -/
def rw_ (g : Nat → Int32) : Ce := .inl (.int, 342, .inl g)
theorem tok_pos {t : Nat} (h : tok t) : 0 < t := by rcases h with h | h <;> omega
theorem kok_tok {t k : Nat} (h : kok t k) : tok k := Or.inr h.1
theorem kok_up {t k : Nat} (h : kok t k) : kok k (k + 1) := ⟨Nat.le_succ_of_le h.1, Nat.lt_succ_self k⟩
theorem kok_s {t k : Nat} (h : kok t k) : kok t (k + 1) := ⟨Nat.le_succ_of_le h.1, Nat.lt_succ_of_lt h.2⟩
theorem sh_tok {t u : Nat} {ex : Hp} {o : Nat → Int64} {g : Nat → Int32} (h : tok u) : sh t ex o u g = ex u := by
  rcases h with rfl | h
  · rfl
  · exact sh_big h
theorem lay_u {t u : Nat} {ex : Hp} {o : Nat → Int64} {m : Mem} {g : Nat → Int32} (hu : tok u) (hut : u ≠ t) (hug : ex u = rw_ g) : lay t ex o m u = .inl (.int, 342, .inl g) := by
  simp only [lay, if_neg hut, sh_tok hu, hug]; rfl
theorem lay_ext_t {t : Nat} {ex : Hp} {o : Nat → Int64} {m : Mem} (c : Ce) (ht : tok t) : lay t (va_up ex t c) o m = lay t ex o m := by
  funext j
  by_cases hj : j = t
  · subst hj; simp [lay]
  · simp only [lay, if_neg hj]
    unfold sh
    split <;> first | rfl | simp [va_up, hj]
theorem va_up_up {α : Type} {f : Nat → α} {i : Nat} {a b : α} : va_up (va_up f i a) i b = va_up f i b := by
  funext j
  by_cases h : j = i <;> simp [va_up, h]
theorem lay_put {t u : Nat} {ex : Hp} {o : Nat → Int64} {m : Mem} {g : Nat → Int32} (ht : tok t) (hu : tok u) (hut : u ≠ t) (hug : ex u = rw_ g) : va_up (lay t ex o m) 47 (sh u ex o 47 (m 47)) = lay u (va_up ex t (rw_ (m 60))) o (va_up m 60 g) := by
  have h47t : (47 : Nat) ≠ t := fix_ne ht (by decide)
  have h47u : (47 : Nat) ≠ u := fix_ne hu (by decide)
  funext j
  by_cases hj : j = 47
  · subst hj
    simp only [va_up, if_true, lay, if_neg h47u]
    rfl
  · by_cases hju : j = u
    · subst hju
      simp only [va_up, if_neg hj, lay, if_neg hut, if_true, sh_tok hu, hug]
      rfl
    · by_cases hjt : j = t
      · subst hjt
        simp only [va_up, if_neg hj, lay, if_true, if_neg hju, sh_tok ht]
        rfl
      · by_cases h60 : j = 60
        · subst h60
          simp only [va_up, if_neg hj, lay, if_neg hju, if_neg hjt, sh_tok (Or.inl rfl)]
        · simp only [va_up, if_neg hj, lay, if_neg hju, if_neg hjt, if_neg h60]
          unfold sh
          split <;> first | rfl | simp_all [va_up]
theorem put_back {t k : Nat} {ex ex2 : Hp} {c1 c2 : Ce} (hk : kok t k) (h : ∀ i, i ≠ k → ex2 i = va_up (va_up ex k c1) t c2 i) : exle k ex (k + 1) (va_up ex2 t (ex t)) := by
  refine ⟨Nat.le_succ k, fun i hi => ?_⟩
  have hik := Nat.ne_of_lt hi
  by_cases hit : i = t
  · subst hit; simp [va_up]
  · simp [va_up, hit, h i hik, hik]
section LW2
variable {Z : Gz} {μ : Mt} {d k0 mc ms : Nat} {Q : Po} {pc : Nat} {L S : List Value} {k cs ss t u : Nat} {ex : Hp} {o : Nat → Int64} {m : Mem} {g : Nat → Int32}
theorem LW.putT {index : Nat} (ht : tok t) (hu : tok u) (hut : u ≠ t) (hug : ex u = rw_ g) (hd : decode μ.2.1 pc = .ok (.putfield index, 3)) (hw : Cond.fieldLink μ.1.cls index (TX5 10).1 (TX5 10).2.1 (TX5 10).2.2.1 ∈ lw_tbl)
    (K : AW Z μ d k0 mc ms Q (pc + 3) L S (lay u (va_up ex t (rw_ (m 60))) o (va_up m 60 g)) k cs ss) : AW Z μ d k0 mc ms Q pc L (.ref u :: .ref 47 :: S) (lay t ex o m) k cs ss := by
  refine AW.put (i := 47) (ci := 5) (f := 10) (N := 16) (C := RX5) (T := TX5) hd hw rfl (by decide) rfl (by decide) ((lay_at ht (by decide)).trans rfl) (Nat.le_of_ble_eq_true rfl) rfl (fun _ => ⟨rfl, rfl⟩) rfl ?_
  rw [← lay_put ht hu hut hug] at K
  exact K
theorem LW.newR (hk : kok t k) (hd : decode μ.2.1 pc = .ok (.newarray .int, 2)) (hw : Cond.arrayClass .int ∈ lw_tbl) (hcs : cs + 1 ≤ mc) (hss : ss + 342 ≤ ms)
    (K : AW Z μ d k0 mc ms Q (pc + 2) L (.ref k :: S) (lay t (va_up ex k (rw_ (fun _ => 0))) o m) (k + 1) (cs + 1) (ss + 342)) : AW Z μ d k0 mc ms Q pc L (.int 342 :: S) (lay t ex o m) k cs ss := by
  refine AW.newa (ty := .int) (N := 342) (a0 := (342, .inl (fun _ => 0))) hd rfl (Or.inl rfl) hw (fun _ => rfl) (by decide) (by decide) (by decide) hcs hss ?_
  rw [lay_any _ hk]
  exact K
end LW2
abbrev mX5_clear : Mt := (yX5_clear, cX5_clear, 2, none, [])
set_option maxRecDepth 20000 in
theorem ok_X5_clear : aw_mok mX5_clear 0 := ⟨rfl, tw_797, tw_8, ⟨by decide, by decide⟩, by decide +kernel, by decide⟩
abbrev mX5_putBy : Mt := (yX5_putBy, cX5_putBy, 2, (some (.array .int)), [])
set_option maxRecDepth 20000 in
theorem ok_X5_putBy : aw_mok mX5_putBy 0 := ⟨rfl, tw_1098, tw_8, ⟨by decide, by decide⟩, by decide +kernel, by decide⟩
abbrev mX5_settlesNow : Mt := (yX5_settlesNow, cX5_settlesNow, 3, (some .int), [])
set_option maxRecDepth 20000 in
theorem ok_X5_settlesNow : aw_mok mX5_settlesNow 0 := ⟨rfl, tw_1111, tw_8, ⟨by decide, by decide⟩, by decide +kernel, by decide⟩
abbrev mX5_wouldBe : Mt := (yX5_wouldBe, cX5_wouldBe, 6, (some .int), [])
set_option maxRecDepth 20000 in
theorem ok_X5_wouldBe : aw_mok mX5_wouldBe 3 := ⟨rfl, tw_1094, tw_8, ⟨by decide, by decide⟩, by decide +kernel, by decide⟩
abbrev mX5_hazardsWith : Mt := (yX5_hazardsWith, cX5_hazardsWith, 5, (some .int), [])
set_option maxRecDepth 20000 in
theorem ok_X5_hazardsWith : aw_mok mX5_hazardsWith 2 := ⟨rfl, tw_1103, tw_8, ⟨by decide, by decide⟩, by decide +kernel, by decide⟩
def w_M_clear_9_11 : Nat → Int32 → Mem → (Int32 → Mem → Prop) → (Mem → Prop) → Prop
  | 0, _, _, _, _ => False
  | n + 1, x1, m, E53, K => (((24 : Int32) ≤ x1 → E53 x1 m) ∧ (¬ ((24 : Int32) ≤ x1) → vp_in ((6 : Int32) + x1) 342 ∧ ∀ m2 : Mem, m2 = up2 m 60 (((6 : Int32) + x1).toNatClampNeg) (2 : Int32) → vp_in ((30 : Int32) + x1) 342 ∧ ∀ m3 : Mem, m3 = up2 m2 60 (((30 : Int32) + x1).toNatClampNeg) (-1 : Int32) → vp_in ((78 : Int32) + x1) 342 ∧ ∀ m4 : Mem, m4 = up2 m3 60 (((78 : Int32) + x1).toNatClampNeg) (2 : Int32) → w_M_clear_9_11 n (x1 + 1) m4 E53 K))
def w_M_clear_9_55 : Nat → Int32 → Mem → (Int32 → Mem → Prop) → (Mem → Prop) → Prop
  | 0, _, _, _, _ => False
  | n + 1, x1, m, E88, K => (((30 : Int32) ≤ x1 → E88 x1 m) ∧ (¬ ((30 : Int32) ≤ x1) → vp_in ((102 : Int32) + x1) 342 ∧ ∀ m8 : Mem, m8 = up2 m 60 (((102 : Int32) + x1).toNatClampNeg) (-1 : Int32) → vp_in ((192 : Int32) + x1) 342 ∧ ∀ m9 : Mem, m9 = up2 m8 60 (((192 : Int32) + x1).toNatClampNeg) (-1 : Int32) → w_M_clear_9_55 n (x1 + 1) m9 E88 K))
def w_M_clear_9 (m : Mem) (K : Mem → Prop) : Prop :=
  w_M_clear_9_11 25 (0 : Int32) m (fun y5 m6 => w_M_clear_9_55 31 (0 : Int32) m6 (fun y10 m11 => K m11) K) K
set_option maxRecDepth 100000 in
set_option maxHeartbeats 4000000 in
theorem l_M_clear_9_11 {Z : Gz} {d k0 mc ms cs ss k t : Nat} {Q : Po} {ex : Hp} {o : Nat → Int64} {K : Mem → Prop}  (ht : tok t) (hd : 2 ≤ d) (hcs : cs ≤ mc) (hss : ss ≤ ms) (hQ : ∀ (m : Mem), K m → Q (.inl none) (lay t ex o m) k) {E53 : Int32 → Mem → Prop} (hE53 : ∀ (x1 : Int32) (m : Mem), E53 x1 m → AW Z mX5_clear d k0 mc ms Q 53 [.ref 47, .int x1] [] (lay t ex o m) k cs ss) : ∀ (n : Nat) (x1 : Int32) (m : Mem),  w_M_clear_9_11 n x1 m E53 K → AW Z mX5_clear d k0 mc ms Q 11 [.ref 47, .int x1] [] (lay t ex o m) k cs ss := by
  intro n
  induction n with
  | zero =>
    intros; rename_i hw; exact absurd hw (by simp [w_M_clear_9_11])
  | succ n ih =>
    intro x1 m hw
    unfold w_M_clear_9_11 at hw
    refine AW.iload_n (pc := 11) dX5_clear_11 rfl rfl ?_
    refine AW.bipush (v := 24) (pc := 12) dX5_clear_12 (by decide) ?_
    refine AW.icmp_ge (pc := 14) (tgt := 53) dX5_clear_14 (by decide) (fun c1 => ?_) (fun c1 => ?_)
    · have hw := hw.1 c1
      exact hE53 x1 m hw
    · have hw := hw.2 c1
      refine AW.aload_n (pc := 17) dX5_clear_17 rfl rfl ?_
      refine LW.get (pc := 18) (f := 10) (ci := 5) (T := TX5) ht (by decide) rfl dX5_clear_18 tw_808 rfl (by decide) rfl ?_
      refine AW.bipush (v := 6) (pc := 21) dX5_clear_21 (by decide) ?_
      refine AW.iload_n (pc := 23) dX5_clear_23 rfl rfl ?_
      refine AW.iadd (pc := 24) dX5_clear_24 ?_
      refine AW.iconst (v := 2) (pc := 25) dX5_clear_25 (by decide) ?_
      obtain ⟨hin, hw⟩ := hw
      have hw := hw _ rfl
      refine LW.iastt (pc := 26) (j := ((6 : Int32) + x1).toNatClampNeg) ht dX5_clear_26 hin rfl ?_
      generalize up2 m 60 (((6 : Int32) + x1).toNatClampNeg) (2 : Int32) = m2 at hw ⊢
      refine AW.aload_n (pc := 27) dX5_clear_27 rfl rfl ?_
      refine LW.get (pc := 28) (f := 10) (ci := 5) (T := TX5) ht (by decide) rfl dX5_clear_28 tw_808 rfl (by decide) rfl ?_
      refine AW.bipush (v := 30) (pc := 31) dX5_clear_31 (by decide) ?_
      refine AW.iload_n (pc := 33) dX5_clear_33 rfl rfl ?_
      refine AW.iadd (pc := 34) dX5_clear_34 ?_
      refine AW.iconst (v := -1) (pc := 35) dX5_clear_35 (by decide) ?_
      obtain ⟨hin, hw⟩ := hw
      have hw := hw _ rfl
      refine LW.iastt (pc := 36) (j := ((30 : Int32) + x1).toNatClampNeg) ht dX5_clear_36 hin rfl ?_
      generalize up2 m2 60 (((30 : Int32) + x1).toNatClampNeg) (-1 : Int32) = m3 at hw ⊢
      refine AW.aload_n (pc := 37) dX5_clear_37 rfl rfl ?_
      refine LW.get (pc := 38) (f := 10) (ci := 5) (T := TX5) ht (by decide) rfl dX5_clear_38 tw_808 rfl (by decide) rfl ?_
      refine AW.bipush (v := 78) (pc := 41) dX5_clear_41 (by decide) ?_
      refine AW.iload_n (pc := 43) dX5_clear_43 rfl rfl ?_
      refine AW.iadd (pc := 44) dX5_clear_44 ?_
      refine AW.iconst (v := 2) (pc := 45) dX5_clear_45 (by decide) ?_
      obtain ⟨hin, hw⟩ := hw
      have hw := hw _ rfl
      refine LW.iastt (pc := 46) (j := ((78 : Int32) + x1).toNatClampNeg) ht dX5_clear_46 hin rfl ?_
      generalize up2 m3 60 (((78 : Int32) + x1).toNatClampNeg) (2 : Int32) = m4 at hw ⊢
      refine AW.iinc (v := (x1 + 1)) (L' := [.ref 47, .int (x1 + 1)]) (pc := 47) dX5_clear_47 rfl rfl (by decide) rfl rfl ?_
      refine AW.goto (pc := 50) (tgt := 11) dX5_clear_50 (by decide) ?_
      exact ih (x1 + 1) m4 hw
set_option maxRecDepth 100000 in
set_option maxHeartbeats 4000000 in
theorem l_M_clear_9_55 {Z : Gz} {d k0 mc ms cs ss k t : Nat} {Q : Po} {ex : Hp} {o : Nat → Int64} {K : Mem → Prop}  (ht : tok t) (hd : 2 ≤ d) (hcs : cs ≤ mc) (hss : ss ≤ ms) (hQ : ∀ (m : Mem), K m → Q (.inl none) (lay t ex o m) k) {E88 : Int32 → Mem → Prop} (hE88 : ∀ (x1 : Int32) (m : Mem), E88 x1 m → AW Z mX5_clear d k0 mc ms Q 88 [.ref 47, .int x1] [] (lay t ex o m) k cs ss) : ∀ (n : Nat) (x1 : Int32) (m : Mem),  w_M_clear_9_55 n x1 m E88 K → AW Z mX5_clear d k0 mc ms Q 55 [.ref 47, .int x1] [] (lay t ex o m) k cs ss := by
  intro n
  induction n with
  | zero =>
    intros; rename_i hw; exact absurd hw (by simp [w_M_clear_9_55])
  | succ n ih =>
    intro x1 m hw
    unfold w_M_clear_9_55 at hw
    refine AW.iload_n (pc := 55) dX5_clear_55 rfl rfl ?_
    refine AW.bipush (v := 30) (pc := 56) dX5_clear_56 (by decide) ?_
    refine AW.icmp_ge (pc := 58) (tgt := 88) dX5_clear_58 (by decide) (fun c7 => ?_) (fun c7 => ?_)
    · have hw := hw.1 c7
      exact hE88 x1 m hw
    · have hw := hw.2 c7
      refine AW.aload_n (pc := 61) dX5_clear_61 rfl rfl ?_
      refine LW.get (pc := 62) (f := 10) (ci := 5) (T := TX5) ht (by decide) rfl dX5_clear_62 tw_808 rfl (by decide) rfl ?_
      refine AW.bipush (v := 102) (pc := 65) dX5_clear_65 (by decide) ?_
      refine AW.iload_n (pc := 67) dX5_clear_67 rfl rfl ?_
      refine AW.iadd (pc := 68) dX5_clear_68 ?_
      refine AW.iconst (v := -1) (pc := 69) dX5_clear_69 (by decide) ?_
      obtain ⟨hin, hw⟩ := hw
      have hw := hw _ rfl
      refine LW.iastt (pc := 70) (j := ((102 : Int32) + x1).toNatClampNeg) ht dX5_clear_70 hin rfl ?_
      generalize up2 m 60 (((102 : Int32) + x1).toNatClampNeg) (-1 : Int32) = m8 at hw ⊢
      refine AW.aload_n (pc := 71) dX5_clear_71 rfl rfl ?_
      refine LW.get (pc := 72) (f := 10) (ci := 5) (T := TX5) ht (by decide) rfl dX5_clear_72 tw_808 rfl (by decide) rfl ?_
      refine AW.sipush (v := 192) (pc := 75) dX5_clear_75 (by decide) ?_
      refine AW.iload_n (pc := 78) dX5_clear_78 rfl rfl ?_
      refine AW.iadd (pc := 79) dX5_clear_79 ?_
      refine AW.iconst (v := -1) (pc := 80) dX5_clear_80 (by decide) ?_
      obtain ⟨hin, hw⟩ := hw
      have hw := hw _ rfl
      refine LW.iastt (pc := 81) (j := ((192 : Int32) + x1).toNatClampNeg) ht dX5_clear_81 hin rfl ?_
      generalize up2 m8 60 (((192 : Int32) + x1).toNatClampNeg) (-1 : Int32) = m9 at hw ⊢
      refine AW.iinc (v := (x1 + 1)) (L' := [.ref 47, .int (x1 + 1)]) (pc := 82) dX5_clear_82 rfl rfl (by decide) rfl rfl ?_
      refine AW.goto (pc := 85) (tgt := 55) dX5_clear_85 (by decide) ?_
      exact ih (x1 + 1) m9 hw
set_option maxRecDepth 100000 in
set_option maxHeartbeats 4000000 in
theorem b_M_clear_9 {Z : Gz} {d k0 mc ms cs ss k t : Nat} {Q : Po} {ex : Hp} {o : Nat → Int64} {K : Mem → Prop}  (ht : tok t) (hd : 2 ≤ d) (hcs : cs + 0 ≤ mc) (hss : ss + 0 ≤ ms) (hQ : ∀ (m : Mem), K m → Q (.inl none) (lay t ex o m) k) {m : Mem}  (hw : w_M_clear_9  m K) : AW Z mX5_clear d k0 mc ms Q 9 [.ref 47, .null] [] (lay t ex o m) k cs ss := by
  unfold w_M_clear_9 at hw
  refine AW.iconst (v := 0) (pc := 9) dX5_clear_9 (by decide) ?_
  refine AW.istore_n (L' := [.ref 47, .int (0 : Int32)]) (pc := 10) dX5_clear_10 rfl (by decide) rfl rfl ?_
  refine l_M_clear_9_11 ht hd (by omega) (by omega) hQ ?_ 25 (0 : Int32) m hw
  intro y5 m6 hw
  refine AW.iconst (v := 0) (pc := 53) dX5_clear_53 (by decide) ?_
  refine AW.istore_n (L' := [.ref 47, .int (0 : Int32)]) (pc := 54) dX5_clear_54 rfl (by decide) rfl rfl ?_
  refine l_M_clear_9_55 ht hd (by omega) (by omega) hQ ?_ 31 (0 : Int32) m6 hw
  intro y10 m11 hw
  exact AW.vret (pc := 88) dX5_clear_88 rfl (by omega) (by omega) (hQ _ hw)
def w_M_clear (m : Mem) (K : Mem → Prop) : Prop := ∀ m1 : Mem, m1 = va_up m 60 (fun _ => 0) → w_M_clear_9 m1 K
set_option maxRecDepth 100000 in
set_option maxHeartbeats 4000000 in
theorem c_M_clear {d k t : Nat} {ex : Hp} {o : Nat → Int64} {K : Mem → Prop} {m : Mem} (ht : tok t) (hd : 2 ≤ d) (hk : kok t k) (hw : w_M_clear m K) : AM mX5_clear d [.ref 47] (lay t ex o m) k 1 342 (fun oc h' k' => ∃ (t' : Nat) (ex' : Hp) (m' : Mem), tok t' ∧ kok t' k' ∧ oc = .inl none ∧ h' = lay t' ex' o m' ∧ K m') := by
  refine AM.intro (μ := mX5_clear) (n := 1) (by decide) rfl rfl rfl ?_
  refine AW.aload_n (pc := 0) dX5_clear_0 rfl rfl ?_
  refine AW.sipush (v := 342) (pc := 1) dX5_clear_1 (by decide) ?_
  refine LW.newR (pc := 4) hk dX5_clear_4 tw_97 (by omega) (by omega) ?_
  refine LW.putT (pc := 6) (g := fun _ => 0) ht (kok_tok hk) (Nat.ne_of_gt hk.2) (by simp [va_up]) dX5_clear_6 tw_808 ?_
  have hw := hw _ rfl
  exact b_M_clear_9 (kok_tok hk) hd (by omega) (by omega) (fun _ hK => ⟨_, _, _, kok_tok hk, kok_up hk, rfl, rfl, hK⟩) hw
set_option maxRecDepth 100000 in
set_option maxHeartbeats 4000000 in
theorem c_M_putBy {d k t : Nat} {ex : Hp} {o : Nat → Int64} {m : Mem} (ht : tok t) (hk : kok t k) : AM mX5_putBy d [.ref 47] (lay t ex o m) k 1 342 (fun oc h' k' => k' = k + 1 ∧ oc = .inl (some (.ref t)) ∧ h' = lay k (va_up (va_up ex k (rw_ (fun _ => 0))) t (rw_ (m 60))) o (va_up m 60 (va_cpy (m 60) (fun _ => 0) 0 0 342))) := by
  have hu := kok_tok hk
  have hkt : k ≠ t := Nat.ne_of_gt hk.2
  refine AM.intro (μ := mX5_putBy) (n := 1) (by decide) rfl rfl rfl ?_
  refine AW.aload_n (pc := 0) dX5_putBy_0 rfl rfl ?_
  refine LW.get (pc := 1) (f := 10) (ci := 5) (T := TX5) ht (by decide) rfl dX5_putBy_1 tw_808 rfl (by decide) rfl ?_
  refine AW.astore_n (L' := [.ref 47, .ref t]) (pc := 4) dX5_putBy_4 rfl (by decide) rfl rfl ?_
  refine AW.aload_n (pc := 5) dX5_putBy_5 rfl rfl ?_
  refine AW.sipush (v := 342) (pc := 6) dX5_putBy_6 (by decide) ?_
  refine LW.newR (pc := 9) hk dX5_putBy_9 tw_97 (by omega) (by omega) ?_
  refine LW.putT (pc := 11) (g := fun _ => 0) ht hu hkt (by simp [va_up]) dX5_putBy_11 tw_808 ?_
  refine AW.aload_n (pc := 14) dX5_putBy_14 rfl rfl ?_
  refine AW.iconst (v := 0) (pc := 15) dX5_putBy_15 (by decide) ?_
  refine AW.aload_n (pc := 16) dX5_putBy_16 rfl rfl ?_
  refine LW.get (pc := 17) (f := 10) (ci := 5) (T := TX5) hu (by decide) rfl dX5_putBy_17 tw_808 rfl (by decide) rfl ?_
  refine AW.iconst (v := 0) (pc := 20) dX5_putBy_20 (by decide) ?_
  refine AW.sipush (v := 342) (pc := 21) dX5_putBy_21 (by decide) ?_
  refine AW.copyi (pc := 24) (i := t) (j := k) (n0 := 342) (n1 := 342) (f := m 60) (g := fun _ => 0) dX5_putBy_24 tw_1099 tw_161 tw_160 tw_7 (tok_pos ht) (tok_pos hu) (lay_u ht (Ne.symm hkt) (by simp [va_up])) (lay_t.trans (by simp [va_up])) (by decide) (by decide) (by decide) (by decide) (by decide) (Nat.le_of_ble_eq_true rfl) ?_
  rw [lay_upt hu, va_up_up]
  refine AW.aload_n (pc := 27) dX5_putBy_27 rfl rfl ?_
  exact AW.aret (pc := 28) dX5_putBy_28 rfl (by omega) (by omega) ⟨rfl, rfl, rfl⟩
def w_M_settlesNow_4 (g : Nat → Int32) (m : Mem) (K : Int32 → Mem → Prop) : Prop :=
  w_M_passTo (2147483647 : Int32) m (fun r2 m1 => (((m1 60 2) ≤ (g 2) → ∀ m4 : Mem, m4 = va_up m1 60 g → K ((m1 60 0) - (g 0)) m4) ∧ (¬ ((m1 60 2) ≤ (g 2)) → ∀ m5 : Mem, m5 = va_up m1 60 g → K (-1 : Int32) m5)))
set_option maxRecDepth 100000 in
set_option maxHeartbeats 4000000 in
theorem b_M_settlesNow_4 {Z : Gz} {d k0 mc ms cs ss k t : Nat} {Q : Po} {ex : Hp} {o : Nat → Int64} {K : Int32 → Mem → Prop}  {u : Nat} {g : Nat → Int32} (hu : tok u) (hut : u ≠ t) (hug : ex u = rw_ g) (ht : tok t) (hd : 7 ≤ d) (hcs : cs + 0 ≤ mc) (hss : ss + 0 ≤ ms) (hQ : ∀ (ex2 : Hp), (∀ i, i ≠ t → ex2 i = ex i) → ∀ (r : Int32) (m : Mem), K r m → Q (.inl (some (.int r))) (lay u ex2 o m) k) {m : Mem}  (hw : w_M_settlesNow_4 g  m K) : AW Z mX5_settlesNow d k0 mc ms Q 4 [.ref 47, .null, .null] [.ref u] (lay t ex o m) k cs ss := by
  unfold w_M_settlesNow_4 at hw
  refine AW.astore_n (L' := [.ref 47, .ref u, .null]) (pc := 4) dX5_settlesNow_4 rfl (by decide) rfl rfl ?_
  refine AW.aload_n (pc := 5) dX5_settlesNow_5 rfl rfl ?_
  refine AW.ldc (pc := 6) dX5_settlesNow_6 tw_1062 ?_
  refine AW.callV (pc := 8) (S' := []) dX5_settlesNow_8 (c_M_passTo (d := d - 1) ht (by omega) hw) ok_X5_passTo tw_1048 ts_61 tw_1046 (fix_pos (by decide)) (lay_at ht (by decide)) (show aw_cl[5]? = some _ from rfl) rfl rfl (by omega) rfl (Nat.le_of_ble_eq_true rfl) (by omega) (by omega) ?_ (fun E h' k' hq => by obtain ⟨rfl, r2, m1, hv, -⟩ := hq; cases hv)
  intro v h' k' hq
  obtain ⟨rfl, r2, m1, hv, rfl, hw⟩ := hq
  cases hv
  show AW _ _ _ _ _ _ _ 11 [.ref 47, .ref u, .null] [.int r2] (lay t ex o m1) k _ _
  refine AW.pop (pc := 11) dX5_settlesNow_11 rfl ?_
  refine AW.aload_n (pc := 12) dX5_settlesNow_12 rfl rfl ?_
  refine LW.get (pc := 13) (f := 10) (ci := 5) (T := TX5) ht (by decide) rfl dX5_settlesNow_13 tw_808 rfl (by decide) rfl ?_
  refine AW.iconst (v := 2) (pc := 16) dX5_settlesNow_16 (by decide) ?_
  refine LW.ialdt (pc := 17) (j := 2) ht dX5_settlesNow_17 (vp_lit (by decide)) (by decide) ?_
  refine AW.aload_n (pc := 18) dX5_settlesNow_18 rfl rfl ?_
  refine AW.iconst (v := 2) (pc := 19) dX5_settlesNow_19 (by decide) ?_
  refine AW.iald (pc := 20) dX5_settlesNow_20 (tok_pos hu) (lay_u hu hut hug) (vp_lit (by decide)) ?_
  show AW _ _ _ _ _ _ _ 21 [.ref 47, .ref u, .null] [.int (g 2), .int (m1 60 2)] (lay t ex o m1) k _ _
  refine AW.icmp_le (pc := 21) (tgt := 28) dX5_settlesNow_21 (by decide) (fun c3 => ?_) (fun c3 => ?_)
  · have hw := hw.1 c3
    refine AW.aload_n (pc := 28) dX5_settlesNow_28 rfl rfl ?_
    refine LW.get (pc := 29) (f := 10) (ci := 5) (T := TX5) ht (by decide) rfl dX5_settlesNow_29 tw_808 rfl (by decide) rfl ?_
    refine AW.iconst (v := 0) (pc := 32) dX5_settlesNow_32 (by decide) ?_
    refine LW.ialdt (pc := 33) (j := 0) ht dX5_settlesNow_33 (vp_lit (by decide)) (by decide) ?_
    refine AW.aload_n (pc := 34) dX5_settlesNow_34 rfl rfl ?_
    refine AW.iconst (v := 0) (pc := 35) dX5_settlesNow_35 (by decide) ?_
    refine AW.iald (pc := 36) dX5_settlesNow_36 (tok_pos hu) (lay_u hu hut hug) (vp_lit (by decide)) ?_
    show AW _ _ _ _ _ _ _ 37 [.ref 47, .ref u, .null] [.int (g 0), .int (m1 60 0)] (lay t ex o m1) k _ _
    refine AW.isub (pc := 37) dX5_settlesNow_37 ?_
    refine AW.istore_n (L' := [.ref 47, .ref u, .int ((m1 60 0) - (g 0))]) (pc := 38) dX5_settlesNow_38 rfl (by decide) rfl rfl ?_
    refine AW.aload_n (pc := 39) dX5_settlesNow_39 rfl rfl ?_
    refine AW.aload_n (pc := 40) dX5_settlesNow_40 rfl rfl ?_
    have hw := hw _ rfl
    refine LW.putT (pc := 41) ht hu hut hug dX5_settlesNow_41 tw_808 ?_
    generalize hm : va_up m1 60 g = m4 at hw ⊢
    have ht := hu
    refine AW.iload_n (pc := 44) dX5_settlesNow_44 rfl rfl ?_
    exact AW.iret (pc := 45) dX5_settlesNow_45 rfl rfl (by omega) (by omega) (hQ _ (fun i hi => by simp [va_up, hi]) _ _ hw)
  · have hw := hw.2 c3
    refine AW.iconst (v := -1) (pc := 24) dX5_settlesNow_24 (by decide) ?_
    refine AW.goto (pc := 25) (tgt := 38) dX5_settlesNow_25 (by decide) ?_
    refine AW.istore_n (L' := [.ref 47, .ref u, .int (-1 : Int32)]) (pc := 38) dX5_settlesNow_38 rfl (by decide) rfl rfl ?_
    refine AW.aload_n (pc := 39) dX5_settlesNow_39 rfl rfl ?_
    refine AW.aload_n (pc := 40) dX5_settlesNow_40 rfl rfl ?_
    have hw := hw _ rfl
    refine LW.putT (pc := 41) ht hu hut hug dX5_settlesNow_41 tw_808 ?_
    generalize hm : va_up m1 60 g = m5 at hw ⊢
    have ht := hu
    refine AW.iload_n (pc := 44) dX5_settlesNow_44 rfl rfl ?_
    exact AW.iret (pc := 45) dX5_settlesNow_45 rfl rfl (by omega) (by omega) (hQ _ (fun i hi => by simp [va_up, hi]) _ _ hw)
def w_M_settlesNow (m : Mem) (K : Int32 → Mem → Prop) : Prop :=
  ∀ m1 : Mem, m1 = (va_up m 60 (va_cpy (m 60) (fun _ => 0) 0 0 342)) → w_M_settlesNow_4 (m 60)  m1 K
set_option maxRecDepth 100000 in
set_option maxHeartbeats 4000000 in
theorem b_M_settlesNow {Z : Gz} {d k0 mc ms cs ss k t : Nat} {Q : Po} {ex : Hp} {o : Nat → Int64} {K : Int32 → Mem → Prop}  (ht : tok t) (hd : 7 ≤ d) (hcs : cs + 1 ≤ mc) (hss : ss + 342 ≤ ms) (hQ : ∀ {k2 : Nat} {ex2 : Hp}, exle k ex k2 ex2 → ∀ (r : Int32) (m : Mem), K r m → Q (.inl (some (.int r))) (lay t ex2 o m) k2) (hk : kok t k) {m : Mem}  (hw : w_M_settlesNow  m K) : AW Z mX5_settlesNow d k0 mc ms Q 0 [.ref 47, .null, .null] [] (lay t ex o m) k cs ss := by
  unfold w_M_settlesNow at hw
  refine AW.aload_n (pc := 0) dX5_settlesNow_0 rfl rfl ?_
  have hw := hw _ rfl
  refine AW.callV (pc := 1) (S' := []) dX5_settlesNow_1 (c_M_putBy (d := d - 1) ht hk) ok_X5_putBy tw_1097 ts_65 tw_1095 (fix_pos (by decide)) (lay_at ht (by decide)) (show aw_cl[5]? = some _ from rfl) rfl rfl (by omega) rfl (Nat.le_of_ble_eq_true rfl) (by omega) (by omega) ?_ (fun E h' k' hq => by obtain ⟨-, hv, -⟩ := hq; cases hv)
  intro v h' k' hq
  obtain ⟨rfl, hv, rfl⟩ := hq
  cases hv
  exact b_M_settlesNow_4 (u := t) (g := m 60) ht (Ne.symm (Nat.ne_of_gt hk.2)) (by simp [va_up]) (kok_tok hk) (by omega) (by omega) (by omega) (fun ex2 hx r m2 hK => by have hq := hQ (put_back hk hx) r m2 hK; rw [lay_ext_t _ ht] at hq; exact hq)  hw
set_option maxRecDepth 100000 in
set_option maxHeartbeats 4000000 in
theorem c_M_settlesNow {d k t : Nat} {ex : Hp} {o : Nat → Int64} {K : Int32 → Mem → Prop} {m : Mem}  (ht : tok t) (hd : 7 ≤ d) (hk : kok t k) (hw : w_M_settlesNow  m K) : AM mX5_settlesNow d [.ref 47] (lay t ex o m) k 1 342 (fun oc h' k' => ∃ (ex' : Hp) (r : Int32) (m' : Mem), exle k ex k' ex' ∧ oc = .inl (some (.int r)) ∧ h' = lay t ex' o m' ∧ K r m') :=
  AM.intro (μ := mX5_settlesNow) (n := 2) (by decide) rfl rfl rfl (b_M_settlesNow ht hd (by omega) (by omega) (fun hx _ _ hK => ⟨_, _, _, hx, rfl, rfl, hK⟩) hk  hw)
def w_M_wouldBe_24 (g : Nat → Int32) (p1 : Int32) (p2 : Int32) (p3 : Int32) (m : Mem) (K : Int32 → Mem → Prop) : Prop :=
  w_M_setNow p1 p2 m (fun r2 m1 => w_M_settleNow  m1 (fun r4 m3 => w_M_valueOf p3 m3 (fun r6 m5 => ∀ m7 : Mem, m7 = va_up m5 60 g → K r6 m7)))
set_option maxRecDepth 100000 in
set_option maxHeartbeats 4000000 in
theorem b_M_wouldBe_24 {Z : Gz} {d k0 mc ms cs ss k t : Nat} {Q : Po} {ex : Hp} {o : Nat → Int64} {K : Int32 → Mem → Prop}  {u : Nat} {g : Nat → Int32} (hu : tok u) (hut : u ≠ t) (hug : ex u = rw_ g) (ht : tok t) (hd : 8 ≤ d) (hcs : cs + 0 ≤ mc) (hss : ss + 0 ≤ ms) (hQ : ∀ (ex2 : Hp), (∀ i, i ≠ t → ex2 i = ex i) → ∀ (r : Int32) (m : Mem), K r m → Q (.inl (some (.int r))) (lay u ex2 o m) k) {m : Mem} (p1 : Int32) (p2 : Int32) (p3 : Int32) (hw : w_M_wouldBe_24 g p1 p2 p3 m K) : AW Z mX5_wouldBe d k0 mc ms Q 24 [.ref 47, .int p1, .int p2, .int p3, .null, .null] [.ref u] (lay t ex o m) k cs ss := by
  unfold w_M_wouldBe_24 at hw
  refine AW.astore (L' := [.ref 47, .int p1, .int p2, .int p3, .ref u, .null]) (pc := 24) dX5_wouldBe_24 (by decide) rfl rfl ?_
  refine AW.aload_n (pc := 26) dX5_wouldBe_26 rfl rfl ?_
  refine AW.iload_n (pc := 27) dX5_wouldBe_27 rfl rfl ?_
  refine AW.iload_n (pc := 28) dX5_wouldBe_28 rfl rfl ?_
  refine AW.callV (pc := 29) (S' := []) dX5_wouldBe_29 (c_M_setNow (d := d - 1) ht (by omega) hw) ok_X5_setNow tw_1036 ts_59 tw_1034 (fix_pos (by decide)) (lay_at ht (by decide)) (show aw_cl[5]? = some _ from rfl) rfl rfl (by omega) rfl (Nat.le_of_ble_eq_true rfl) (by omega) (by omega) ?_ (fun E h' k' hq => by obtain ⟨rfl, r2, m1, hv, -⟩ := hq; cases hv)
  intro v h' k' hq
  obtain ⟨rfl, r2, m1, hv, rfl, hw⟩ := hq
  cases hv
  show AW _ _ _ _ _ _ _ 32 [.ref 47, .int p1, .int p2, .int p3, .ref u, .null] [.int r2] (lay t ex o m1) k _ _
  refine AW.pop (pc := 32) dX5_wouldBe_32 rfl ?_
  refine AW.aload_n (pc := 33) dX5_wouldBe_33 rfl rfl ?_
  refine AW.callV (pc := 34) (S' := []) dX5_wouldBe_34 (c_M_settleNow (d := d - 1) ht (by omega) hw) ok_X5_settleNow tw_1060 ts_63 tw_1058 (fix_pos (by decide)) (lay_at ht (by decide)) (show aw_cl[5]? = some _ from rfl) rfl rfl (by omega) rfl (Nat.le_of_ble_eq_true rfl) (by omega) (by omega) ?_ (fun E h' k' hq => by obtain ⟨rfl, r4, m3, hv, -⟩ := hq; cases hv)
  intro v h' k' hq
  obtain ⟨rfl, r4, m3, hv, rfl, hw⟩ := hq
  cases hv
  show AW _ _ _ _ _ _ _ 37 [.ref 47, .int p1, .int p2, .int p3, .ref u, .null] [.int r4] (lay t ex o m3) k _ _
  refine AW.pop (pc := 37) dX5_wouldBe_37 rfl ?_
  refine AW.aload_n (pc := 38) dX5_wouldBe_38 rfl rfl ?_
  refine AW.iload_n (pc := 39) dX5_wouldBe_39 rfl rfl ?_
  refine AW.callV (pc := 40) (S' := []) dX5_wouldBe_40 (c_M_valueOf (d := d - 1) ht (by omega) hw) ok_X5_valueOf tw_990 ts_50 tw_988 (fix_pos (by decide)) (lay_at ht (by decide)) (show aw_cl[5]? = some _ from rfl) rfl rfl (by omega) rfl (Nat.le_of_ble_eq_true rfl) (by omega) (by omega) ?_ (fun E h' k' hq => by obtain ⟨rfl, r6, m5, hv, -⟩ := hq; cases hv)
  intro v h' k' hq
  obtain ⟨rfl, r6, m5, hv, rfl, hw⟩ := hq
  cases hv
  show AW _ _ _ _ _ _ _ 43 [.ref 47, .int p1, .int p2, .int p3, .ref u, .null] [.int r6] (lay t ex o m5) k _ _
  refine AW.istore (L' := [.ref 47, .int p1, .int p2, .int p3, .ref u, .int r6]) (pc := 43) dX5_wouldBe_43 (by decide) rfl rfl ?_
  refine AW.aload_n (pc := 45) dX5_wouldBe_45 rfl rfl ?_
  refine AW.aload (pc := 46) dX5_wouldBe_46 rfl ?_
  have hw := hw _ rfl
  refine LW.putT (pc := 48) ht hu hut hug dX5_wouldBe_48 tw_808 ?_
  generalize hm : va_up m5 60 g = m7 at hw ⊢
  have ht := hu
  refine AW.iload (pc := 51) dX5_wouldBe_51 rfl ?_
  exact AW.iret (pc := 53) dX5_wouldBe_53 rfl rfl (by omega) (by omega) (hQ _ (fun i hi => by simp [va_up, hi]) _ _ hw)
def w_M_wouldBe (p1 : Int32) (p2 : Int32) (p3 : Int32) (m : Mem) (K : Int32 → Mem → Prop) : Prop :=
  w_M_asked p1 p2 p3 m (fun r2 m1 => ∀ m3 : Mem, m3 = up2 m1 47 0 r2 → (((m3 47 0) = 0 → ∀ m1 : Mem, m1 = (va_up m3 60 (va_cpy (m3 60) (fun _ => 0) 0 0 342)) → w_M_wouldBe_24 (m3 60) p1 p2 p3 m1 K) ∧ (¬ ((m3 47 0) = 0) → K (0 : Int32) m3)))
set_option maxRecDepth 100000 in
set_option maxHeartbeats 4000000 in
theorem b_M_wouldBe {Z : Gz} {d k0 mc ms cs ss k t : Nat} {Q : Po} {ex : Hp} {o : Nat → Int64} {K : Int32 → Mem → Prop}  (ht : tok t) (hd : 8 ≤ d) (hcs : cs + 1 ≤ mc) (hss : ss + 342 ≤ ms) (hQ : ∀ {k2 : Nat} {ex2 : Hp}, exle k ex k2 ex2 → ∀ (r : Int32) (m : Mem), K r m → Q (.inl (some (.int r))) (lay t ex2 o m) k2) (hk : kok t k) {m : Mem} (p1 : Int32) (p2 : Int32) (p3 : Int32) (hw : w_M_wouldBe p1 p2 p3 m K) : AW Z mX5_wouldBe d k0 mc ms Q 0 [.ref 47, .int p1, .int p2, .int p3, .null, .null] [] (lay t ex o m) k cs ss := by
  unfold w_M_wouldBe at hw
  refine AW.aload_n (pc := 0) dX5_wouldBe_0 rfl rfl ?_
  refine AW.aload_n (pc := 1) dX5_wouldBe_1 rfl rfl ?_
  refine AW.iload_n (pc := 2) dX5_wouldBe_2 rfl rfl ?_
  refine AW.iload_n (pc := 3) dX5_wouldBe_3 rfl rfl ?_
  refine AW.iload_n (pc := 4) dX5_wouldBe_4 rfl rfl ?_
  refine AW.callV (pc := 5) (S' := [.ref 47]) dX5_wouldBe_5 (c_M_asked (d := d - 1) ht (by omega) hw) ok_X5_asked tw_1028 ts_57 tw_1026 (fix_pos (by decide)) (lay_at ht (by decide)) (show aw_cl[5]? = some _ from rfl) rfl rfl (by omega) rfl (Nat.le_of_ble_eq_true rfl) (by omega) (by omega) ?_ (fun E h' k' hq => by obtain ⟨rfl, r2, m1, hv, -⟩ := hq; cases hv)
  intro v h' k' hq
  obtain ⟨rfl, r2, m1, hv, rfl, hw⟩ := hq
  cases hv
  show AW _ _ _ _ _ _ _ 8 [.ref 47, .int p1, .int p2, .int p3, .null, .null] [.int r2, .ref 47] (lay t ex o m1) k _ _
  have hw := hw _ rfl
  refine LW.put (pc := 8) (f := 0) (ci := 5) (T := TX5) ht (by decide) rfl sp_47_0 dX5_wouldBe_8 tw_798 rfl (by decide) (Nat.le_of_ble_eq_true rfl) rfl ⟨rfl, rfl⟩ ?_
  generalize up2 m1 47 0 r2 = m3 at hw ⊢
  refine AW.aload_n (pc := 11) dX5_wouldBe_11 rfl rfl ?_
  refine LW.get (pc := 12) (f := 0) (ci := 5) (T := TX5) ht (by decide) rfl dX5_wouldBe_12 tw_798 rfl (by decide) rfl ?_
  refine AW.if_eq (pc := 15) (tgt := 20) dX5_wouldBe_15 (by decide) (fun c4 => ?_) (fun c4 => ?_)
  · have hw := hw.1 c4
    refine AW.aload_n (pc := 20) dX5_wouldBe_20 rfl rfl ?_
    have hw := hw _ rfl
    refine AW.callV (pc := 21) (S' := []) dX5_wouldBe_21 (c_M_putBy (d := d - 1) ht hk) ok_X5_putBy tw_1097 ts_65 tw_1095 (fix_pos (by decide)) (lay_at ht (by decide)) (show aw_cl[5]? = some _ from rfl) rfl rfl (by omega) rfl (Nat.le_of_ble_eq_true rfl) (by omega) (by omega) ?_ (fun E h' k' hq => by obtain ⟨-, hv, -⟩ := hq; cases hv)
    intro v h' k' hq
    obtain ⟨rfl, hv, rfl⟩ := hq
    cases hv
    exact b_M_wouldBe_24 (u := t) (g := m3 60) ht (Ne.symm (Nat.ne_of_gt hk.2)) (by simp [va_up]) (kok_tok hk) (by omega) (by omega) (by omega) (fun ex2 hx r m2 hK => by have hq := hQ (put_back hk hx) r m2 hK; rw [lay_ext_t _ ht] at hq; exact hq) p1 p2 p3 hw
  · have hw := hw.2 c4
    refine AW.iconst (v := 0) (pc := 18) dX5_wouldBe_18 (by decide) ?_
    exact AW.iret (pc := 19) dX5_wouldBe_19 rfl rfl (by omega) (by omega) (hQ (exle.refl _ _) _ _ hw)
set_option maxRecDepth 100000 in
set_option maxHeartbeats 4000000 in
theorem c_M_wouldBe {d k t : Nat} {ex : Hp} {o : Nat → Int64} {K : Int32 → Mem → Prop} {m : Mem} {p1 : Int32} {p2 : Int32} {p3 : Int32} (ht : tok t) (hd : 8 ≤ d) (hk : kok t k) (hw : w_M_wouldBe p1 p2 p3 m K) : AM mX5_wouldBe d [.ref 47, .int p1, .int p2, .int p3] (lay t ex o m) k 1 342 (fun oc h' k' => ∃ (ex' : Hp) (r : Int32) (m' : Mem), exle k ex k' ex' ∧ oc = .inl (some (.int r)) ∧ h' = lay t ex' o m' ∧ K r m') :=
  AM.intro (μ := mX5_wouldBe) (n := 2) (by decide) rfl rfl rfl (b_M_wouldBe ht hd (by omega) (by omega) (fun hx _ _ hK => ⟨_, _, _, hx, rfl, rfl, hK⟩) hk p1 p2 p3 hw)
def w_M_hazardsWith_24 (g : Nat → Int32) (p1 : Int32) (p2 : Int32) (m : Mem) (K : Int32 → Mem → Prop) : Prop :=
  w_M_setNow p1 p2 m (fun r2 m1 => w_M_settleNow  m1 (fun r4 m3 => ∀ m5 : Mem, m5 = va_up m3 60 g → K ((m3 60 5) - (m5 60 5)) m5))
set_option maxRecDepth 100000 in
set_option maxHeartbeats 4000000 in
theorem b_M_hazardsWith_24 {Z : Gz} {d k0 mc ms cs ss k t : Nat} {Q : Po} {ex : Hp} {o : Nat → Int64} {K : Int32 → Mem → Prop}  {u : Nat} {g : Nat → Int32} (hu : tok u) (hut : u ≠ t) (hug : ex u = rw_ g) (ht : tok t) (hd : 8 ≤ d) (hcs : cs + 0 ≤ mc) (hss : ss + 0 ≤ ms) (hQ : ∀ (ex2 : Hp), (∀ i, i ≠ t → ex2 i = ex i) → ∀ (r : Int32) (m : Mem), K r m → Q (.inl (some (.int r))) (lay u ex2 o m) k) {m : Mem} (p1 : Int32) (p2 : Int32) (hw : w_M_hazardsWith_24 g p1 p2 m K) : AW Z mX5_hazardsWith d k0 mc ms Q 24 [.ref 47, .int p1, .int p2, .null, .null] [.ref u] (lay t ex o m) k cs ss := by
  unfold w_M_hazardsWith_24 at hw
  refine AW.astore_n (L' := [.ref 47, .int p1, .int p2, .ref u, .null]) (pc := 24) dX5_hazardsWith_24 rfl (by decide) rfl rfl ?_
  refine AW.aload_n (pc := 25) dX5_hazardsWith_25 rfl rfl ?_
  refine AW.iload_n (pc := 26) dX5_hazardsWith_26 rfl rfl ?_
  refine AW.iload_n (pc := 27) dX5_hazardsWith_27 rfl rfl ?_
  refine AW.callV (pc := 28) (S' := []) dX5_hazardsWith_28 (c_M_setNow (d := d - 1) ht (by omega) hw) ok_X5_setNow tw_1036 ts_59 tw_1034 (fix_pos (by decide)) (lay_at ht (by decide)) (show aw_cl[5]? = some _ from rfl) rfl rfl (by omega) rfl (Nat.le_of_ble_eq_true rfl) (by omega) (by omega) ?_ (fun E h' k' hq => by obtain ⟨rfl, r2, m1, hv, -⟩ := hq; cases hv)
  intro v h' k' hq
  obtain ⟨rfl, r2, m1, hv, rfl, hw⟩ := hq
  cases hv
  show AW _ _ _ _ _ _ _ 31 [.ref 47, .int p1, .int p2, .ref u, .null] [.int r2] (lay t ex o m1) k _ _
  refine AW.pop (pc := 31) dX5_hazardsWith_31 rfl ?_
  refine AW.aload_n (pc := 32) dX5_hazardsWith_32 rfl rfl ?_
  refine AW.callV (pc := 33) (S' := []) dX5_hazardsWith_33 (c_M_settleNow (d := d - 1) ht (by omega) hw) ok_X5_settleNow tw_1060 ts_63 tw_1058 (fix_pos (by decide)) (lay_at ht (by decide)) (show aw_cl[5]? = some _ from rfl) rfl rfl (by omega) rfl (Nat.le_of_ble_eq_true rfl) (by omega) (by omega) ?_ (fun E h' k' hq => by obtain ⟨rfl, r4, m3, hv, -⟩ := hq; cases hv)
  intro v h' k' hq
  obtain ⟨rfl, r4, m3, hv, rfl, hw⟩ := hq
  cases hv
  show AW _ _ _ _ _ _ _ 36 [.ref 47, .int p1, .int p2, .ref u, .null] [.int r4] (lay t ex o m3) k _ _
  refine AW.pop (pc := 36) dX5_hazardsWith_36 rfl ?_
  refine AW.aload_n (pc := 37) dX5_hazardsWith_37 rfl rfl ?_
  refine LW.get (pc := 38) (f := 10) (ci := 5) (T := TX5) ht (by decide) rfl dX5_hazardsWith_38 tw_808 rfl (by decide) rfl ?_
  refine AW.iconst (v := 5) (pc := 41) dX5_hazardsWith_41 (by decide) ?_
  refine LW.ialdt (pc := 42) (j := 5) ht dX5_hazardsWith_42 (vp_lit (by decide)) (by decide) ?_
  refine AW.istore (L' := [.ref 47, .int p1, .int p2, .ref u, .int (m3 60 5)]) (pc := 43) dX5_hazardsWith_43 (by decide) rfl rfl ?_
  refine AW.aload_n (pc := 45) dX5_hazardsWith_45 rfl rfl ?_
  refine AW.aload_n (pc := 46) dX5_hazardsWith_46 rfl rfl ?_
  have hw := hw _ rfl
  refine LW.putT (pc := 47) ht hu hut hug dX5_hazardsWith_47 tw_808 ?_
  generalize hm : va_up m3 60 g = m5 at hw ⊢
  have ht := hu
  refine AW.iload (pc := 50) dX5_hazardsWith_50 rfl ?_
  refine AW.aload_n (pc := 52) dX5_hazardsWith_52 rfl rfl ?_
  refine LW.get (pc := 53) (f := 10) (ci := 5) (T := TX5) ht (by decide) rfl dX5_hazardsWith_53 tw_808 rfl (by decide) rfl ?_
  refine AW.iconst (v := 5) (pc := 56) dX5_hazardsWith_56 (by decide) ?_
  refine LW.ialdt (pc := 57) (j := 5) ht dX5_hazardsWith_57 (vp_lit (by decide)) (by decide) ?_
  refine AW.isub (pc := 58) dX5_hazardsWith_58 ?_
  exact AW.iret (pc := 59) dX5_hazardsWith_59 rfl rfl (by omega) (by omega) (hQ _ (fun i hi => by simp [va_up, hi]) _ _ hw)
def w_M_hazardsWith (p1 : Int32) (p2 : Int32) (m : Mem) (K : Int32 → Mem → Prop) : Prop :=
  w_M_asked p1 p2 (0 : Int32) m (fun r2 m1 => ∀ m3 : Mem, m3 = up2 m1 47 0 r2 → (((m3 47 0) = 0 → ∀ m1 : Mem, m1 = (va_up m3 60 (va_cpy (m3 60) (fun _ => 0) 0 0 342)) → w_M_hazardsWith_24 (m3 60) p1 p2 m1 K) ∧ (¬ ((m3 47 0) = 0) → K (0 : Int32) m3)))
set_option maxRecDepth 100000 in
set_option maxHeartbeats 4000000 in
theorem b_M_hazardsWith {Z : Gz} {d k0 mc ms cs ss k t : Nat} {Q : Po} {ex : Hp} {o : Nat → Int64} {K : Int32 → Mem → Prop}  (ht : tok t) (hd : 8 ≤ d) (hcs : cs + 1 ≤ mc) (hss : ss + 342 ≤ ms) (hQ : ∀ {k2 : Nat} {ex2 : Hp}, exle k ex k2 ex2 → ∀ (r : Int32) (m : Mem), K r m → Q (.inl (some (.int r))) (lay t ex2 o m) k2) (hk : kok t k) {m : Mem} (p1 : Int32) (p2 : Int32) (hw : w_M_hazardsWith p1 p2 m K) : AW Z mX5_hazardsWith d k0 mc ms Q 0 [.ref 47, .int p1, .int p2, .null, .null] [] (lay t ex o m) k cs ss := by
  unfold w_M_hazardsWith at hw
  refine AW.aload_n (pc := 0) dX5_hazardsWith_0 rfl rfl ?_
  refine AW.aload_n (pc := 1) dX5_hazardsWith_1 rfl rfl ?_
  refine AW.iload_n (pc := 2) dX5_hazardsWith_2 rfl rfl ?_
  refine AW.iload_n (pc := 3) dX5_hazardsWith_3 rfl rfl ?_
  refine AW.iconst (v := 0) (pc := 4) dX5_hazardsWith_4 (by decide) ?_
  refine AW.callV (pc := 5) (S' := [.ref 47]) dX5_hazardsWith_5 (c_M_asked (d := d - 1) ht (by omega) hw) ok_X5_asked tw_1028 ts_57 tw_1026 (fix_pos (by decide)) (lay_at ht (by decide)) (show aw_cl[5]? = some _ from rfl) rfl rfl (by omega) rfl (Nat.le_of_ble_eq_true rfl) (by omega) (by omega) ?_ (fun E h' k' hq => by obtain ⟨rfl, r2, m1, hv, -⟩ := hq; cases hv)
  intro v h' k' hq
  obtain ⟨rfl, r2, m1, hv, rfl, hw⟩ := hq
  cases hv
  show AW _ _ _ _ _ _ _ 8 [.ref 47, .int p1, .int p2, .null, .null] [.int r2, .ref 47] (lay t ex o m1) k _ _
  have hw := hw _ rfl
  refine LW.put (pc := 8) (f := 0) (ci := 5) (T := TX5) ht (by decide) rfl sp_47_0 dX5_hazardsWith_8 tw_798 rfl (by decide) (Nat.le_of_ble_eq_true rfl) rfl ⟨rfl, rfl⟩ ?_
  generalize up2 m1 47 0 r2 = m3 at hw ⊢
  refine AW.aload_n (pc := 11) dX5_hazardsWith_11 rfl rfl ?_
  refine LW.get (pc := 12) (f := 0) (ci := 5) (T := TX5) ht (by decide) rfl dX5_hazardsWith_12 tw_798 rfl (by decide) rfl ?_
  refine AW.if_eq (pc := 15) (tgt := 20) dX5_hazardsWith_15 (by decide) (fun c4 => ?_) (fun c4 => ?_)
  · have hw := hw.1 c4
    refine AW.aload_n (pc := 20) dX5_hazardsWith_20 rfl rfl ?_
    have hw := hw _ rfl
    refine AW.callV (pc := 21) (S' := []) dX5_hazardsWith_21 (c_M_putBy (d := d - 1) ht hk) ok_X5_putBy tw_1097 ts_65 tw_1095 (fix_pos (by decide)) (lay_at ht (by decide)) (show aw_cl[5]? = some _ from rfl) rfl rfl (by omega) rfl (Nat.le_of_ble_eq_true rfl) (by omega) (by omega) ?_ (fun E h' k' hq => by obtain ⟨-, hv, -⟩ := hq; cases hv)
    intro v h' k' hq
    obtain ⟨rfl, hv, rfl⟩ := hq
    cases hv
    exact b_M_hazardsWith_24 (u := t) (g := m3 60) ht (Ne.symm (Nat.ne_of_gt hk.2)) (by simp [va_up]) (kok_tok hk) (by omega) (by omega) (by omega) (fun ex2 hx r m2 hK => by have hq := hQ (put_back hk hx) r m2 hK; rw [lay_ext_t _ ht] at hq; exact hq) p1 p2 hw
  · have hw := hw.2 c4
    refine AW.iconst (v := 0) (pc := 18) dX5_hazardsWith_18 (by decide) ?_
    exact AW.iret (pc := 19) dX5_hazardsWith_19 rfl rfl (by omega) (by omega) (hQ (exle.refl _ _) _ _ hw)
set_option maxRecDepth 100000 in
set_option maxHeartbeats 4000000 in
theorem c_M_hazardsWith {d k t : Nat} {ex : Hp} {o : Nat → Int64} {K : Int32 → Mem → Prop} {m : Mem} {p1 : Int32} {p2 : Int32} (ht : tok t) (hd : 8 ≤ d) (hk : kok t k) (hw : w_M_hazardsWith p1 p2 m K) : AM mX5_hazardsWith d [.ref 47, .int p1, .int p2] (lay t ex o m) k 1 342 (fun oc h' k' => ∃ (ex' : Hp) (r : Int32) (m' : Mem), exle k ex k' ex' ∧ oc = .inl (some (.int r)) ∧ h' = lay t ex' o m' ∧ K r m') :=
  AM.intro (μ := mX5_hazardsWith) (n := 2) (by decide) rfl rfl rfl (b_M_hazardsWith ht hd (by omega) (by omega) (fun hx _ _ hK => ⟨_, _, _, hx, rfl, rfl, hK⟩) hk p1 p2 hw)
