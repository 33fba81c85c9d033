/-! the reference's methods that make rows of their own: usesAny, isInRing, tellArrival (by recursion), tellArrivals -/
def bz (g : Nat → Int32) : Ce := .inl (.boolean, 24, .inl g)
def kok (t k : Nat) : Prop := 62 ≤ k ∧ t < k
theorem kok.le {t k k2 : Nat} {ex ex2 : Hp} (h : kok t k) (hx : exle k ex k2 ex2) : kok t k2 := ⟨Nat.le_trans h.1 hx.1, Nat.lt_of_lt_of_le h.2 hx.1⟩
theorem kok_pos {t k : Nat} (h : kok t k) : 0 < k := Nat.lt_of_lt_of_le (by decide) h.1
theorem sh_big {t : Nat} {ex : Hp} {o : Nat → Int64} {k : Nat} {g : Nat → Int32} (h : 62 ≤ k) : sh t ex o k g = ex k := by
  unfold sh
  split <;> first | rfl | omega
theorem lay_big {t : Nat} {ex : Hp} {o : Nat → Int64} {m : Mem} {k : Nat} (h : kok t k) : lay t ex o m k = ex k := by
  simp only [lay, if_neg (Nat.ne_of_gt h.2), sh_big h.1]
theorem lay_row {t k : Nat} {ex : Hp} {o : Nat → Int64} {m : Mem} {g : Nat → Int32} (h : kok t k) (ht : tok t) : lay t (va_up ex k (bz g)) o m k = .inl (.boolean, 24, .inl g) := by
  rw [lay_big h]; simp [va_up, bz]
theorem lay_any {t k : Nat} {ex : Hp} {o : Nat → Int64} {m : Mem} (c : Ce) (h : kok t k) : va_up (lay t ex o m) k c = lay t (va_up ex k c) o m := by
  funext j
  by_cases hj : j = k
  · subst hj
    rw [lay_big h]; simp [va_up]
  · by_cases hjt : j = t
    · subst hjt; simp [va_up, lay, hj]
    · simp only [va_up, lay, if_neg hj, if_neg hjt]
      unfold sh
      split <;> first | rfl | simp [va_up, hj]
theorem lay_rows {t k : Nat} {ex : Hp} {o : Nat → Int64} {m : Mem} {g g2 : Nat → Int32} (h : kok t k) (ht : tok t) : va_up (lay t (va_up ex k (bz g)) o m) k (.inl (.boolean, 24, .inl g2)) = lay t (va_up ex k (bz g2)) o m := by
  rw [lay_any _ h]
  have : va_up (va_up ex k (bz g)) k (.inl (.boolean, 24, .inl g2)) = va_up ex k (bz g2) := by
    funext j
    by_cases hj : j = k <;> simp [va_up, hj, bz]
  rw [this]
theorem lay_new {t k : Nat} {ex : Hp} {o : Nat → Int64} {m : Mem} {g : Nat → Int32} (h : kok t k) (ht : tok t) : va_up (lay t ex o m) k (.inl (.boolean, 24, .inl g)) = lay t (va_up ex k (bz g)) o m := lay_any _ h
theorem exle_row {k : Nat} {ex : Hp} (g : Nat → Int32) : exle k ex (k + 1) (va_up ex k (bz g)) := ⟨Nat.le_succ _, fun i hi => by simp [va_up, Nat.ne_of_lt hi]⟩
abbrev mX5_usesAny : Mt := (yX5_usesAny, cX5_usesAny, 4, (some .boolean), [])
set_option maxRecDepth 20000 in
theorem ok_X5_usesAny : aw_mok mX5_usesAny 2 := ⟨rfl, tw_931, tw_8, ⟨by decide, by decide⟩, by decide +kernel, by decide⟩
abbrev mX5_isInRing : Mt := (yX5_isInRing, cX5_isInRing, 5, (some .boolean), [])
set_option maxRecDepth 20000 in
theorem ok_X5_isInRing : aw_mok mX5_isInRing 1 := ⟨rfl, tw_927, tw_8, ⟨by decide, by decide⟩, by decide +kernel, by decide⟩
abbrev mX5_tellArrival : Mt := (yX5_tellArrival, cX5_tellArrival, 4, (some .int), [])
set_option maxRecDepth 20000 in
theorem ok_X5_tellArrival : aw_mok mX5_tellArrival 1 := ⟨rfl, tw_947, tw_8, ⟨by decide, by decide⟩, by decide +kernel, by decide⟩
abbrev mX5_tellArrivals : Mt := (yX5_tellArrivals, cX5_tellArrivals, 2, none, [])
set_option maxRecDepth 20000 in
theorem ok_X5_tellArrivals : aw_mok mX5_tellArrivals 0 := ⟨rfl, tw_943, tw_8, ⟨by decide, by decide⟩, by decide +kernel, by decide⟩
def w_M_usesAny_2 : Nat → (Nat → Int32) → Int32 → Int32 → Mem → (Int32 → Int32 → Mem → Prop) → (Int32 → Mem → Prop) → Prop
  | 0, _, _, _, _, _, _ => False
  | n + 1, g, x1, x3, m, E31, K => (((24 : Int32) ≤ x3 → E31 x1 x3 m) ∧ (¬ ((24 : Int32) ≤ x3) → vp_in x3 24 ∧ (((g x3.toNatClampNeg) = 0 → w_M_usesAny_2 n g x1 (x3 + 1) m E31 K) ∧ (¬ ((g x3.toNatClampNeg) = 0) → w_M_uses x1 x3 m (fun r4 m3 => ((r4 = 0 → w_M_usesAny_2 n g x1 (x3 + 1) m3 E31 K) ∧ (¬ (r4 = 0) → K (1 : Int32) m3)))))))
def w_M_usesAny (g : Nat → Int32) (p1 : Int32) (m : Mem) (K : Int32 → Mem → Prop) : Prop :=
  w_M_usesAny_2 31 g p1 (0 : Int32) m (fun y6 y7 m8 => K (0 : Int32) m8) K
set_option maxRecDepth 100000 in
set_option maxHeartbeats 4000000 in
theorem l_M_usesAny_2 {Z : Gz} {d k0 mc ms cs ss k t : Nat} {Q : Po} {ex : Hp} {o : Nat → Int64} {K : Int32 → Mem → Prop}  (ht : tok t) (hd : 3 ≤ d) (hcs : cs ≤ mc) (hss : ss ≤ ms) (hQ : ∀ (r : Int32) (m : Mem), K r m → Q (.inl (some (.int r))) (lay t ex o m) k) {a : Nat} {g : Nat → Int32} (ha0 : 0 < a) (hha : ∀ m : Mem, lay t ex o m a = .inl (.boolean, 24, .inl g)) {E31 : Int32 → Int32 → Mem → Prop} (hE31 : ∀ (x1 : Int32) (x3 : Int32) (m : Mem), E31 x1 x3 m → AW Z mX5_usesAny d k0 mc ms Q 31 [.ref 47, .int x1, .ref a, .int x3] [] (lay t ex o m) k cs ss) : ∀ (n : Nat) (x1 : Int32) (x3 : Int32) (m : Mem),  w_M_usesAny_2 n g x1 x3 m E31 K → AW Z mX5_usesAny d k0 mc ms Q 2 [.ref 47, .int x1, .ref a, .int x3] [] (lay t ex o m) k cs ss := by
  intro n
  induction n with
  | zero =>
    intros; rename_i hw; exact absurd hw (by simp [w_M_usesAny_2])
  | succ n ih =>
    intro x1 x3 m hw
    unfold w_M_usesAny_2 at hw
    refine AW.iload_n (pc := 2) dX5_usesAny_2 rfl rfl ?_
    refine AW.bipush (v := 24) (pc := 3) dX5_usesAny_3 (by decide) ?_
    refine AW.icmp_ge (pc := 5) (tgt := 31) dX5_usesAny_5 (by decide) (fun c1 => ?_) (fun c1 => ?_)
    · have hw := hw.1 c1
      exact hE31 x1 x3 m hw
    · have hw := hw.2 c1
      refine AW.aload_n (pc := 8) dX5_usesAny_8 rfl rfl ?_
      refine AW.iload_n (pc := 9) dX5_usesAny_9 rfl rfl ?_
      obtain ⟨hin, hw⟩ := hw
      refine AW.zald (pc := 10) dX5_usesAny_10 ha0 (hha _) hin ?_
      refine AW.if_eq (pc := 11) (tgt := 25) dX5_usesAny_11 (by decide) (fun c2 => ?_) (fun c2 => ?_)
      · have hw := hw.1 c2
        refine AW.iinc (v := (x3 + 1)) (L' := [.ref 47, .int x1, .ref a, .int (x3 + 1)]) (pc := 25) dX5_usesAny_25 rfl rfl (by decide) rfl rfl ?_
        refine AW.goto (pc := 28) (tgt := 2) dX5_usesAny_28 (by decide) ?_
        exact ih x1 (x3 + 1) m hw
      · have hw := hw.2 c2
        refine AW.aload_n (pc := 14) dX5_usesAny_14 rfl rfl ?_
        refine AW.iload_n (pc := 15) dX5_usesAny_15 rfl rfl ?_
        refine AW.iload_n (pc := 16) dX5_usesAny_16 rfl rfl ?_
        refine AW.callV (pc := 17) (S' := []) dX5_usesAny_17 (c_M_uses (d := d - 1) ht (by omega) hw) ok_X5_uses tw_918 ts_39 tw_916 (fix_pos (by decide)) (lay_at ht (by decide)) (show aw_cl[5]? = some _ from rfl) rfl rfl (by omega) rfl (Nat.le_of_ble_eq_true rfl) (by omega) (by omega) ?_ (fun E h' k' hq => by obtain ⟨rfl, r4, m3, hv, -⟩ := hq; cases hv)
        intro v h' k' hq
        obtain ⟨rfl, r4, m3, hv, rfl, hw⟩ := hq
        cases hv
        show AW _ _ _ _ _ _ _ 20 [.ref 47, .int x1, .ref a, .int x3] [.int r4] (lay t ex o m3) k _ _
        refine AW.if_eq (pc := 20) (tgt := 25) dX5_usesAny_20 (by decide) (fun c5 => ?_) (fun c5 => ?_)
        · have hw := hw.1 c5
          refine AW.iinc (v := (x3 + 1)) (L' := [.ref 47, .int x1, .ref a, .int (x3 + 1)]) (pc := 25) dX5_usesAny_25 rfl rfl (by decide) rfl rfl ?_
          refine AW.goto (pc := 28) (tgt := 2) dX5_usesAny_28 (by decide) ?_
          exact ih x1 (x3 + 1) m3 hw
        · have hw := hw.2 c5
          refine AW.iconst (v := 1) (pc := 23) dX5_usesAny_23 (by decide) ?_
          exact AW.iret (pc := 24) dX5_usesAny_24 rfl (by decide) (by omega) (by omega) (hQ _ _ hw)
set_option maxRecDepth 100000 in
set_option maxHeartbeats 4000000 in
theorem b_M_usesAny {Z : Gz} {d k0 mc ms cs ss k t : Nat} {Q : Po} {ex : Hp} {o : Nat → Int64} {K : Int32 → Mem → Prop}  (ht : tok t) (hd : 3 ≤ d) (hcs : cs + 0 ≤ mc) (hss : ss + 0 ≤ ms) (hQ : ∀ (r : Int32) (m : Mem), K r m → Q (.inl (some (.int r))) (lay t ex o m) k) {a : Nat} {g : Nat → Int32} (ha0 : 0 < a) (hha : ∀ m : Mem, lay t ex o m a = .inl (.boolean, 24, .inl g)) {m : Mem} (p1 : Int32) (hw : w_M_usesAny g p1 m K) : AW Z mX5_usesAny d k0 mc ms Q 0 [.ref 47, .int p1, .ref a, .null] [] (lay t ex o m) k cs ss := by
  unfold w_M_usesAny at hw
  refine AW.iconst (v := 0) (pc := 0) dX5_usesAny_0 (by decide) ?_
  refine AW.istore_n (L' := [.ref 47, .int p1, .ref a, .int (0 : Int32)]) (pc := 1) dX5_usesAny_1 rfl (by decide) rfl rfl ?_
  refine l_M_usesAny_2 ht hd (by omega) (by omega) hQ ha0 hha ?_ 31 p1 (0 : Int32) m hw
  intro y6 y7 m8 hw
  refine AW.iconst (v := 0) (pc := 31) dX5_usesAny_31 (by decide) ?_
  exact AW.iret (pc := 32) dX5_usesAny_32 rfl (by decide) (by omega) (by omega) (hQ _ _ hw)
set_option maxRecDepth 100000 in
set_option maxHeartbeats 4000000 in
theorem c_M_usesAny {d k t : Nat} {ex : Hp} {o : Nat → Int64} {K : Int32 → Mem → Prop} {m : Mem} {p1 : Int32} (ht : tok t) (hd : 3 ≤ d) {a : Nat} {g : Nat → Int32} (ha0 : 0 < a) (hha : ∀ m : Mem, lay t ex o m a = .inl (.boolean, 24, .inl g)) (hw : w_M_usesAny g p1 m K) : AM mX5_usesAny d [.ref 47, .int p1, .ref a] (lay t ex o m) k 0 0 (fun oc h' k' => k = k' ∧ ∃ (r : Int32) (m' : Mem), oc = .inl (some (.int r)) ∧ h' = lay t ex o m' ∧ K r m') :=
  AM.intro (μ := mX5_usesAny) (n := 1) (by decide) rfl rfl rfl (b_M_usesAny ht hd (by omega) (by omega) (fun _ _ hK => ⟨rfl, _, _, rfl, rfl, hK⟩) ha0 hha p1 hw)
def w_M_isInRing_25 : Nat → Int32 → Int32 → Int32 → (Nat → Int32) → Mem → (Int32 → Int32 → Int32 → (Nat → Int32) → Mem → Prop) → (Int32 → Mem → Prop) → Prop
  | 0, _, _, _, _, _, _, _ => False
  | n + 1, x1, x3, x4, xg, m, E86, K => (((m 47 1) ≤ x4 → E86 x1 x3 x4 xg m) ∧ (¬ ((m 47 1) ≤ x4) → w_M_isGate x4 m (fun r5 m4 => ((r5 = 0 → w_M_isInRing_25 n x1 x3 (x4 + 1) xg m4 E86 K) ∧ (¬ (r5 = 0) → vp_in x4 30 ∧ vp_in (m4 49 (x4).toNatClampNeg) 24 ∧ ((¬ ((xg (m4 49 (x4).toNatClampNeg).toNatClampNeg) = 0) → w_M_isInRing_25 n x1 x3 (x4 + 1) xg m4 E86 K) ∧ ((xg (m4 49 (x4).toNatClampNeg).toNatClampNeg) = 0 → w_M_usesAny xg x4 m4 (fun r9 m8 => ((¬ (r9 = 0) → vp_in x4 30 ∧ vp_in (m8 49 (x4).toNatClampNeg) 24 ∧ ∀ g11 : Nat → Int32, g11 = upd xg (m8 49 (x4).toNatClampNeg).toNatClampNeg (1 : Int32) → w_M_isInRing_25 n x1 (1 : Int32) (x4 + 1) g11 m8 E86 K) ∧ (r9 = 0 → w_M_isInRing_25 n x1 x3 (x4 + 1) xg m8 E86 K))))))))))
def w_M_isInRing_16 : Nat → Int32 → Int32 → (Nat → Int32) → Mem → (Int32 → Int32 → (Nat → Int32) → Mem → Prop) → (Int32 → Mem → Prop) → Prop
  | 0, _, _, _, _, _, _ => False
  | n + 1, x1, x3, xg, m, E89, K => ((x3 = 0 → E89 x1 x3 xg m) ∧ (¬ (x3 = 0) → w_M_isInRing_25 31 x1 (0 : Int32) (0 : Int32) xg m (fun y12 y13 y14 y15 m16 => w_M_isInRing_16 n y12 y13 y15 m16 E89 K) K))
def w_M_isInRing (p1 : Int32) (m : Mem) (K : Int32 → Mem → Prop) : Prop :=
  vp_in p1 30 ∧ vp_in (m 49 (p1).toNatClampNeg) 24 ∧ ∀ g1 : Nat → Int32, g1 = upd (fun _ => 0) (m 49 (p1).toNatClampNeg).toNatClampNeg (1 : Int32) → w_M_isInRing_16 25 p1 (1 : Int32) g1 m (fun y17 y18 y19 m20 => w_M_usesAny y19 y17 m20 (fun r22 m21 => narrow .boolean (.int r22) = .int r22 ∧ K r22 m21)) K
set_option maxRecDepth 100000 in
set_option maxHeartbeats 4000000 in
theorem l_M_isInRing_25 {Z : Gz} {d k0 mc ms cs ss k t : Nat} {Q : Po} {ex : Hp} {o : Nat → Int64} {K : Int32 → Mem → Prop}  (ht : tok t) (hd : 4 ≤ d) (hcs : cs ≤ mc) (hss : ss ≤ ms) (hQ : ∀ {k2 : Nat} {ex2 : Hp}, exle k ex k2 ex2 → ∀ (r : Int32) (m : Mem), K r m → Q (.inl (some (.int r))) (lay t ex2 o m) k2) (hk : kok t k) {E86 : Int32 → Int32 → Int32 → (Nat → Int32) → Mem → Prop} (hE86 : ∀ (x1 : Int32) (x3 : Int32) (x4 : Int32) (xg : (Nat → Int32)) (m : Mem), E86 x1 x3 x4 xg m → AW Z mX5_isInRing d k0 mc ms Q 86 [.ref 47, .int x1, .ref k, .int x3, .int x4] [] (lay t (va_up ex k (bz xg)) o m) (k + 1) cs ss) : ∀ (n : Nat) (x1 : Int32) (x3 : Int32) (x4 : Int32) (xg : (Nat → Int32)) (m : Mem),  w_M_isInRing_25 n x1 x3 x4 xg m E86 K → AW Z mX5_isInRing d k0 mc ms Q 25 [.ref 47, .int x1, .ref k, .int x3, .int x4] [] (lay t (va_up ex k (bz xg)) o m) (k + 1) cs ss := by
  intro n
  induction n with
  | zero =>
    intros; rename_i hw; exact absurd hw (by simp [w_M_isInRing_25])
  | succ n ih =>
    intro x1 x3 x4 xg m hw
    unfold w_M_isInRing_25 at hw
    refine AW.iload (pc := 25) dX5_isInRing_25 rfl ?_
    refine AW.aload_n (pc := 27) dX5_isInRing_27 rfl rfl ?_
    refine LW.get (pc := 28) (f := 1) (ci := 5) (T := TX5) ht (by decide) rfl dX5_isInRing_28 tw_799 rfl (by decide) rfl ?_
    refine AW.icmp_ge (pc := 31) (tgt := 86) dX5_isInRing_31 (by decide) (fun c3 => ?_) (fun c3 => ?_)
    · have hw := hw.1 c3
      exact hE86 x1 x3 x4 xg m hw
    · have hw := hw.2 c3
      refine AW.aload_n (pc := 34) dX5_isInRing_34 rfl rfl ?_
      refine AW.iload (pc := 35) dX5_isInRing_35 rfl ?_
      refine AW.callV (pc := 37) (S' := []) dX5_isInRing_37 (c_M_isGate (d := d - 1) ht (by omega) hw) ok_X5_isGate tw_922 ts_40 tw_920 (fix_pos (by decide)) (lay_at ht (by decide)) (show aw_cl[5]? = some _ from rfl) rfl rfl (by omega) rfl (Nat.le_of_ble_eq_true rfl) (by omega) (by omega) ?_ (fun E h' k' hq => by obtain ⟨rfl, r5, m4, hv, -⟩ := hq; cases hv)
      intro v h' k' hq
      obtain ⟨rfl, r5, m4, hv, rfl, hw⟩ := hq
      cases hv
      show AW _ _ _ _ _ _ _ 40 [.ref 47, .int x1, .ref k, .int x3, .int x4] [.int r5] (lay t (va_up ex k (bz xg)) o m4) (k + 1) _ _
      refine AW.if_eq (pc := 40) (tgt := 80) dX5_isInRing_40 (by decide) (fun c6 => ?_) (fun c6 => ?_)
      · have hw := hw.1 c6
        refine AW.iinc (v := (x4 + 1)) (L' := [.ref 47, .int x1, .ref k, .int x3, .int (x4 + 1)]) (pc := 80) dX5_isInRing_80 rfl rfl (by decide) rfl rfl ?_
        refine AW.goto (pc := 83) (tgt := 25) dX5_isInRing_83 (by decide) ?_
        exact ih x1 x3 (x4 + 1) xg m4 hw
      · have hw := hw.2 c6
        refine AW.aload_n (pc := 43) dX5_isInRing_43 rfl rfl ?_
        refine AW.aload_n (pc := 44) dX5_isInRing_44 rfl rfl ?_
        refine LW.get (pc := 45) (f := 3) (ci := 5) (T := TX5) ht (by decide) rfl dX5_isInRing_45 tw_801 rfl (by decide) rfl ?_
        refine AW.iload (pc := 48) dX5_isInRing_48 rfl ?_
        obtain ⟨hin, hw⟩ := hw
        refine LW.iald (pc := 50) (j := x4.toNatClampNeg) ht (by decide) rfl dX5_isInRing_50 hin rfl ?_
        obtain ⟨hin, hw⟩ := hw
        refine AW.zald (pc := 51) dX5_isInRing_51 (kok_pos hk) (lay_row hk ht) hin ?_
        refine AW.if_ne (pc := 52) (tgt := 80) dX5_isInRing_52 (by decide) (fun c7 => ?_) (fun c7 => ?_)
        · have hw := hw.1 c7
          refine AW.iinc (v := (x4 + 1)) (L' := [.ref 47, .int x1, .ref k, .int x3, .int (x4 + 1)]) (pc := 80) dX5_isInRing_80 rfl rfl (by decide) rfl rfl ?_
          refine AW.goto (pc := 83) (tgt := 25) dX5_isInRing_83 (by decide) ?_
          exact ih x1 x3 (x4 + 1) xg m4 hw
        · have hw := hw.2 c7
          refine AW.aload_n (pc := 55) dX5_isInRing_55 rfl rfl ?_
          refine AW.iload (pc := 56) dX5_isInRing_56 rfl ?_
          refine AW.aload_n (pc := 58) dX5_isInRing_58 rfl rfl ?_
          refine AW.callV (pc := 59) (S' := []) dX5_isInRing_59 (c_M_usesAny (d := d - 1) ht (by omega) (a := k) (kok_pos hk) (fun m => lay_row hk ht) hw) ok_X5_usesAny tw_930 ts_42 tw_928 (fix_pos (by decide)) (lay_at ht (by decide)) (show aw_cl[5]? = some _ from rfl) rfl rfl (by omega) rfl (Nat.le_of_ble_eq_true rfl) (by omega) (by omega) ?_ (fun E h' k' hq => by obtain ⟨rfl, r9, m8, hv, -⟩ := hq; cases hv)
          intro v h' k' hq
          obtain ⟨rfl, r9, m8, hv, rfl, hw⟩ := hq
          cases hv
          show AW _ _ _ _ _ _ _ 62 [.ref 47, .int x1, .ref k, .int x3, .int x4] [.int r9] (lay t (va_up ex k (bz xg)) o m8) (k + 1) _ _
          refine AW.if_ne (pc := 62) (tgt := 68) dX5_isInRing_62 (by decide) (fun c10 => ?_) (fun c10 => ?_)
          · have hw := hw.1 c10
            refine AW.aload_n (pc := 68) dX5_isInRing_68 rfl rfl ?_
            refine AW.aload_n (pc := 69) dX5_isInRing_69 rfl rfl ?_
            refine LW.get (pc := 70) (f := 3) (ci := 5) (T := TX5) ht (by decide) rfl dX5_isInRing_70 tw_801 rfl (by decide) rfl ?_
            refine AW.iload (pc := 73) dX5_isInRing_73 rfl ?_
            obtain ⟨hin, hw⟩ := hw
            refine LW.iald (pc := 75) (j := x4.toNatClampNeg) ht (by decide) rfl dX5_isInRing_75 hin rfl ?_
            refine AW.iconst (v := 1) (pc := 76) dX5_isInRing_76 (by decide) ?_
            obtain ⟨hin, hw⟩ := hw
            have hw := hw _ rfl
            refine AW.zast (pc := 77) dX5_isInRing_77 (kok_pos hk) (lay_row hk ht) hin (by decide) ?_
            rw [lay_rows hk ht]
            generalize upd xg (m8 49 (x4).toNatClampNeg).toNatClampNeg (1 : Int32) = g11 at hw ⊢
            refine AW.iconst (v := 1) (pc := 78) dX5_isInRing_78 (by decide) ?_
            refine AW.istore_n (L' := [.ref 47, .int x1, .ref k, .int (1 : Int32), .int x4]) (pc := 79) dX5_isInRing_79 rfl (by decide) rfl rfl ?_
            refine AW.iinc (v := (x4 + 1)) (L' := [.ref 47, .int x1, .ref k, .int (1 : Int32), .int (x4 + 1)]) (pc := 80) dX5_isInRing_80 rfl rfl (by decide) rfl rfl ?_
            refine AW.goto (pc := 83) (tgt := 25) dX5_isInRing_83 (by decide) ?_
            exact ih x1 (1 : Int32) (x4 + 1) g11 m8 hw
          · have hw := hw.2 c10
            refine AW.goto (pc := 65) (tgt := 80) dX5_isInRing_65 (by decide) ?_
            refine AW.iinc (v := (x4 + 1)) (L' := [.ref 47, .int x1, .ref k, .int x3, .int (x4 + 1)]) (pc := 80) dX5_isInRing_80 rfl rfl (by decide) rfl rfl ?_
            refine AW.goto (pc := 83) (tgt := 25) dX5_isInRing_83 (by decide) ?_
            exact ih x1 x3 (x4 + 1) xg m8 hw
set_option maxRecDepth 100000 in
set_option maxHeartbeats 4000000 in
theorem l_M_isInRing_16 {Z : Gz} {d k0 mc ms cs ss k t : Nat} {Q : Po} {ex : Hp} {o : Nat → Int64} {K : Int32 → Mem → Prop}  (ht : tok t) (hd : 4 ≤ d) (hcs : cs ≤ mc) (hss : ss ≤ ms) (hQ : ∀ {k2 : Nat} {ex2 : Hp}, exle k ex k2 ex2 → ∀ (r : Int32) (m : Mem), K r m → Q (.inl (some (.int r))) (lay t ex2 o m) k2) (hk : kok t k) {E89 : Int32 → Int32 → (Nat → Int32) → Mem → Prop} (hE89 : ∀ (x1 : Int32) (x3 : Int32) (xg : (Nat → Int32)) (m : Mem), E89 x1 x3 xg m → AW Z mX5_isInRing d k0 mc ms Q 89 [.ref 47, .int x1, .ref k, .int x3, .null] [] (lay t (va_up ex k (bz xg)) o m) (k + 1) cs ss) : ∀ (n : Nat) (x1 : Int32) (x3 : Int32) (xg : (Nat → Int32)) (m : Mem),  w_M_isInRing_16 n x1 x3 xg m E89 K → AW Z mX5_isInRing d k0 mc ms Q 16 [.ref 47, .int x1, .ref k, .int x3, .null] [] (lay t (va_up ex k (bz xg)) o m) (k + 1) cs ss := by
  intro n
  induction n with
  | zero =>
    intros; rename_i hw; exact absurd hw (by simp [w_M_isInRing_16])
  | succ n ih =>
    intro x1 x3 xg m hw
    unfold w_M_isInRing_16 at hw
    refine AW.iload_n (pc := 16) dX5_isInRing_16 rfl rfl ?_
    refine AW.if_eq (pc := 17) (tgt := 89) dX5_isInRing_17 (by decide) (fun c2 => ?_) (fun c2 => ?_)
    · have hw := hw.1 c2
      exact hE89 x1 x3 xg m hw
    · have hw := hw.2 c2
      refine AW.iconst (v := 0) (pc := 20) dX5_isInRing_20 (by decide) ?_
      refine AW.istore_n (L' := [.ref 47, .int x1, .ref k, .int (0 : Int32), .null]) (pc := 21) dX5_isInRing_21 rfl (by decide) rfl rfl ?_
      refine AW.iconst (v := 0) (pc := 22) dX5_isInRing_22 (by decide) ?_
      refine AW.istore (L' := [.ref 47, .int x1, .ref k, .int (0 : Int32), .int (0 : Int32)]) (pc := 23) dX5_isInRing_23 (by decide) rfl rfl ?_
      refine l_M_isInRing_25 ht hd (by omega) (by omega) hQ hk ?_ 31 x1 (0 : Int32) (0 : Int32) xg m hw
      intro y12 y13 y14 y15 m16 hw
      refine AW.goto (pc := 86) (tgt := 16) dX5_isInRing_86 (by decide) ?_
      refine AW.locals (L' := [.ref 47, .int y12, .ref k, .int y13, .null]) (aw_fewer_same (aw_fewer_same (aw_fewer_same (aw_fewer_same (aw_fewer_null aw_fewer_nil))))) ?_
      exact ih y12 y13 y15 m16 hw
set_option maxRecDepth 100000 in
set_option maxHeartbeats 4000000 in
theorem b_M_isInRing {Z : Gz} {d k0 mc ms cs ss k t : Nat} {Q : Po} {ex : Hp} {o : Nat → Int64} {K : Int32 → Mem → Prop}  (ht : tok t) (hd : 4 ≤ d) (hcs : cs + 1 ≤ mc) (hss : ss + 24 ≤ ms) (hQ : ∀ {k2 : Nat} {ex2 : Hp}, exle k ex k2 ex2 → ∀ (r : Int32) (m : Mem), K r m → Q (.inl (some (.int r))) (lay t ex2 o m) k2) (hk : kok t k) {m : Mem} (p1 : Int32) (hw : w_M_isInRing p1 m K) : AW Z mX5_isInRing d k0 mc ms Q 0 [.ref 47, .int p1, .null, .null, .null] [] (lay t ex o m) k cs ss := by
  unfold w_M_isInRing at hw
  refine AW.bipush (v := 24) (pc := 0) dX5_isInRing_0 (by decide) ?_
  refine AW.newa (ty := .boolean) (N := 24) (a0 := (24, .inl (fun _ => 0))) (pc := 2) dX5_isInRing_2 rfl (Or.inr (Or.inl rfl)) tw_128 (fun _ => rfl) (by decide) (by decide) (by decide) (by omega) (by omega) ?_
  rw [lay_new hk ht]
  refine AW.astore_n (L' := [.ref 47, .int p1, .ref k, .null, .null]) (pc := 4) dX5_isInRing_4 rfl (by decide) rfl rfl ?_
  refine AW.aload_n (pc := 5) dX5_isInRing_5 rfl rfl ?_
  refine AW.aload_n (pc := 6) dX5_isInRing_6 rfl rfl ?_
  refine LW.get (pc := 7) (f := 3) (ci := 5) (T := TX5) ht (by decide) rfl dX5_isInRing_7 tw_801 rfl (by decide) rfl ?_
  refine AW.iload_n (pc := 10) dX5_isInRing_10 rfl rfl ?_
  obtain ⟨hin, hw⟩ := hw
  refine LW.iald (pc := 11) (j := p1.toNatClampNeg) ht (by decide) rfl dX5_isInRing_11 hin rfl ?_
  refine AW.iconst (v := 1) (pc := 12) dX5_isInRing_12 (by decide) ?_
  obtain ⟨hin, hw⟩ := hw
  have hw := hw _ rfl
  refine AW.zast (pc := 13) dX5_isInRing_13 (kok_pos hk) (lay_row hk ht) hin (by decide) ?_
  rw [lay_rows hk ht]
  generalize upd (fun _ => 0) (m 49 (p1).toNatClampNeg).toNatClampNeg (1 : Int32) = g1 at hw ⊢
  refine AW.iconst (v := 1) (pc := 14) dX5_isInRing_14 (by decide) ?_
  refine AW.istore_n (L' := [.ref 47, .int p1, .ref k, .int (1 : Int32), .null]) (pc := 15) dX5_isInRing_15 rfl (by decide) rfl rfl ?_
  refine l_M_isInRing_16 ht hd (by omega) (by omega) hQ hk ?_ 25 p1 (1 : Int32) g1 m hw
  intro y17 y18 y19 m20 hw
  refine AW.aload_n (pc := 89) dX5_isInRing_89 rfl rfl ?_
  refine AW.iload_n (pc := 90) dX5_isInRing_90 rfl rfl ?_
  refine AW.aload_n (pc := 91) dX5_isInRing_91 rfl rfl ?_
  refine AW.callV (pc := 92) (S' := []) dX5_isInRing_92 (c_M_usesAny (d := d - 1) ht (by omega) (a := k) (kok_pos hk) (fun m => lay_row hk ht) hw) ok_X5_usesAny tw_930 ts_42 tw_928 (fix_pos (by decide)) (lay_at ht (by decide)) (show aw_cl[5]? = some _ from rfl) rfl rfl (by omega) rfl (Nat.le_of_ble_eq_true rfl) (by omega) (by omega) ?_ (fun E h' k' hq => by obtain ⟨rfl, r22, m21, hv, -⟩ := hq; cases hv)
  intro v h' k' hq
  obtain ⟨rfl, r22, m21, hv, rfl, hw⟩ := hq
  cases hv
  show AW _ _ _ _ _ _ _ 95 [.ref 47, .int y17, .ref k, .int y18, .null] [.int r22] (lay t (va_up ex k (bz y19)) o m21) (k + 1) _ _
  obtain ⟨hin, hw⟩ := hw
  exact AW.iret (pc := 95) dX5_isInRing_95 rfl hin (by omega) (by omega) (hQ (exle_row _) _ _ hw)
set_option maxRecDepth 100000 in
set_option maxHeartbeats 4000000 in
theorem c_M_isInRing {d k t : Nat} {ex : Hp} {o : Nat → Int64} {K : Int32 → Mem → Prop} {m : Mem} {p1 : Int32} (ht : tok t) (hd : 4 ≤ d) (hk : kok t k) (hw : w_M_isInRing p1 m K) : AM mX5_isInRing d [.ref 47, .int p1] (lay t ex o m) k 1 24 (fun oc h' k' => ∃ (ex' : Hp) (r : Int32) (m' : Mem), exle k ex k' ex' ∧ oc = .inl (some (.int r)) ∧ h' = lay t ex' o m' ∧ K r m') :=
  AM.intro (μ := mX5_isInRing) (n := 3) (by decide) rfl rfl rfl (b_M_isInRing ht hd (by omega) (by omega) (fun hx _ _ hK => ⟨_, _, _, hx, rfl, rfl, hK⟩) hk p1 hw)
def w_M_tellArrival : Nat → Int32 → Mem → Nat → (Int32 → Mem → Prop) → Prop
  | 0, _, _, _, _ => False
  | n + 1, p1, m, c, K => vp_in p1 24 ∧ (((m 59 (p1).toNatClampNeg) = 0 → w_M_driver p1 m (fun r3 m2 => (∀ J6 : Int32 → Mem → Prop, (∀ (v4 : Int32) (m5 : Mem), (w_M_isGate r3 m5 (fun r9 m8 => (∀ J13 : Int32 → Nat → Mem → Prop, (∀ (v10 : Int32) (s11 : Nat) (m12 : Mem), (vp_in p1 24 ∧ ∀ m67 : Mem, m67 = up2 m12 59 (p1.toNatClampNeg) (1 : Int32) → vp_in p1 24 ∧ ∀ m68 : Mem, m68 = up2 m67 58 (p1.toNatClampNeg) v10 → K v10 m68) → J13 v10 s11 m12) → ((r9 = 0 → J13 v4 0 m8) ∧ (¬ (r9 = 0) → (0 + 1) ≤ c ∧ w_M_isInRing r3 m8 (fun r19 m18 => (∀ J26 : Int32 → Nat → Mem → Prop, (∀ (v23 : Int32) (s24 : Nat) (m25 : Mem), (J13 v23 s24 m25) → J26 v23 s24 m25) → ((r19 = 0 → vp_in r3 30 ∧ ∃ c33 : Nat, ((0 + 1) + c33) ≤ c ∧ w_M_tellArrival n (m18 50 (r3).toNatClampNeg) m18 c33 (fun r32 m31 => vp_in r3 30 ∧ (∀ J40 : Int32 → Nat → Mem → Prop, (∀ (v37 : Int32) (s38 : Nat) (m39 : Mem), (vp_in r3 30 ∧ (∀ J54 : Int32 → Nat → Mem → Prop, (∀ (v51 : Int32) (s52 : Nat) (m53 : Mem), (w_M_behind r3 (jmin r32 (jmin v37 v51)) m53 (fun r66 m65 => J26 r66 s52 m65)) → J54 v51 s52 m53) → ((¬ ((m39 52 (r3).toNatClampNeg) = (-1 : Int32)) → vp_in r3 30 ∧ ∃ c61 : Nat, (s38 + c61) ≤ c ∧ w_M_tellArrival n (m39 52 (r3).toNatClampNeg) m39 c61 (fun r60 m59 => J54 r60 (s38 + c61) m59)) ∧ ((m39 52 (r3).toNatClampNeg) = (-1 : Int32) → J54 (999 : Int32) s38 m39)))) → J40 v37 s38 m39) → ((¬ ((m31 51 (r3).toNatClampNeg) = (-1 : Int32)) → vp_in r3 30 ∧ ∃ c47 : Nat, (((0 + 1) + c33) + c47) ≤ c ∧ w_M_tellArrival n (m31 51 (r3).toNatClampNeg) m31 c47 (fun r46 m45 => J40 r46 (((0 + 1) + c33) + c47) m45)) ∧ ((m31 51 (r3).toNatClampNeg) = (-1 : Int32) → J40 (999 : Int32) ((0 + 1) + c33) m31))))) ∧ (¬ (r19 = 0) → J26 (-1 : Int32) (0 + 1) m18))))))))) → J6 v4 m5) → ((¬ (r3 = (-1 : Int32)) → vp_in r3 30 ∧ J6 (m2 53 (r3).toNatClampNeg) m2) ∧ (r3 = (-1 : Int32) → J6 (0 : Int32) m2))))) ∧ (¬ ((m 59 (p1).toNatClampNeg) = 0) → vp_in p1 24 ∧ K (m 58 (p1).toNatClampNeg) m))
set_option maxRecDepth 100000 in
set_option maxHeartbeats 4000000 in
theorem c_M_tellArrival : ∀ (n : Nat) {d k t : Nat} {ex : Hp} {o : Nat → Int64} {K : Int32 → Mem → Prop} {m : Mem} {p1 : Int32} {c : Nat} (ht : tok t) (hd : n + 4 ≤ d) (hk : kok t k) (hw : w_M_tellArrival n p1 m c K), AM mX5_tellArrival d [.ref 47, .int p1] (lay t ex o m) k c (24 * c) (fun oc h' k' => ∃ (ex' : Hp) (r : Int32) (m' : Mem), exle k ex k' ex' ∧ oc = .inl (some (.int r)) ∧ h' = lay t ex' o m' ∧ K r m') := by
  intro n
  induction n with
  | zero => intros; rename_i hw; exact absurd hw (by simp [w_M_tellArrival])
  | succ n ih =>
    intro d k t ex o K m p1 c ht hd hk hw
    unfold w_M_tellArrival at hw
    refine AM.intro (μ := mX5_tellArrival) (n := 2) (by decide) rfl rfl rfl ?_
    have key : ∀ (Q : Po) (cs ss mc ms : Nat), cs + c ≤ mc → ss + 24 * c ≤ ms → (∀ {k2 : Nat} {ex2 : Hp}, exle k ex k2 ex2 → ∀ (r : Int32) (m' : Mem), K r m' → Q (.inl (some (.int r))) (lay t ex2 o m') k2) → AW aw_Z0 mX5_tellArrival d k mc ms Q 0 [.ref 47, .int p1, .null, .null] [] (lay t ex o m) k cs ss := by
      intro Q cs ss mc ms hcs hss hQ
      refine AW.aload_n (pc := 0) dX5_tellArrival_0 rfl rfl ?_
      refine LW.get (pc := 1) (f := 15) (ci := 5) (T := TX5) ht (by decide) rfl dX5_tellArrival_1 tw_813 rfl (by decide) rfl ?_
      refine AW.iload_n (pc := 4) dX5_tellArrival_4 rfl rfl ?_
      obtain ⟨hin, hw⟩ := hw
      refine LW.zald (pc := 5) (j := p1.toNatClampNeg) ht (by decide) rfl dX5_tellArrival_5 hin rfl ?_
      refine AW.if_eq (pc := 6) (tgt := 16) dX5_tellArrival_6 (by decide) (fun c1 => ?_) (fun c1 => ?_)
      · have hw := hw.1 c1
        refine AW.aload_n (pc := 16) dX5_tellArrival_16 rfl rfl ?_
        refine AW.iload_n (pc := 17) dX5_tellArrival_17 rfl rfl ?_
        refine AW.callV (pc := 18) (S' := []) dX5_tellArrival_18 (c_M_driver (d := d - 1) ht (by omega) hw) ok_X5_driver tw_950 ts_45 tw_948 (fix_pos (by decide)) (lay_at ht (by decide)) (show aw_cl[5]? = some _ from rfl) rfl rfl (by omega) rfl (Nat.le_of_ble_eq_true rfl) (by omega) (by omega) ?_ (fun E h' k' hq => by obtain ⟨rfl, r3, m2, hv, -⟩ := hq; cases hv)
        intro v h' k' hq
        obtain ⟨rfl, r3, m2, hv, rfl, hw⟩ := hq
        cases hv
        show AW _ _ _ _ _ _ _ 21 [.ref 47, .int p1, .null, .null] [.int r3] (lay t ex o m2) k _ _
        refine AW.istore_n (L' := [.ref 47, .int p1, .int r3, .null]) (pc := 21) dX5_tellArrival_21 rfl (by decide) rfl rfl ?_
        refine AW.iload_n (pc := 22) dX5_tellArrival_22 rfl rfl ?_
        refine AW.iconst (v := -1) (pc := 23) dX5_tellArrival_23 (by decide) ?_
        have hw := hw (fun v4 m5 => 0 ≤ c → AW aw_Z0 mX5_tellArrival d k mc ms Q 37 [.ref 47, .int p1, .int r3, .null] [.int v4] (lay t ex o m5) k (cs + 0) (ss + 24 * 0)) (by
            intro v4 m5 hw hsp
            refine AW.istore_n (L' := [.ref 47, .int p1, .int r3, .int v4]) (pc := 37) dX5_tellArrival_37 rfl (by decide) rfl rfl ?_
            refine AW.aload_n (pc := 38) dX5_tellArrival_38 rfl rfl ?_
            refine AW.iload_n (pc := 39) dX5_tellArrival_39 rfl rfl ?_
            refine AW.callV (pc := 40) (S' := []) dX5_tellArrival_40 (c_M_isGate (d := d - 1) ht (by omega) hw) ok_X5_isGate tw_922 ts_40 tw_920 (fix_pos (by decide)) (lay_at ht (by decide)) (show aw_cl[5]? = some _ from rfl) rfl rfl (by omega) rfl (Nat.le_of_ble_eq_true rfl) (by omega) (by omega) ?_ (fun E h' k' hq => by obtain ⟨rfl, r9, m8, hv, -⟩ := hq; cases hv)
            intro v h' k' hq
            obtain ⟨rfl, r9, m8, hv, rfl, hw⟩ := hq
            cases hv
            show AW _ _ _ _ _ _ _ 43 [.ref 47, .int p1, .int r3, .int v4] [.int r9] (lay t ex o m8) k _ _
            have hw := hw (fun v10 s11 m12 => ∀ (k14 : Nat) (ex15 : Hp), exle k ex k14 ex15 → s11 ≤ c → AW aw_Z0 mX5_tellArrival d k mc ms Q 132 [.ref 47, .int p1, .int r3, .int v10] [] (lay t ex15 o m12) k14 (cs + s11) (ss + 24 * s11)) (by
                intro v10 s11 m12 hw k14 ex15 hx16 hsp
                refine AW.aload_n (pc := 132) dX5_tellArrival_132 rfl rfl ?_
                refine LW.get (pc := 133) (f := 15) (ci := 5) (T := TX5) ht (by decide) rfl dX5_tellArrival_133 tw_813 rfl (by decide) rfl ?_
                refine AW.iload_n (pc := 136) dX5_tellArrival_136 rfl rfl ?_
                refine AW.iconst (v := 1) (pc := 137) dX5_tellArrival_137 (by decide) ?_
                obtain ⟨hin, hw⟩ := hw
                have hw := hw _ rfl
                refine LW.zast (pc := 138) (j := p1.toNatClampNeg) ht (by decide) (fun _ => rfl) dX5_tellArrival_138 hin (by decide) rfl ?_
                generalize up2 m12 59 (p1.toNatClampNeg) (1 : Int32) = m67 at hw ⊢
                refine AW.aload_n (pc := 139) dX5_tellArrival_139 rfl rfl ?_
                refine LW.get (pc := 140) (f := 14) (ci := 5) (T := TX5) ht (by decide) rfl dX5_tellArrival_140 tw_812 rfl (by decide) rfl ?_
                refine AW.iload_n (pc := 143) dX5_tellArrival_143 rfl rfl ?_
                refine AW.iload_n (pc := 144) dX5_tellArrival_144 rfl rfl ?_
                obtain ⟨hin, hw⟩ := hw
                have hw := hw _ rfl
                refine LW.iast (pc := 145) (j := p1.toNatClampNeg) ht (by decide) (fun _ => rfl) dX5_tellArrival_145 hin rfl ?_
                generalize up2 m67 58 (p1.toNatClampNeg) v10 = m68 at hw ⊢
                refine AW.iload_n (pc := 146) dX5_tellArrival_146 rfl rfl ?_
                exact AW.iret (pc := 147) dX5_tellArrival_147 rfl rfl (by omega) (by omega) (hQ hx16 _ _ hw))
            refine AW.if_eq (pc := 43) (tgt := 132) dX5_tellArrival_43 (by decide) (fun c17 => ?_) (fun c17 => ?_)
            · have hw := hw.1 c17
              refine AW.widen (cs' := cs + 0) (ss' := ss + 24 * 0) (by omega) (by omega) ?_
              exact hw _ _ (exle.refl _ _) (by omega)
            · have hw := hw.2 c17
              refine AW.aload_n (pc := 46) dX5_tellArrival_46 rfl rfl ?_
              refine AW.iload_n (pc := 47) dX5_tellArrival_47 rfl rfl ?_
              obtain ⟨hcv, hw⟩ := hw
              refine AW.callV (pc := 48) (S' := []) dX5_tellArrival_48 (c_M_isInRing (d := d - 1) ht (by omega) hk hw) ok_X5_isInRing tw_926 ts_41 tw_924 (fix_pos (by decide)) (lay_at ht (by decide)) (show aw_cl[5]? = some _ from rfl) rfl rfl (by omega) rfl (Nat.le_of_ble_eq_true rfl) (by omega) (by omega) ?_ (fun E h' k' hq => by obtain ⟨ex21, r19, m18, hx22, hv, -⟩ := hq; cases hv)
              intro v h' k20 hq
              obtain ⟨ex21, r19, m18, hx22, hv, rfl, hw⟩ := hq
              cases hv
              show AW _ _ _ _ _ _ _ 51 [.ref 47, .int p1, .int r3, .int v4] [.int r19] (lay t ex21 o m18) k20 _ _
              have hw := hw (fun v23 s24 m25 => ∀ (k27 : Nat) (ex28 : Hp), exle k ex k27 ex28 → s24 ≤ c → AW aw_Z0 mX5_tellArrival d k mc ms Q 131 [.ref 47, .int p1, .int r3, .int v4] [.int v23] (lay t ex28 o m25) k27 (cs + s24) (ss + 24 * s24)) (by
                  intro v23 s24 m25 hw k27 ex28 hx29 hsp
                  refine AW.istore_n (L' := [.ref 47, .int p1, .int r3, .int v23]) (pc := 131) dX5_tellArrival_131 rfl (by decide) rfl rfl ?_
                  refine AW.widen (cs' := cs + s24) (ss' := ss + 24 * s24) (by omega) (by omega) ?_
                  exact hw _ _ hx29 (by omega))
              refine AW.if_eq (pc := 51) (tgt := 58) dX5_tellArrival_51 (by decide) (fun c30 => ?_) (fun c30 => ?_)
              · have hw := hw.1 c30
                refine AW.aload_n (pc := 58) dX5_tellArrival_58 rfl rfl ?_
                refine AW.iload_n (pc := 59) dX5_tellArrival_59 rfl rfl ?_
                refine AW.aload_n (pc := 60) dX5_tellArrival_60 rfl rfl ?_
                refine AW.aload_n (pc := 61) dX5_tellArrival_61 rfl rfl ?_
                refine LW.get (pc := 62) (f := 4) (ci := 5) (T := TX5) ht (by decide) rfl dX5_tellArrival_62 tw_802 rfl (by decide) rfl ?_
                refine AW.iload_n (pc := 65) dX5_tellArrival_65 rfl rfl ?_
                obtain ⟨hin, hw⟩ := hw
                refine LW.iald (pc := 66) (j := r3.toNatClampNeg) ht (by decide) rfl dX5_tellArrival_66 hin rfl ?_
                obtain ⟨c33, hc33, hw⟩ := hw
                refine AW.callV (pc := 67) (S' := [.int r3, .ref 47]) dX5_tellArrival_67 (ih (d := d - 1) ht (by omega) (hk.le hx22) hw) ok_X5_tellArrival tw_946 ts_44 tw_944 (fix_pos (by decide)) (lay_at ht (by decide)) (show aw_cl[5]? = some _ from rfl) rfl rfl (by omega) rfl (Nat.le_of_ble_eq_true rfl) (by omega) (by omega) ?_ (fun E h' k' hq => by obtain ⟨ex35, r32, m31, hx36, hv, -⟩ := hq; cases hv)
                intro v h' k34 hq
                obtain ⟨ex35, r32, m31, hx36, hv, rfl, hw⟩ := hq
                cases hv
                show AW _ _ _ _ _ _ _ 70 [.ref 47, .int p1, .int r3, .int v4] [.int r32, .int r3, .ref 47] (lay t ex35 o m31) k34 _ _
                refine AW.aload_n (pc := 70) dX5_tellArrival_70 rfl rfl ?_
                refine LW.get (pc := 71) (f := 5) (ci := 5) (T := TX5) ht (by decide) rfl dX5_tellArrival_71 tw_803 rfl (by decide) rfl ?_
                refine AW.iload_n (pc := 74) dX5_tellArrival_74 rfl rfl ?_
                obtain ⟨hin, hw⟩ := hw
                refine LW.iald (pc := 75) (j := r3.toNatClampNeg) ht (by decide) rfl dX5_tellArrival_75 hin rfl ?_
                refine AW.iconst (v := -1) (pc := 76) dX5_tellArrival_76 (by decide) ?_
                have hw := hw (fun v37 s38 m39 => ∀ (k41 : Nat) (ex42 : Hp), exle k ex k41 ex42 → s38 ≤ c → AW aw_Z0 mX5_tellArrival d k mc ms Q 96 [.ref 47, .int p1, .int r3, .int v4] [.int v37, .int r32, .int r3, .ref 47] (lay t ex42 o m39) k41 (cs + s38) (ss + 24 * s38)) (by
                    intro v37 s38 m39 hw k41 ex42 hx43 hsp
                    refine AW.aload_n (pc := 96) dX5_tellArrival_96 rfl rfl ?_
                    refine LW.get (pc := 97) (f := 6) (ci := 5) (T := TX5) ht (by decide) rfl dX5_tellArrival_97 tw_804 rfl (by decide) rfl ?_
                    refine AW.iload_n (pc := 100) dX5_tellArrival_100 rfl rfl ?_
                    obtain ⟨hin, hw⟩ := hw
                    refine LW.iald (pc := 101) (j := r3.toNatClampNeg) ht (by decide) rfl dX5_tellArrival_101 hin rfl ?_
                    refine AW.iconst (v := -1) (pc := 102) dX5_tellArrival_102 (by decide) ?_
                    have hw := hw (fun v51 s52 m53 => ∀ (k55 : Nat) (ex56 : Hp), exle k ex k55 ex56 → s52 ≤ c → AW aw_Z0 mX5_tellArrival d k mc ms Q 122 [.ref 47, .int p1, .int r3, .int v4] [.int v51, .int v37, .int r32, .int r3, .ref 47] (lay t ex56 o m53) k55 (cs + s52) (ss + 24 * s52)) (by
                        intro v51 s52 m53 hw k55 ex56 hx57 hsp
                        refine AW.mmin (pc := 122) dX5_tellArrival_122 tw_952 tw_953 tw_14 (Nat.le_of_ble_eq_true rfl) (by omega) (by omega) ?_
                        refine AW.mmin (pc := 125) dX5_tellArrival_125 tw_952 tw_953 tw_14 (Nat.le_of_ble_eq_true rfl) (by omega) (by omega) ?_
                        refine AW.callV (pc := 128) (S' := []) dX5_tellArrival_128 (c_M_behind (d := d - 1) ht (by omega) hw) ok_X5_behind tw_957 ts_46 tw_955 (fix_pos (by decide)) (lay_at ht (by decide)) (show aw_cl[5]? = some _ from rfl) rfl rfl (by omega) rfl (Nat.le_of_ble_eq_true rfl) (by omega) (by omega) ?_ (fun E h' k' hq => by obtain ⟨rfl, r66, m65, hv, -⟩ := hq; cases hv)
                        intro v h' k' hq
                        obtain ⟨rfl, r66, m65, hv, rfl, hw⟩ := hq
                        cases hv
                        show AW _ _ _ _ _ _ _ 131 [.ref 47, .int p1, .int r3, .int v4] [.int r66] (lay t ex56 o m65) k55 _ _
                        refine AW.widen (cs' := cs + s52) (ss' := ss + 24 * s52) (by omega) (by omega) ?_
                        exact hw _ _ hx57 (by omega))
                    refine AW.icmp_ne (pc := 103) (tgt := 112) dX5_tellArrival_103 (by decide) (fun c58 => ?_) (fun c58 => ?_)
                    · have hw := hw.1 c58
                      refine AW.aload_n (pc := 112) dX5_tellArrival_112 rfl rfl ?_
                      refine AW.aload_n (pc := 113) dX5_tellArrival_113 rfl rfl ?_
                      refine LW.get (pc := 114) (f := 6) (ci := 5) (T := TX5) ht (by decide) rfl dX5_tellArrival_114 tw_804 rfl (by decide) rfl ?_
                      refine AW.iload_n (pc := 117) dX5_tellArrival_117 rfl rfl ?_
                      obtain ⟨hin, hw⟩ := hw
                      refine LW.iald (pc := 118) (j := r3.toNatClampNeg) ht (by decide) rfl dX5_tellArrival_118 hin rfl ?_
                      obtain ⟨c61, hc61, hw⟩ := hw
                      refine AW.callV (pc := 119) (S' := [.int v37, .int r32, .int r3, .ref 47]) dX5_tellArrival_119 (ih (d := d - 1) ht (by omega) (hk.le hx43) hw) ok_X5_tellArrival tw_946 ts_44 tw_944 (fix_pos (by decide)) (lay_at ht (by decide)) (show aw_cl[5]? = some _ from rfl) rfl rfl (by omega) rfl (Nat.le_of_ble_eq_true rfl) (by omega) (by omega) ?_ (fun E h' k' hq => by obtain ⟨ex63, r60, m59, hx64, hv, -⟩ := hq; cases hv)
                      intro v h' k62 hq
                      obtain ⟨ex63, r60, m59, hx64, hv, rfl, hw⟩ := hq
                      cases hv
                      show AW _ _ _ _ _ _ _ 122 [.ref 47, .int p1, .int r3, .int v4] [.int r60, .int v37, .int r32, .int r3, .ref 47] (lay t ex63 o m59) k62 _ _
                      refine AW.widen (cs' := cs + (s38 + c61)) (ss' := ss + 24 * (s38 + c61)) (by omega) (by omega) ?_
                      exact hw _ _ (hx43.trans hx64) (by omega)
                    · have hw := hw.2 c58
                      refine AW.sipush (v := 999) (pc := 106) dX5_tellArrival_106 (by decide) ?_
                      refine AW.goto (pc := 109) (tgt := 122) dX5_tellArrival_109 (by decide) ?_
                      refine AW.widen (cs' := cs + s38) (ss' := ss + 24 * s38) (by omega) (by omega) ?_
                      exact hw _ _ hx43 (by omega))
                refine AW.icmp_ne (pc := 77) (tgt := 86) dX5_tellArrival_77 (by decide) (fun c44 => ?_) (fun c44 => ?_)
                · have hw := hw.1 c44
                  refine AW.aload_n (pc := 86) dX5_tellArrival_86 rfl rfl ?_
                  refine AW.aload_n (pc := 87) dX5_tellArrival_87 rfl rfl ?_
                  refine LW.get (pc := 88) (f := 5) (ci := 5) (T := TX5) ht (by decide) rfl dX5_tellArrival_88 tw_803 rfl (by decide) rfl ?_
                  refine AW.iload_n (pc := 91) dX5_tellArrival_91 rfl rfl ?_
                  obtain ⟨hin, hw⟩ := hw
                  refine LW.iald (pc := 92) (j := r3.toNatClampNeg) ht (by decide) rfl dX5_tellArrival_92 hin rfl ?_
                  obtain ⟨c47, hc47, hw⟩ := hw
                  refine AW.callV (pc := 93) (S' := [.int r32, .int r3, .ref 47]) dX5_tellArrival_93 (ih (d := d - 1) ht (by omega) (hk.le (hx22.trans hx36)) hw) ok_X5_tellArrival tw_946 ts_44 tw_944 (fix_pos (by decide)) (lay_at ht (by decide)) (show aw_cl[5]? = some _ from rfl) rfl rfl (by omega) rfl (Nat.le_of_ble_eq_true rfl) (by omega) (by omega) ?_ (fun E h' k' hq => by obtain ⟨ex49, r46, m45, hx50, hv, -⟩ := hq; cases hv)
                  intro v h' k48 hq
                  obtain ⟨ex49, r46, m45, hx50, hv, rfl, hw⟩ := hq
                  cases hv
                  show AW _ _ _ _ _ _ _ 96 [.ref 47, .int p1, .int r3, .int v4] [.int r46, .int r32, .int r3, .ref 47] (lay t ex49 o m45) k48 _ _
                  refine AW.widen (cs' := cs + (((0 + 1) + c33) + c47)) (ss' := ss + 24 * (((0 + 1) + c33) + c47)) (by omega) (by omega) ?_
                  exact hw _ _ ((hx22.trans hx36).trans hx50) (by omega)
                · have hw := hw.2 c44
                  refine AW.sipush (v := 999) (pc := 80) dX5_tellArrival_80 (by decide) ?_
                  refine AW.goto (pc := 83) (tgt := 96) dX5_tellArrival_83 (by decide) ?_
                  refine AW.widen (cs' := cs + ((0 + 1) + c33)) (ss' := ss + 24 * ((0 + 1) + c33)) (by omega) (by omega) ?_
                  exact hw _ _ (hx22.trans hx36) (by omega)
              · have hw := hw.2 c30
                refine AW.iconst (v := -1) (pc := 54) dX5_tellArrival_54 (by decide) ?_
                refine AW.goto (pc := 55) (tgt := 131) dX5_tellArrival_55 (by decide) ?_
                refine AW.widen (cs' := cs + (0 + 1)) (ss' := ss + 24 * (0 + 1)) (by omega) (by omega) ?_
                exact hw _ _ hx22 (by omega))
        refine AW.icmp_ne (pc := 24) (tgt := 31) dX5_tellArrival_24 (by decide) (fun c7 => ?_) (fun c7 => ?_)
        · have hw := hw.1 c7
          refine AW.aload_n (pc := 31) dX5_tellArrival_31 rfl rfl ?_
          refine LW.get (pc := 32) (f := 7) (ci := 5) (T := TX5) ht (by decide) rfl dX5_tellArrival_32 tw_805 rfl (by decide) rfl ?_
          refine AW.iload_n (pc := 35) dX5_tellArrival_35 rfl rfl ?_
          obtain ⟨hin, hw⟩ := hw
          refine LW.iald (pc := 36) (j := r3.toNatClampNeg) ht (by decide) rfl dX5_tellArrival_36 hin rfl ?_
          refine AW.widen (cs' := cs + 0) (ss' := ss + 24 * 0) (by omega) (by omega) ?_
          exact hw (by omega)
        · have hw := hw.2 c7
          refine AW.iconst (v := 0) (pc := 27) dX5_tellArrival_27 (by decide) ?_
          refine AW.goto (pc := 28) (tgt := 37) dX5_tellArrival_28 (by decide) ?_
          refine AW.widen (cs' := cs + 0) (ss' := ss + 24 * 0) (by omega) (by omega) ?_
          exact hw (by omega)
      · have hw := hw.2 c1
        refine AW.aload_n (pc := 9) dX5_tellArrival_9 rfl rfl ?_
        refine LW.get (pc := 10) (f := 14) (ci := 5) (T := TX5) ht (by decide) rfl dX5_tellArrival_10 tw_812 rfl (by decide) rfl ?_
        refine AW.iload_n (pc := 13) dX5_tellArrival_13 rfl rfl ?_
        obtain ⟨hin, hw⟩ := hw
        refine LW.iald (pc := 14) (j := p1.toNatClampNeg) ht (by decide) rfl dX5_tellArrival_14 hin rfl ?_
        exact AW.iret (pc := 15) dX5_tellArrival_15 rfl rfl (by omega) (by omega) (hQ (exle.refl _ _) _ _ hw)
    exact key _ 0 0 c (24 * c) (by omega) (by omega) (fun hx _ _ hK => ⟨_, _, _, hx, rfl, rfl, hK⟩)
def w_M_tellArrivals_23 : Nat → Int32 → Mem → Nat → (Mem → Prop) → Prop
  | 0, _, _, _, _ => False
  | n + 1, x1, m, c, K => (((24 : Int32) ≤ x1 → K m) ∧ (¬ ((24 : Int32) ≤ x1) → ∃ c1 : Nat, c1 ≤ c ∧ w_M_tellArrival 30 x1 m c1 (fun _ m1 => w_M_tellArrivals_23 n (x1 + 1) m1 (c - c1) K)))
set_option maxRecDepth 100000 in
set_option maxHeartbeats 4000000 in
theorem l_M_tellArrivals_23 {Z : Gz} {d k0 mc ms k t : Nat} {Q : Po} {ex : Hp} {o : Nat → Int64} {K : Mem → Prop} (ht : tok t) (hd : 35 ≤ d) (hQ : ∀ {k2 : Nat} {ex2 : Hp}, exle k ex k2 ex2 → ∀ (m : Mem), K m → Q (.inl none) (lay t ex2 o m) k2) (hk : kok t k) : ∀ (n : Nat) (x1 : Int32) (m : Mem) (c k2 : Nat) (ex2 : Hp), exle k ex k2 ex2 → ∀ (cs ss : Nat), cs + c ≤ mc → ss + 24 * c ≤ ms → w_M_tellArrivals_23 n x1 m c K → AW Z mX5_tellArrivals d k0 mc ms Q 23 [.ref 47, .int x1] [] (lay t ex2 o m) k2 cs ss := by
  intro n
  induction n with
  | zero => intros; rename_i hw; exact absurd hw (by simp [w_M_tellArrivals_23])
  | succ n ih =>
    intro x1 m c k2 ex2 hx2 cs ss hcs hss hw
    unfold w_M_tellArrivals_23 at hw
    refine AW.iload_n (pc := 23) dX5_tellArrivals_23 rfl rfl ?_
    refine AW.bipush (v := 24) (pc := 24) dX5_tellArrivals_24 (by decide) ?_
    refine AW.icmp_ge (pc := 26) (tgt := 41) dX5_tellArrivals_26 (by decide) (fun c1 => ?_) (fun c1 => ?_)
    · have hw := hw.1 c1
      exact AW.vret (pc := 41) dX5_tellArrivals_41 rfl (by omega) (by omega) (hQ hx2 _ hw)
    · obtain ⟨c1, hc1, hw⟩ := hw.2 c1
      refine AW.aload_n (pc := 29) dX5_tellArrivals_29 rfl rfl ?_
      refine AW.iload_n (pc := 30) dX5_tellArrivals_30 rfl rfl ?_
      refine AW.callV (pc := 31) (S' := []) dX5_tellArrivals_31 (c_M_tellArrival 30 (d := d - 1) ht (by omega) (hk.le hx2) hw) ok_X5_tellArrival tw_946 ts_44 tw_944 (fix_pos (by decide)) (lay_at ht (by decide)) (show aw_cl[5]? = some _ from rfl) rfl rfl (by omega) rfl (Nat.le_of_ble_eq_true rfl) (by omega) (by omega) ?_ (fun E h' k' hq => by obtain ⟨ex21, r19, m18, hx22, hv, -⟩ := hq; cases hv)
      intro v h' k3 hq
      obtain ⟨ex3, r3, m3, hx3, hv, rfl, hw⟩ := hq
      cases hv
      show AW _ _ _ _ _ _ _ 34 [.ref 47, .int x1] [.int r3] (lay t ex3 o m3) k3 _ _
      refine AW.pop (pc := 34) dX5_tellArrivals_34 rfl ?_
      refine AW.iinc (v := (x1 + 1)) (L' := [.ref 47, .int (x1 + 1)]) (pc := 35) dX5_tellArrivals_35 rfl rfl (by decide) rfl rfl ?_
      refine AW.goto (pc := 38) (tgt := 23) dX5_tellArrivals_38 (by decide) ?_
      exact ih _ _ _ _ _ (hx2.trans hx3) _ _ (by omega) (by omega) hw
def w_M_tellArrivals_2 : Nat → Int32 → Mem → (Int32 → Mem → Prop) → (Mem → Prop) → Prop
  | 0, _, _, _, _ => False
  | n + 1, x1, m, E21, K => (((24 : Int32) ≤ x1 → E21 x1 m) ∧ (¬ ((24 : Int32) ≤ x1) → vp_in x1 24 ∧ ∀ m2 : Mem, m2 = up2 m 59 (x1.toNatClampNeg) (0 : Int32) → w_M_tellArrivals_2 n (x1 + 1) m2 E21 K))
def w_M_tellArrivals (m : Mem) (K : Mem → Prop) : Prop :=
  w_M_tellArrivals_2 25 (0 : Int32) m (fun y3 m4 => w_M_tellArrivals_23 25 (0 : Int32) m4 24 K) K
set_option maxRecDepth 100000 in
set_option maxHeartbeats 4000000 in
theorem l_M_tellArrivals_2 {Z : Gz} {d k0 mc ms cs ss k t : Nat} {Q : Po} {ex : Hp} {o : Nat → Int64} {K : Mem → Prop}  (ht : tok t) (hd : 35 ≤ d) (hcs : cs ≤ mc) (hss : ss ≤ ms) (hQ : ∀ {k2 : Nat} {ex2 : Hp}, exle k ex k2 ex2 → ∀ (m : Mem), K m → Q (.inl none) (lay t ex2 o m) k2) (hk : kok t k) {k2 : Nat} {ex2 : Hp} (hx2 : exle k ex k2 ex2) {E21 : Int32 → Mem → Prop} (hE21 : ∀ (x1 : Int32) (m : Mem), E21 x1 m → AW Z mX5_tellArrivals d k0 mc ms Q 21 [.ref 47, .int x1] [] (lay t ex2 o m) k2 cs ss) : ∀ (n : Nat) (x1 : Int32) (m : Mem),  w_M_tellArrivals_2 n x1 m E21 K → AW Z mX5_tellArrivals d k0 mc ms Q 2 [.ref 47, .int x1] [] (lay t ex2 o m) k2 cs ss := by
  intro n
  induction n with
  | zero =>
    intros; rename_i hw; exact absurd hw (by simp [w_M_tellArrivals_2])
  | succ n ih =>
    intro x1 m hw
    unfold w_M_tellArrivals_2 at hw
    refine AW.iload_n (pc := 2) dX5_tellArrivals_2 rfl rfl ?_
    refine AW.bipush (v := 24) (pc := 3) dX5_tellArrivals_3 (by decide) ?_
    refine AW.icmp_ge (pc := 5) (tgt := 21) dX5_tellArrivals_5 (by decide) (fun c1 => ?_) (fun c1 => ?_)
    · have hw := hw.1 c1
      exact hE21 x1 m hw
    · have hw := hw.2 c1
      refine AW.aload_n (pc := 8) dX5_tellArrivals_8 rfl rfl ?_
      refine LW.get (pc := 9) (f := 15) (ci := 5) (T := TX5) ht (by decide) rfl dX5_tellArrivals_9 tw_813 rfl (by decide) rfl ?_
      refine AW.iload_n (pc := 12) dX5_tellArrivals_12 rfl rfl ?_
      refine AW.iconst (v := 0) (pc := 13) dX5_tellArrivals_13 (by decide) ?_
      obtain ⟨hin, hw⟩ := hw
      have hw := hw _ rfl
      refine LW.zast (pc := 14) (j := x1.toNatClampNeg) ht (by decide) (fun _ => rfl) dX5_tellArrivals_14 hin (by decide) rfl ?_
      generalize up2 m 59 (x1.toNatClampNeg) (0 : Int32) = m2 at hw ⊢
      refine AW.iinc (v := (x1 + 1)) (L' := [.ref 47, .int (x1 + 1)]) (pc := 15) dX5_tellArrivals_15 rfl rfl (by decide) rfl rfl ?_
      refine AW.goto (pc := 18) (tgt := 2) dX5_tellArrivals_18 (by decide) ?_
      exact ih (x1 + 1) m2 hw
set_option maxRecDepth 100000 in
set_option maxHeartbeats 4000000 in
theorem b_M_tellArrivals {Z : Gz} {d k0 mc ms cs ss k t : Nat} {Q : Po} {ex : Hp} {o : Nat → Int64} {K : Mem → Prop}  (ht : tok t) (hd : 35 ≤ d) (hcs : cs + 24 ≤ mc) (hss : ss + 576 ≤ ms) (hQ : ∀ {k2 : Nat} {ex2 : Hp}, exle k ex k2 ex2 → ∀ (m : Mem), K m → Q (.inl none) (lay t ex2 o m) k2) (hk : kok t k) {m : Mem}  (hw : w_M_tellArrivals  m K) : AW Z mX5_tellArrivals d k0 mc ms Q 0 [.ref 47, .null] [] (lay t ex o m) k cs ss := by
  unfold w_M_tellArrivals at hw
  refine AW.iconst (v := 0) (pc := 0) dX5_tellArrivals_0 (by decide) ?_
  refine AW.istore_n (L' := [.ref 47, .int (0 : Int32)]) (pc := 1) dX5_tellArrivals_1 rfl (by decide) rfl rfl ?_
  refine l_M_tellArrivals_2 ht hd (by omega) (by omega) hQ hk (exle.refl _ _) ?_ 25 (0 : Int32) m hw
  intro y3 m4 hw
  refine AW.iconst (v := 0) (pc := 21) dX5_tellArrivals_21 (by decide) ?_
  refine AW.istore_n (L' := [.ref 47, .int (0 : Int32)]) (pc := 22) dX5_tellArrivals_22 rfl (by decide) rfl rfl ?_
  exact l_M_tellArrivals_23 ht hd hQ hk 25 0 m4 24 _ _ (exle.refl _ _) _ _ (by omega) (by omega) hw
set_option maxRecDepth 100000 in
set_option maxHeartbeats 4000000 in
theorem c_M_tellArrivals {d k t : Nat} {ex : Hp} {o : Nat → Int64} {K : Mem → Prop} {m : Mem}  (ht : tok t) (hd : 35 ≤ d) (hk : kok t k) (hw : w_M_tellArrivals  m K) : AM mX5_tellArrivals d [.ref 47] (lay t ex o m) k 24 576 (fun oc h' k' => ∃ (ex' : Hp) (m' : Mem), exle k ex k' ex' ∧ oc = .inl none ∧ h' = lay t ex' o m' ∧ K m') :=
  AM.intro (μ := mX5_tellArrivals) (n := 1) (by decide) rfl rfl rfl (b_M_tellArrivals ht hd (by omega) (by omega) (fun hx _ hK => ⟨_, _, hx, rfl, rfl, hK⟩) hk  hw)
