/-! the bench starts: what is asked, what is changed -/
theorem AW.iast2 {Z : Gz} {μ : Mt} {d k0 mc ms : Nat} {Q : Po} {pc : Nat} {L S : List Value} {h : Hp} {k cs ss i n j : Nat} {g : Nat → Int32} {x y : Int32} (hd : decode μ.2.1 pc = .ok (.iastore, 1)) (h0 : 0 < i) (hh : h i = irow n g) (hin : vp_in x n) (hj : x.toNatClampNeg = j) (K : AW Z μ d k0 mc ms Q (pc + 1) L S (va_up h i (irow n (upd g j y))) k cs ss) : AW Z μ d k0 mc ms Q pc L (.int y :: .int x :: .ref i :: S) h k cs ss := by
  subst hj
  exact AW.iast hd h0 hh hin K
def SP (h : Hp) (k : Nat) (x : Nat → Int32) (pe hz n : Nat) (T : Nat → Nat → Int32) (c : Nat) (V pm : Nat → Int32) : Prop :=
  BN h x 49 pe hz n T ∧ WN h c V ∧ PP h k pe n c pm ∧ (∃ r : Nat → Int32, h 51 = irow 30 r ∧ ∀ l, l < 30 → r l = -1000) ∧ x 6 = 0 ∧ (79 + n ≤ c ∧ c + 24 ≤ k ∧ pe < k ∧ 79 + n ≤ pe ∧ (pe < c ∨ c + 24 ≤ pe))
/-- what was there is the same, but for the bench's own cell -/
def FS (k : Nat) (h h' : Hp) : Prop := ∀ i, 0 < i → i < k → i ≠ 1 → h' i = h i
theorem FS.refl (k : Nat) (h : Hp) : FS k h h := fun _ _ _ _ => rfl
theorem FS.trans {k k2 : Nat} {a b c : Hp} (h1 : FS k a b) (h2 : FS k2 b c) (hk : k ≤ k2) : FS k a c := fun i i0 ik i1 => (h2 i i0 (by omega) i1).trans (h1 i i0 ik i1)
theorem SP.fs {h h' : Hp} {k k' : Nat} {x x' : Nat → Int32} {pe pe' hz n c : Nat} {T : Nat → Nat → Int32} {V pm pm' : Nat → Int32} (hS : SP h k x pe hz n T c V pm) (hF : FS k h h') (h1 : h' 1 = .inr (5, bf x' 49 pe' hz)) (hx : x' 3 = x 3 ∧ x' 6 = x 6) (hP : PP h' k' pe' n c pm') (hp : k ≤ k' ∧ pe' < k' ∧ 79 + n ≤ pe' ∧ (pe' < c ∨ c + 24 ≤ pe')) : SP h' k' x' pe' hz n T c V pm' := by
  obtain ⟨hB, hW, -, ⟨r, hr, hr2⟩, h6, hi⟩ := hS
  have hn := hB.2.1.2
  refine ⟨⟨h1, ⟨hx.1.trans hB.2.1.1, hn⟩, (hF 48 (by omega) (by omega) (by omega)).trans hB.2.2.1, fun l hl => (hF (79 + l) (by omega) (by omega) (by omega)).trans (hB.2.2.2 l hl)⟩, ⟨(hF 49 (by omega) (by omega) (by omega)).trans hW.1, fun w hw => ?_⟩, hP, ⟨r, (hF 51 (by omega) (by omega) (by omega)).trans hr, hr2⟩, hx.2.trans h6, by omega⟩
  obtain ⟨r2, e1, e2⟩ := hW.2 w hw
  exact ⟨r2, (hF (c + w) (by omega) (by omega) (by omega)).trans e1, e2⟩
theorem wth_lo {f : Nat → Option Nat} {p np y i : Nat} (h : i < p) : wth f p np y i = f i := by simp [wth, h]
theorem wth_p {f : Nat → Option Nat} {p np y : Nat} : wth f p np y p = some y := by simp [wth]
theorem wth_hi {f : Nat → Option Nat} {p np y i : Nat} (h : p < i) (h2 : i < np + 1) : wth f p np y i = f (i - 1) := by
  rw [wth, if_neg (by omega), if_neg (by omega), if_pos h2]
theorem PP.pend {h h' : Hp} {k n c l np p : Nat} {f : Nat → Option Nat} {pm : Nat → Int32} {v : Int32} {r : Nat → Int32} (hl : l < n) (hv : ¬ v = -1) (hpm : pm l = -1) (hck : c + 24 ≤ k)
    (hnp : np = cntB (fun l => decide (¬ pm l = -1)) n) (hin : ∀ i, i < np → ∃ (y : Nat) (r : Nat → Int32) (l : Nat), f i = some y ∧ (c + 24 ≤ y ∧ y < k) ∧ h y = irow 3 r ∧ l < n ∧ r 1 = nI l ∧ r 2 = pm l ∧ ¬ pm l = -1) (hcv : ∀ l, l < n → ¬ pm l = -1 → ∃ (i y : Nat) (r : Nat → Int32), i < np ∧ f i = some y ∧ h y = irow 3 r ∧ r 1 = nI l)
    (hp : p ≤ np) (hF : FS k h h') (h1 : h' k = irow 3 r) (h2 : h' (k + 1) = qrow (np + 1) (wth f p np k)) (r1 : r 1 = nI l) (r2 : r 2 = v) : PP h' (k + 2) (k + 1) n c (upd pm l v) := by
  refine ⟨np + 1, wth f p np k, h2, by rw [cntB_set hpm hv, if_pos hl, hnp], fun i hi => ?_, fun j hj hpj => ?_⟩
  · have old : ∀ i', i' < np → wth f p np k i = f i' → ∃ (y : Nat) (r : Nat → Int32) (l0 : Nat), wth f p np k i = some y ∧ (c + 24 ≤ y ∧ y < k + 2) ∧ h' y = irow 3 r ∧ l0 < n ∧ r 1 = nI l0 ∧ r 2 = upd pm l v l0 ∧ ¬ upd pm l v l0 = -1 := fun i' hi' e => by
      obtain ⟨y, r, l0, g1, g2, g3, g4, g5, g6, g7⟩ := hin i' hi'
      have hne : ¬ l0 = l := fun q => g7 (by rw [q]; exact hpm)
      exact ⟨y, r, l0, e.trans g1, by omega, (hF y (by omega) (by omega) (by omega)).trans g3, g4, g5, by rw [upd_ne hne]; exact g6, by rw [upd_ne hne]; exact g7⟩
    by_cases q1 : i < p
    · exact old i (by omega) (wth_lo q1)
    · by_cases q2 : i = p
      · subst q2
        exact ⟨k, r, l, wth_p, by omega, h1, hl, r1, by rw [upd_same]; exact r2, by rw [upd_same]; exact hv⟩
      · exact old (i - 1) (by omega) (wth_hi (by omega) hi)
  · by_cases q : j = l
    · subst q
      exact ⟨p, k, r, by omega, wth_p, h1, r1⟩
    · rw [upd_ne q] at hpj
      obtain ⟨i, y, r3, g1, g2, g3, g4⟩ := hcv j hj hpj
      obtain ⟨y2, r5, l5, e1, e2, e3, -⟩ := hin i g1
      cases g2.symm.trans e1
      have g3' := (hF y (by omega) (by omega) (by omega)).trans g3
      by_cases q1 : i < p
      · exact ⟨i, y, r3, by omega, (wth_lo q1).trans g2, g3', g4⟩
      · exact ⟨i + 1, y, r3, by omega, (wth_hi (by omega) (by omega)).trans g2, g3', g4⟩
/-- what a line has pending, by the values -/
def pmf (T : Nat → Nat → Int32) (V : Nat → Int32) (l : Nat) : Int32 := if T l 0 < 0 then -1 else if wkb T V l = 2 then -1 else wkb T V l
abbrev mX5_ask : Mt := (yX5_ask, cX5_ask, 7, none, [])
set_option maxRecDepth 20000 in
theorem ok_X5_ask : aw_mok mX5_ask 3 := ⟨rfl, tw_832, tw_1, ⟨by decide, by decide⟩, by decide +kernel, by decide⟩
set_option maxRecDepth 100000 in
set_option maxHeartbeats 4000000 in
theorem c_B_pend {h : Hp} {x : Nat → Int32} {pe hz n c : Nat} {T : Nat → Nat → Int32} {V pm : Nat → Int32} {d k : Nat} {l : Nat} {v : Int32} (hd : 2 ≤ d) (hS : SP h k x pe hz n T c V pm) (hl : l < n) (hv : ¬ v = -1) (hpm : pm l = -1) : AM mX5_pend d [.ref 1, .int (nI l), .int v] h k 2 34 (fun oc h' k' => oc = .inl none ∧ k + 2 = k' ∧ FS k h h' ∧ SP h' (k + 2) x (k + 1) hz n T c V (upd pm l v)) := by
  refine AM.intro (n := 2) (by decide) rfl rfl rfl ?_
  have hB := hS.1
  have hn := hB.2.1.2
  obtain ⟨g1, g2, g3, g4, g5⟩ := hS.2.2.2.2.2
  have hS0 := hS
  obtain ⟨-, -, ⟨np, f, hpe, hnp, hin, hcv⟩, -⟩ := hS
  have hnp24 : np ≤ n := by rw [hnp]; exact cntB_le _ n
  have hB1 := hB.up (q := k) (c := irow 3 (upd (upd (upd (fun _ => 0) 0 ((x 6) + (T l 5))) 1 (nI l)) 2 v)) (by omega) (by omega) (fun l hl => by omega)
  have k63 : ∀ p, p ≤ np → AW aw_Z0 mX5_pend d k 2 34 (fun oc h' k' => oc = .inl none ∧ k + 2 = k' ∧ FS k h h' ∧ SP h' (k + 2) x (k + 1) hz n T c V (upd pm l v))  63 [.ref 1, .int (nI l), .int v, .ref k, .int (nI p)] [] (va_up h k (irow 3 (upd (upd (upd (fun _ => 0) 0 ((x 6) + (T l 5))) 1 (nI l)) 2 v))) (k + 1) 1 3 := by
    intro p hp
    refine AW.aload_n (pc := 63) dX5_pend_63 rfl rfl ?_
    refine AW.aload_n (pc := 64) dX5_pend_64 rfl rfl ?_
    refine AW.get (pc := 65) (i := 1) (ci := 5) (f := 11) (N := 14) (C := RX5) (T := TX5) dX5_pend_65 tw_662 rfl (by decide) rfl (by decide) (hB1.1) rfl ?_
    refine AW.iload (pc := 68) dX5_pend_68 rfl ?_
    refine AW.aload_n (pc := 70) dX5_pend_70 rfl rfl ?_
    refine AW.callS (pc := 71) (S' := [.ref 1]) dX5_pend_71 (c_B_with (d := d - 1) (k := k + 1) (f := f) (np := np) (p := p) (y := k) (ry := (upd (upd (upd (fun _ => 0) 0 ((x 6) + (T l 5))) 1 (nI l)) 2 v)) (by omega) ((up_ne (by omega)).trans hpe) hp (by omega) (by omega) up_same (fun i hi z hz => by obtain ⟨y, u, j, e1, e2, e3, -⟩ := hin i hi; cases hz.symm.trans e1; exact ⟨by omega, by omega, u, (up_ne (by omega)).trans e3⟩)) ok_X5_with tw_857 tw_856 rfl (by omega) rfl (Nat.le_of_ble_eq_true rfl) (by omega) (by omega) ?_ (fun E h' k' hq => by obtain ⟨hx9, -⟩ := hq; try cases hx9)
    intro v h' k' hq
    obtain ⟨hx9, rfl, rfl⟩ := hq
    cases hx9
    show AW _ _ _ _ _ _ _ 74 [.ref 1, .int (nI l), .int v, .ref k, .int (nI p)] [.ref (k + 1), .ref 1] (va_up (va_up h k (irow 3 (upd (upd (upd (fun _ => 0) 0 ((x 6) + (T l 5))) 1 (nI l)) 2 v))) (k + 1) (qrow (np + 1) (wth f p np k))) (k + 1 + 1) (1 + 1) (3 + 31)
    have hB3 := hB1.up (q := k + 1) (c := qrow (np + 1) (wth f p np k)) (by omega) (by omega) (fun l hl => by omega)
    refine AW.put (pc := 74) (i := 1) (ci := 5) (f := 11) (N := 14) (C := RX5) (T := TX5) (fs' := bf x 49 (k + 1) hz) dX5_pend_74 tw_662 rfl (by decide) rfl (by decide) (hB3.1) (Nat.le_of_ble_eq_true rfl) rfl (fun _ => ⟨rfl, rfl⟩) rfl ?_
    show AW _ _ _ _ _ _ _ 77 [.ref 1, .int (nI l), .int v, .ref k, .int (nI p)] [] (va_up (va_up (va_up h k (irow 3 (upd (upd (upd (fun _ => 0) 0 ((x 6) + (T l 5))) 1 (nI l)) 2 v))) (k + 1) (qrow (np + 1) (wth f p np k))) 1 (.inr (5, bf x 49 (k + 1) hz))) (k + 1 + 1) (1 + 1) (3 + 31)
    have hF : FS k h (va_up (va_up (va_up h k (irow 3 (upd (upd (upd (fun _ => 0) 0 ((x 6) + (T l 5))) 1 (nI l)) 2 v))) (k + 1) (qrow (np + 1) (wth f p np k))) 1 (.inr (5, bf x 49 (k + 1) hz))) := fun i i0 ik i1 => by rw [up_ne i1, up_ne (by omega), up_ne (by omega)]
    exact AW.vret (pc := 77) dX5_pend_77 rfl (by omega) (by omega) (⟨rfl, rfl, hF, hS0.fs hF up_same ⟨rfl, rfl⟩ (PP.pend hl hv hpm g2 hnp hin hcv hp hF (by rw [up_ne (by omega), up_ne (by omega), up_same]) (by rw [up_ne (by omega), up_same]) rfl rfl) (by omega)⟩)
  have k35 : ∀ p, p ≤ np → AW aw_Z0 mX5_pend d k 2 34 (fun oc h' k' => oc = .inl none ∧ k + 2 = k' ∧ FS k h h' ∧ SP h' (k + 2) x (k + 1) hz n T c V (upd pm l v))  35 [.ref 1, .int (nI l), .int v, .ref k, .int (nI p)] [] (va_up h k (irow 3 (upd (upd (upd (fun _ => 0) 0 ((x 6) + (T l 5))) 1 (nI l)) 2 v))) (k + 1) 1 3 := by
    intro p
    induction p with
    | zero =>
      intro hp
      refine AW.iload (pc := 35) dX5_pend_35 rfl ?_
      refine AW.if_le (pc := 37) (tgt := 63) dX5_pend_37 (by decide) (fun _ => ?_) (fun c => absurd (by decide) c)
      exact k63 0 (by omega)
    | succ p ih =>
      intro hp
      refine AW.iload (pc := 35) dX5_pend_35 rfl ?_
      refine AW.if_le (pc := 37) (tgt := 63) dX5_pend_37 (by decide) (fun c => absurd c (nI_nle (by omega) (by omega))) (fun _ => ?_)
      refine AW.aload_n (pc := 40) dX5_pend_40 rfl rfl ?_
      refine AW.get (pc := 41) (i := 1) (ci := 5) (f := 11) (N := 14) (C := RX5) (T := TX5) dX5_pend_41 tw_662 rfl (by decide) rfl (by decide) (hB1.1) rfl ?_
      refine AW.iload (pc := 44) dX5_pend_44 rfl ?_
      refine AW.iconst (v := 1) (pc := 46) dX5_pend_46 (by decide) ?_
      refine AW.isub (pc := 47) dX5_pend_47 ?_
      rw [nI_p1]
      obtain ⟨b, u, j, e1, e2, e3, -⟩ := hin p (by omega)
      refine AW.aald (pc := 48) (n := np) (f := f) (j := b) dX5_pend_48 (by omega) ((up_ne (by omega)).trans hpe) (vp_in_nI (by omega) (by omega)) (by rw [nI_clamp (by omega)]; exact e1) ?_
      refine AW.iconst (v := 0) (pc := 49) dX5_pend_49 (by decide) ?_
      refine AW.iald2 (pc := 50) (n := 3) (g := u) (j := 0) dX5_pend_50 (by omega) ((up_ne (by omega)).trans e3) (vp_lit (by decide)) (by decide) ?_
      refine AW.aload_n (pc := 51) dX5_pend_51 rfl rfl ?_
      refine AW.iconst (v := 0) (pc := 52) dX5_pend_52 (by decide) ?_
      refine AW.iald2 (pc := 53) (n := 3) (g := (upd (upd (upd (fun _ => 0) 0 ((x 6) + (T l 5))) 1 (nI l)) 2 v)) (j := 0) dX5_pend_53 (by omega) (up_same) (vp_lit (by decide)) (by decide) ?_
      refine AW.icmp_le (pc := 54) (tgt := 63) dX5_pend_54 (by decide) (fun c => ?_) (fun c => ?_)
      · exact k63 (p + 1) hp
      · refine AW.iinc (v := ((nI (p + 1)) + (-1))) (L' := [.ref 1, .int (nI l), .int v, .ref k, .int ((nI (p + 1)) + (-1))]) (pc := 57) dX5_pend_57 rfl rfl (by decide) rfl rfl ?_
        refine AW.goto (pc := 60) (tgt := 35) dX5_pend_60 (by decide) ?_
        rw [i_m1, nI_p1]
        exact ih (by omega)
  refine AW.iconst (v := 3) (pc := 0) dX5_pend_0 (by decide) ?_
  refine AW.newa (ty := .int) (N := 3) (a0 := (3, .inl (fun _ => 0))) (pc := 1) dX5_pend_1 rfl (Or.inl rfl) tw_501 (fun _ => rfl) (by decide) (by decide) (by decide) (by omega) (by omega) ?_
  show AW _ _ _ _ _ _ _ 3 [.ref 1, .int (nI l), .int v, .null, .null] [.ref k] (va_up h k (.inl (.int, 3, .inl (fun _ => 0)))) (k + 1) (0 + 1) (0 + 3)
  have hB0 := hB.up (q := k) (c := irow 3 (fun _ => 0)) (by omega) (by omega) (fun l hl => by omega)
  refine AW.dup (pc := 3) dX5_pend_3 rfl ?_
  refine AW.iconst (v := 0) (pc := 4) dX5_pend_4 (by decide) ?_
  refine AW.aload_n (pc := 5) dX5_pend_5 rfl rfl ?_
  refine AW.get (pc := 6) (i := 1) (ci := 5) (f := 6) (N := 14) (C := RX5) (T := TX5) dX5_pend_6 tw_657 rfl (by decide) rfl (by decide) (hB0.1) rfl ?_
  refine AW.aload_n (pc := 9) dX5_pend_9 rfl rfl ?_
  refine AW.get (pc := 10) (i := 1) (ci := 5) (f := 4) (N := 14) (C := RX5) (T := TX5) dX5_pend_10 tw_654 rfl (by decide) rfl (by decide) (hB0.1) rfl ?_
  refine AW.iload_n (pc := 13) dX5_pend_13 rfl rfl ?_
  refine AW.aald (pc := 14) (n := 30) (f := lnf n) (j := 79 + l) dX5_pend_14 (by decide) (hB0.2.2.1) (vp_in_nI (by omega) (by decide)) (lnf_at hl (by omega) rfl) ?_
  refine AW.iconst (v := 5) (pc := 15) dX5_pend_15 (by decide) ?_
  refine AW.iald2 (pc := 16) (n := 8) (g := T l) (j := 5) dX5_pend_16 (by omega) (hB0.2.2.2 l hl) (vp_lit (by decide)) (by decide) ?_
  refine AW.iadd (pc := 17) dX5_pend_17 ?_
  refine AW.iast2 (pc := 18) (n := 3) (g := (fun _ => 0)) (j := 0) dX5_pend_18 (by omega) (up_same) (vp_lit (by decide)) (by decide) ?_
  rw [up_up]
  refine AW.dup (pc := 19) dX5_pend_19 rfl ?_
  refine AW.iconst (v := 1) (pc := 20) dX5_pend_20 (by decide) ?_
  refine AW.iload_n (pc := 21) dX5_pend_21 rfl rfl ?_
  refine AW.iast2 (pc := 22) (n := 3) (g := (upd (fun _ => 0) 0 ((x 6) + (T l 5)))) (j := 1) dX5_pend_22 (by omega) (up_same) (vp_lit (by decide)) (by decide) ?_
  rw [up_up]
  refine AW.dup (pc := 23) dX5_pend_23 rfl ?_
  refine AW.iconst (v := 2) (pc := 24) dX5_pend_24 (by decide) ?_
  refine AW.iload_n (pc := 25) dX5_pend_25 rfl rfl ?_
  refine AW.iast2 (pc := 26) (n := 3) (g := (upd (upd (fun _ => 0) 0 ((x 6) + (T l 5))) 1 (nI l))) (j := 2) dX5_pend_26 (by omega) (up_same) (vp_lit (by decide)) (by decide) ?_
  rw [up_up]
  refine AW.astore_n (L' := [.ref 1, .int (nI l), .int v, .ref k, .null]) (pc := 27) dX5_pend_27 rfl (by decide) rfl rfl ?_
  refine AW.aload_n (pc := 28) dX5_pend_28 rfl rfl ?_
  refine AW.get (pc := 29) (i := 1) (ci := 5) (f := 11) (N := 14) (C := RX5) (T := TX5) dX5_pend_29 tw_662 rfl (by decide) rfl (by decide) (hB1.1) rfl ?_
  refine AW.alenq (pc := 32) (n := np) (f := f) dX5_pend_32 (by omega) ((up_ne (by omega)).trans hpe) ?_
  show AW _ _ _ _ _ _ _ 33 [.ref 1, .int (nI l), .int v, .ref k, .null] [.int (nI np)] (va_up h k (irow 3 (upd (upd (upd (fun _ => 0) 0 ((x 6) + (T l 5))) 1 (nI l)) 2 v))) (k + 1) (0 + 1) (0 + 3)
  refine AW.istore (L' := [.ref 1, .int (nI l), .int v, .ref k, .int (nI np)]) (pc := 33) dX5_pend_33 (by decide) rfl rfl ?_
  exact k35 np (Nat.le_refl _)
set_option maxRecDepth 100000 in
set_option maxHeartbeats 4000000 in
theorem c_B_ask {h : Hp} {x : Nat → Int32} {pe hz n c : Nat} {T : Nat → Nat → Int32} {V pm : Nat → Int32} {d k : Nat} {l w : Nat} (hd : 4 ≤ d) (hT : gT T n) (hS : SP h k x pe hz n T c V pm) (hl : l < n) (hw : w < 24) (hVw : V w = 0) (hVV : ∀ w, w < 24 → isV (V w)) (hV2 : ¬ T l 0 < 0 → V l = 2) (hpm0 : T l 0 < 0 → pm l = -1) (hmono : ¬ T l 0 < 0 → pm l = -1 ∨ (pm l = wkb T V l ∧ ¬ wkb T V l = 2)) : AM mX5_ask d [.ref 1, .int (nI l), .int (nI w), .int 2] h k 2 34 (fun oc h' k' => oc = .inl none ∧ k ≤ k' ∧ FS k h h' ∧ ∃ (pe' : Nat) (pm' : Nat → Int32), SP h' k' x pe' hz n T c V pm' ∧ (∀ j, j ≠ l → pm' j = pm j) ∧ pm' l = pmf T V l) := by
  refine AM.intro (n := 3) (by decide) rfl rfl rfl ?_
  have hB := hS.1
  have hW := hS.2.1
  have hn := hB.2.1.2
  obtain ⟨g1, g2, g3, g4, g5⟩ := hS.2.2.2.2.2
  obtain ⟨r51, h51, hr51⟩ := hS.2.2.2.1
  obtain ⟨e1, e6, e7, hkind⟩ := hT.2 l hl
  have hVl : ¬ T l 0 < 0 → V l = 2 := hV2
  refine AW.aload_n (pc := 0) dX5_ask_0 rfl rfl ?_
  refine AW.get (pc := 1) (i := 1) (ci := 5) (f := 4) (N := 14) (C := RX5) (T := TX5) dX5_ask_1 tw_654 rfl (by decide) rfl (by decide) (hB.1) rfl ?_
  refine AW.iload_n (pc := 4) dX5_ask_4 rfl rfl ?_
  refine AW.aald (pc := 5) (n := 30) (f := lnf n) (j := 79 + l) dX5_ask_5 (by decide) (hB.2.2.1) (vp_in_nI (by omega) (by decide)) (lnf_at hl (by omega) rfl) ?_
  refine AW.astore (L' := [.ref 1, .int (nI l), .int (nI w), .int 2, .ref (79 + l), .null, .null]) (pc := 6) dX5_ask_6 (by decide) rfl rfl ?_
  refine AW.aload_n (pc := 8) dX5_ask_8 rfl rfl ?_
  refine AW.iload_n (pc := 9) dX5_ask_9 rfl rfl ?_
  refine AW.callV (pc := 10) (S' := []) dX5_ask_10 (c_B_isGate (d := d - 1) hB hl) ok_X5_isGate tw_773 tw_774 tw_811 (by decide) (hB.1) (show aw_cl[5]? = some _ from rfl) rfl rfl (by omega) rfl (Nat.le_of_ble_eq_true rfl) (by omega) (by omega) ?_ (fun E h' k' hq => by obtain ⟨hx9, -⟩ := hq; try cases hx9)
  intro v h' k' hq
  obtain ⟨hx9, rfl, rfl⟩ := hq
  cases hx9
  show AW _ _ _ _ _ _ _ 13 [.ref 1, .int (nI l), .int (nI w), .int 2, .ref (79 + l), .null, .null] [.int (if T l 0 < 0 then 0 else 1)] h k 0 0
  by_cases hg0 : T l 0 < 0
  · rw [if_pos hg0]
    refine AW.if_eq (pc := 13) (tgt := 79) dX5_ask_13 (by decide) (fun _ => ?_) (fun c => absurd (rfl) c)
    refine AW.aload (pc := 79) dX5_ask_79 rfl ?_
    refine AW.iconst (v := 4) (pc := 81) dX5_ask_81 (by decide) ?_
    refine AW.iald2 (pc := 82) (n := 8) (g := T l) (j := 4) dX5_ask_82 (by omega) (hB.2.2.2 l hl) (vp_lit (by decide)) (by decide) ?_
    refine AW.iload_n (pc := 83) dX5_ask_83 rfl rfl ?_
    refine AW.icmp_ne (pc := 84) (tgt := 107) dX5_ask_84 (by decide) (fun c1 => ?_) (fun c1 => ?_)
    · refine AW.aload (pc := 107) dX5_ask_107 rfl ?_
      refine AW.iconst (v := 3) (pc := 109) dX5_ask_109 (by decide) ?_
      refine AW.iald2 (pc := 110) (n := 8) (g := T l) (j := 3) dX5_ask_110 (by omega) (hB.2.2.2 l hl) (vp_lit (by decide)) (by decide) ?_
      refine AW.iload_n (pc := 111) dX5_ask_111 rfl rfl ?_
      refine AW.icmp_ne (pc := 112) (tgt := 242) dX5_ask_112 (by decide) (fun c2 => ?_) (fun c2 => ?_)
      · refine AW.aload (pc := 242) dX5_ask_242 rfl ?_
        refine AW.iconst (v := 2) (pc := 244) dX5_ask_244 (by decide) ?_
        refine AW.iald2 (pc := 245) (n := 8) (g := T l) (j := 2) dX5_ask_245 (by omega) (hB.2.2.2 l hl) (vp_lit (by decide)) (by decide) ?_
        refine AW.iload_n (pc := 246) dX5_ask_246 rfl rfl ?_
        refine AW.icmp_ne (pc := 247) (tgt := 289) dX5_ask_247 (by decide) (fun c3 => ?_) (fun c3 => ?_)
        · exact AW.vret (pc := 289) dX5_ask_289 rfl (by omega) (by omega) (⟨rfl, Nat.le_refl k, FS.refl k h, pe, pm, hS, fun _ _ => rfl, by rw [hpm0 hg0, pmf, if_pos hg0]⟩)
        · refine AW.aload_n (pc := 250) dX5_ask_250 rfl rfl ?_
          refine AW.get (pc := 251) (i := 1) (ci := 5) (f := 6) (N := 14) (C := RX5) (T := TX5) dX5_ask_251 tw_657 rfl (by decide) rfl (by decide) (hB.1) rfl ?_
          refine AW.aload_n (pc := 254) dX5_ask_254 rfl rfl ?_
          refine AW.get (pc := 255) (i := 1) (ci := 5) (f := 12) (N := 14) (C := RX5) (T := TX5) dX5_ask_255 tw_663 rfl (by decide) rfl (by decide) (hB.1) rfl ?_
          refine AW.iload_n (pc := 258) dX5_ask_258 rfl rfl ?_
          refine AW.iald2 (pc := 259) (n := 30) (g := r51) (j := l) dX5_ask_259 (by decide) (h51) (vp_in_nI (by omega) (by decide)) (nI_clamp (by omega)) ?_
          rw [hr51 l (by omega), hS.2.2.2.2.1]
          refine AW.isub (pc := 260) dX5_ask_260 ?_
          refine AW.aload (pc := 261) dX5_ask_261 rfl ?_
          refine AW.bipush (v := 7) (pc := 263) dX5_ask_263 (by decide) ?_
          refine AW.iald2 (pc := 265) (n := 8) (g := T l) (j := 7) dX5_ask_265 (by omega) (hB.2.2.2 l hl) (vp_lit (by decide)) (by decide) ?_
          rw [e7]
          refine AW.icmp_ge (pc := 266) (tgt := 289) dX5_ask_266 (by decide) (fun _ => ?_) (fun c => absurd (by decide) c)
          exact AW.vret (pc := 289) dX5_ask_289 rfl (by omega) (by omega) (⟨rfl, Nat.le_refl k, FS.refl k h, pe, pm, hS, fun _ _ => rfl, by rw [hpm0 hg0, pmf, if_pos hg0]⟩)
      · refine AW.iload_n (pc := 115) dX5_ask_115 rfl rfl ?_
        refine AW.if_ne (pc := 116) (tgt := 242) dX5_ask_116 (by decide) (fun _ => ?_) (fun c => absurd c (by decide))
        refine AW.aload (pc := 242) dX5_ask_242 rfl ?_
        refine AW.iconst (v := 2) (pc := 244) dX5_ask_244 (by decide) ?_
        refine AW.iald2 (pc := 245) (n := 8) (g := T l) (j := 2) dX5_ask_245 (by omega) (hB.2.2.2 l hl) (vp_lit (by decide)) (by decide) ?_
        refine AW.iload_n (pc := 246) dX5_ask_246 rfl rfl ?_
        refine AW.icmp_ne (pc := 247) (tgt := 289) dX5_ask_247 (by decide) (fun c3 => ?_) (fun c3 => ?_)
        · exact AW.vret (pc := 289) dX5_ask_289 rfl (by omega) (by omega) (⟨rfl, Nat.le_refl k, FS.refl k h, pe, pm, hS, fun _ _ => rfl, by rw [hpm0 hg0, pmf, if_pos hg0]⟩)
        · refine AW.aload_n (pc := 250) dX5_ask_250 rfl rfl ?_
          refine AW.get (pc := 251) (i := 1) (ci := 5) (f := 6) (N := 14) (C := RX5) (T := TX5) dX5_ask_251 tw_657 rfl (by decide) rfl (by decide) (hB.1) rfl ?_
          refine AW.aload_n (pc := 254) dX5_ask_254 rfl rfl ?_
          refine AW.get (pc := 255) (i := 1) (ci := 5) (f := 12) (N := 14) (C := RX5) (T := TX5) dX5_ask_255 tw_663 rfl (by decide) rfl (by decide) (hB.1) rfl ?_
          refine AW.iload_n (pc := 258) dX5_ask_258 rfl rfl ?_
          refine AW.iald2 (pc := 259) (n := 30) (g := r51) (j := l) dX5_ask_259 (by decide) (h51) (vp_in_nI (by omega) (by decide)) (nI_clamp (by omega)) ?_
          rw [hr51 l (by omega), hS.2.2.2.2.1]
          refine AW.isub (pc := 260) dX5_ask_260 ?_
          refine AW.aload (pc := 261) dX5_ask_261 rfl ?_
          refine AW.bipush (v := 7) (pc := 263) dX5_ask_263 (by decide) ?_
          refine AW.iald2 (pc := 265) (n := 8) (g := T l) (j := 7) dX5_ask_265 (by omega) (hB.2.2.2 l hl) (vp_lit (by decide)) (by decide) ?_
          rw [e7]
          refine AW.icmp_ge (pc := 266) (tgt := 289) dX5_ask_266 (by decide) (fun _ => ?_) (fun c => absurd (by decide) c)
          exact AW.vret (pc := 289) dX5_ask_289 rfl (by omega) (by omega) (⟨rfl, Nat.le_refl k, FS.refl k h, pe, pm, hS, fun _ _ => rfl, by rw [hpm0 hg0, pmf, if_pos hg0]⟩)
    · refine AW.aload_n (pc := 87) dX5_ask_87 rfl rfl ?_
      refine AW.iload_n (pc := 88) dX5_ask_88 rfl rfl ?_
      refine AW.callV (pc := 89) (S' := []) dX5_ask_89 (c_B_value (d := d - 1) hB hW (by omega) (by omega)) ok_X5_value tw_838 tw_839 tw_837 (by decide) (hB.1) (show aw_cl[5]? = some _ from rfl) rfl rfl (by omega) rfl (Nat.le_of_ble_eq_true rfl) (by omega) (by omega) ?_ (fun E h' k' hq => by obtain ⟨hx9, -⟩ := hq; try cases hx9)
      intro v h' k' hq
      obtain ⟨hx9, rfl, rfl⟩ := hq
      cases hx9
      show AW _ _ _ _ _ _ _ 92 [.ref 1, .int (nI l), .int (nI w), .int 2, .ref (79 + l), .null, .null] [.int (V w)] h k 0 0
      rw [hVw]
      refine AW.iconst (v := 1) (pc := 92) dX5_ask_92 (by decide) ?_
      refine AW.icmp_ne (pc := 93) (tgt := 107) dX5_ask_93 (by decide) (fun _ => ?_) (fun c => absurd c (by decide))
      refine AW.aload (pc := 107) dX5_ask_107 rfl ?_
      refine AW.iconst (v := 3) (pc := 109) dX5_ask_109 (by decide) ?_
      refine AW.iald2 (pc := 110) (n := 8) (g := T l) (j := 3) dX5_ask_110 (by omega) (hB.2.2.2 l hl) (vp_lit (by decide)) (by decide) ?_
      refine AW.iload_n (pc := 111) dX5_ask_111 rfl rfl ?_
      refine AW.icmp_ne (pc := 112) (tgt := 242) dX5_ask_112 (by decide) (fun c2 => ?_) (fun c2 => ?_)
      · refine AW.aload (pc := 242) dX5_ask_242 rfl ?_
        refine AW.iconst (v := 2) (pc := 244) dX5_ask_244 (by decide) ?_
        refine AW.iald2 (pc := 245) (n := 8) (g := T l) (j := 2) dX5_ask_245 (by omega) (hB.2.2.2 l hl) (vp_lit (by decide)) (by decide) ?_
        refine AW.iload_n (pc := 246) dX5_ask_246 rfl rfl ?_
        refine AW.icmp_ne (pc := 247) (tgt := 289) dX5_ask_247 (by decide) (fun c3 => ?_) (fun c3 => ?_)
        · exact AW.vret (pc := 289) dX5_ask_289 rfl (by omega) (by omega) (⟨rfl, Nat.le_refl k, FS.refl k h, pe, pm, hS, fun _ _ => rfl, by rw [hpm0 hg0, pmf, if_pos hg0]⟩)
        · refine AW.aload_n (pc := 250) dX5_ask_250 rfl rfl ?_
          refine AW.get (pc := 251) (i := 1) (ci := 5) (f := 6) (N := 14) (C := RX5) (T := TX5) dX5_ask_251 tw_657 rfl (by decide) rfl (by decide) (hB.1) rfl ?_
          refine AW.aload_n (pc := 254) dX5_ask_254 rfl rfl ?_
          refine AW.get (pc := 255) (i := 1) (ci := 5) (f := 12) (N := 14) (C := RX5) (T := TX5) dX5_ask_255 tw_663 rfl (by decide) rfl (by decide) (hB.1) rfl ?_
          refine AW.iload_n (pc := 258) dX5_ask_258 rfl rfl ?_
          refine AW.iald2 (pc := 259) (n := 30) (g := r51) (j := l) dX5_ask_259 (by decide) (h51) (vp_in_nI (by omega) (by decide)) (nI_clamp (by omega)) ?_
          rw [hr51 l (by omega), hS.2.2.2.2.1]
          refine AW.isub (pc := 260) dX5_ask_260 ?_
          refine AW.aload (pc := 261) dX5_ask_261 rfl ?_
          refine AW.bipush (v := 7) (pc := 263) dX5_ask_263 (by decide) ?_
          refine AW.iald2 (pc := 265) (n := 8) (g := T l) (j := 7) dX5_ask_265 (by omega) (hB.2.2.2 l hl) (vp_lit (by decide)) (by decide) ?_
          rw [e7]
          refine AW.icmp_ge (pc := 266) (tgt := 289) dX5_ask_266 (by decide) (fun _ => ?_) (fun c => absurd (by decide) c)
          exact AW.vret (pc := 289) dX5_ask_289 rfl (by omega) (by omega) (⟨rfl, Nat.le_refl k, FS.refl k h, pe, pm, hS, fun _ _ => rfl, by rw [hpm0 hg0, pmf, if_pos hg0]⟩)
      · refine AW.iload_n (pc := 115) dX5_ask_115 rfl rfl ?_
        refine AW.if_ne (pc := 116) (tgt := 242) dX5_ask_116 (by decide) (fun _ => ?_) (fun c => absurd c (by decide))
        refine AW.aload (pc := 242) dX5_ask_242 rfl ?_
        refine AW.iconst (v := 2) (pc := 244) dX5_ask_244 (by decide) ?_
        refine AW.iald2 (pc := 245) (n := 8) (g := T l) (j := 2) dX5_ask_245 (by omega) (hB.2.2.2 l hl) (vp_lit (by decide)) (by decide) ?_
        refine AW.iload_n (pc := 246) dX5_ask_246 rfl rfl ?_
        refine AW.icmp_ne (pc := 247) (tgt := 289) dX5_ask_247 (by decide) (fun c3 => ?_) (fun c3 => ?_)
        · exact AW.vret (pc := 289) dX5_ask_289 rfl (by omega) (by omega) (⟨rfl, Nat.le_refl k, FS.refl k h, pe, pm, hS, fun _ _ => rfl, by rw [hpm0 hg0, pmf, if_pos hg0]⟩)
        · refine AW.aload_n (pc := 250) dX5_ask_250 rfl rfl ?_
          refine AW.get (pc := 251) (i := 1) (ci := 5) (f := 6) (N := 14) (C := RX5) (T := TX5) dX5_ask_251 tw_657 rfl (by decide) rfl (by decide) (hB.1) rfl ?_
          refine AW.aload_n (pc := 254) dX5_ask_254 rfl rfl ?_
          refine AW.get (pc := 255) (i := 1) (ci := 5) (f := 12) (N := 14) (C := RX5) (T := TX5) dX5_ask_255 tw_663 rfl (by decide) rfl (by decide) (hB.1) rfl ?_
          refine AW.iload_n (pc := 258) dX5_ask_258 rfl rfl ?_
          refine AW.iald2 (pc := 259) (n := 30) (g := r51) (j := l) dX5_ask_259 (by decide) (h51) (vp_in_nI (by omega) (by decide)) (nI_clamp (by omega)) ?_
          rw [hr51 l (by omega), hS.2.2.2.2.1]
          refine AW.isub (pc := 260) dX5_ask_260 ?_
          refine AW.aload (pc := 261) dX5_ask_261 rfl ?_
          refine AW.bipush (v := 7) (pc := 263) dX5_ask_263 (by decide) ?_
          refine AW.iald2 (pc := 265) (n := 8) (g := T l) (j := 7) dX5_ask_265 (by omega) (hB.2.2.2 l hl) (vp_lit (by decide)) (by decide) ?_
          rw [e7]
          refine AW.icmp_ge (pc := 266) (tgt := 289) dX5_ask_266 (by decide) (fun _ => ?_) (fun c => absurd (by decide) c)
          exact AW.vret (pc := 289) dX5_ask_289 rfl (by omega) (by omega) (⟨rfl, Nat.le_refl k, FS.refl k h, pe, pm, hS, fun _ _ => rfl, by rw [hpm0 hg0, pmf, if_pos hg0]⟩)
  · rw [if_neg hg0]
    refine AW.if_eq (pc := 13) (tgt := 79) dX5_ask_13 (by decide) (fun c => absurd c (by decide)) (fun _ => ?_)
    have hgk : ∃ q : Nat, q < 8 ∧ T l 0 = nI q := by rcases hkind with h | ⟨-, -, -, h | ⟨q, hq, e, -⟩⟩; exact absurd (show T l 0 < 0 by rw [h.2.1]; decide) hg0; exact absurd (show T l 0 < 0 by rw [h.1]; decide) hg0; exact ⟨q, hq, e⟩
    have ha2 : ¬ T l 2 = -1 := by rcases hkind with h | ⟨-, -, ⟨a, ha, e⟩, -⟩; exact absurd (show T l 0 < 0 by rw [h.2.1]; decide) hg0; rw [e]; exact nI_m1 (by omega)
    obtain ⟨q, hq, ek⟩ := hgk
    refine AW.aload_n (pc := 16) dX5_ask_16 rfl rfl ?_
    refine AW.iload_n (pc := 17) dX5_ask_17 rfl rfl ?_
    refine AW.callV (pc := 18) (S' := []) dX5_ask_18 (c_B_reckon (pm := pm) (d := d - 1) (by omega) hT hB hW (by omega) hl hq ek ha2 hVV) ok_X5_reckon tw_835 ts_37 tw_833 (by decide) (hB.1) (show aw_cl[5]? = some _ from rfl) rfl rfl (by omega) rfl (Nat.le_of_ble_eq_true rfl) (by omega) (by omega) ?_ (fun E h' k' hq => by obtain ⟨hx9, -⟩ := hq; try cases hx9)
    intro v h' k' hq
    obtain ⟨hx9, rfl, rfl⟩ := hq
    cases hx9
    show AW _ _ _ _ _ _ _ 21 [.ref 1, .int (nI l), .int (nI w), .int 2, .ref (79 + l), .null, .null] [.int (wkb T V l)] h k 0 0
    refine AW.istore (L' := [.ref 1, .int (nI l), .int (nI w), .int 2, .ref (79 + l), .int (wkb T V l), .null]) (pc := 21) dX5_ask_21 (by decide) rfl rfl ?_
    refine AW.aload_n (pc := 23) dX5_ask_23 rfl rfl ?_
    refine AW.iload_n (pc := 24) dX5_ask_24 rfl rfl ?_
    refine AW.callV (pc := 25) (S' := []) dX5_ask_25 (c_B_pendingOf (V := V) (d := d - 1) hB hS.2.2.1 (by omega) hl) ok_X5_pendingOf tw_842 tw_843 tw_841 (by decide) (hB.1) (show aw_cl[5]? = some _ from rfl) rfl rfl (by omega) rfl (Nat.le_of_ble_eq_true rfl) (by omega) (by omega) ?_ (fun E h' k' hq => by obtain ⟨hx9, -⟩ := hq; try cases hx9)
    intro v h' k' hq
    obtain ⟨hx9, rfl, rfl⟩ := hq
    cases hx9
    show AW _ _ _ _ _ _ _ 28 [.ref 1, .int (nI l), .int (nI w), .int 2, .ref (79 + l), .int (wkb T V l), .null] [.int (pm l)] h k 0 0
    refine AW.istore (L' := [.ref 1, .int (nI l), .int (nI w), .int 2, .ref (79 + l), .int (wkb T V l), .int (pm l)]) (pc := 28) dX5_ask_28 (by decide) rfl rfl ?_
    refine AW.iload (pc := 30) dX5_ask_30 rfl ?_
    refine AW.iload (pc := 32) dX5_ask_32 rfl ?_
    have hVc : ∀ z, z = T l 2 ∨ z = T l 3 ∨ z = T l 4 → isV (V (cl z)) := fun z hz => by have hp : z = -1 ∨ ∃ a : Nat, a < l ∧ z = nI a := (by rcases hz with rfl | rfl | rfl; exact hT.pin hl (Or.inl rfl); exact hT.pin hl (Or.inr (Or.inl rfl)); exact hT.pin hl (Or.inr (Or.inr rfl))); rcases hp with hp | ⟨a, ha, hp⟩; (rw [hp]; exact hVV 0 (by decide)); (rw [hp, cl_nI (by omega)]; exact hVV a (by omega))
    have hwm : ¬ wkb T V l = -1 := fun e => by have hwv : isV (wkb T V l) := (by unfold wkb; exact isV_work (hVc _ (Or.inl rfl)) (by split; exact isV2; exact hVc _ (Or.inr (Or.inl rfl))) (by split; exact isV2; exact hVc _ (Or.inr (Or.inr rfl)))); rcases hwv with q | q | q <;> (rw [q] at e; revert e; decide)
    refine AW.icmp_ne (pc := 34) (tgt := 38) dX5_ask_34 (by decide) (fun c => ?_) (fun c => ?_)
    · have hp1 : pm l = -1 := (hmono hg0).resolve_right (fun q => c q.1)
      refine AW.iload (pc := 38) dX5_ask_38 rfl ?_
      refine AW.if_lt (pc := 40) (tgt := 58) dX5_ask_40 (by decide) (fun _ => ?_) (fun c => absurd (by rw [hp1]; decide) c)
      refine AW.iload (pc := 58) dX5_ask_58 rfl ?_
      refine AW.aload_n (pc := 60) dX5_ask_60 rfl rfl ?_
      refine AW.aload (pc := 61) dX5_ask_61 rfl ?_
      refine AW.iconst (v := 1) (pc := 63) dX5_ask_63 (by decide) ?_
      refine AW.iald2 (pc := 64) (n := 8) (g := T l) (j := 1) dX5_ask_64 (by omega) (hB.2.2.2 l hl) (vp_lit (by decide)) (by decide) ?_
      rw [e1]
      refine AW.callV (pc := 65) (S' := [.int (wkb T V l)]) dX5_ask_65 (c_B_value (d := d - 1) hB hW (by omega) (by omega)) ok_X5_value tw_838 tw_839 tw_837 (by decide) (hB.1) (show aw_cl[5]? = some _ from rfl) rfl rfl (by omega) rfl (Nat.le_of_ble_eq_true rfl) (by omega) (by omega) ?_ (fun E h' k' hq => by obtain ⟨hx9, -⟩ := hq; try cases hx9)
      intro v h' k' hq
      obtain ⟨hx9, rfl, rfl⟩ := hq
      cases hx9
      show AW _ _ _ _ _ _ _ 68 [.ref 1, .int (nI l), .int (nI w), .int 2, .ref (79 + l), .int (wkb T V l), .int (pm l)] [.int (V l), .int (wkb T V l)] h k 0 0
      rw [hVl hg0]
      have hwv : isV (wkb T V l) := by unfold wkb; exact isV_work (hVc _ (Or.inl rfl)) (by split; exact isV2; exact hVc _ (Or.inr (Or.inl rfl))) (by split; exact isV2; exact hVc _ (Or.inr (Or.inr rfl)))
      refine AW.icmp_eq (pc := 68) (tgt := 78) dX5_ask_68 (by decide) (fun c4 => ?_) (fun c4 => ?_)
      · exact AW.vret (pc := 78) dX5_ask_78 rfl (by omega) (by omega) (⟨rfl, Nat.le_refl k, FS.refl k h, pe, pm, hS, fun _ _ => rfl, by rw [hp1, pmf, if_neg hg0, if_pos c4]⟩)
      · refine AW.aload_n (pc := 71) dX5_ask_71 rfl rfl ?_
        refine AW.iload_n (pc := 72) dX5_ask_72 rfl rfl ?_
        refine AW.iload (pc := 73) dX5_ask_73 rfl ?_
        refine AW.callV (pc := 75) (S' := []) dX5_ask_75 (c_B_pend (d := d - 1) (by omega) hS hl (fun e => by rcases hwv with q | q | q <;> (rw [q] at e; revert e; decide)) hp1) ok_X5_pend tw_854 ts_39 tw_852 (by decide) (hB.1) (show aw_cl[5]? = some _ from rfl) rfl rfl (by omega) rfl (Nat.le_of_ble_eq_true rfl) (by omega) (by omega) ?_ (fun E h' k' hq => by obtain ⟨hx9, -⟩ := hq; try cases hx9)
        intro v h' k' hq
        obtain ⟨hx9, rfl, hF, hS2⟩ := hq
        cases hx9
        show AW _ _ _ _ _ _ _ 78 [.ref 1, .int (nI l), .int (nI w), .int 2, .ref (79 + l), .int (wkb T V l), .int (pm l)] [] h' (k + 2) (0 + 2) (0 + 34)
        exact AW.vret (pc := 78) dX5_ask_78 rfl (by omega) (by omega) (⟨rfl, by omega, hF, k + 1, _, hS2, fun j hj => upd_ne hj, by rw [upd_same, pmf, if_neg hg0, if_neg c4]⟩)
    · exact AW.vret (pc := 37) dX5_ask_37 rfl (by omega) (by omega) (⟨rfl, Nat.le_refl k, FS.refl k h, pe, pm, hS, fun _ _ => rfl, by rcases hmono hg0 with q | q; (exfalso; rw [q] at c; exact hwm c.symm); rw [q.1, pmf, if_neg hg0, if_neg q.2]⟩)
