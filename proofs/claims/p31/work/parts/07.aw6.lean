/-! AW: rows of rows of ints, further instructions, calls of methods with handlers -/
abbrev qrow (n : Nat) (f : Nat → Option Nat) : Ce := .inl (.array .int, n, .inr (.inr (.inr (.inr f))))
abbrev irow (n : Nat) (g : Nat → Int32) : Ce := .inl (.int, n, .inl g)
theorem aw_q0 : Cond.arrayOver (.array .int) ∈ lw_tbl := by decide +kernel
theorem aw_asg (vm : Vm) (c : ClassId) : vm.assignable c c = true := by
  show vm.assignableAux (255 + 1) c c = true
  unfold Vm.assignableAux
  simp
theorem aw_AO.use {A : Array Value} {U : State} (h : aw_AO U) : (Cond.arrayOver (.array .int)).before A U = true := h
/-- what the tables say of the class of rows of rows -/
theorem aw_qk {A : Nat → Prop} {s : State} {D : va_G} {cT : FieldType → ClassId} (hg : aw_GF A s) (hK : va_K D aw_cl (aw_tys cT) s) : ∃ k kI : Class, s.vm.classes[cT (.array .int)]? = some k ∧ k.kind = .array (cT .int) (.array .int) ∧ s.vm.classes[cT .int]? = some kI := by
  obtain ⟨comp, c, k, h1, -, h3, h4, h5⟩ := arrayOverA_spec hg.2.2.2.2.2
  have e1 : c = cT (.array .int) := Option.some.inj (h5.symm.trans (hK.2 3 _ rfl).2)
  have e2 : comp = cT .int := Option.some.inj (h1.symm.trans (hK.2 0 _ rfl).2)
  subst e1; subst e2
  obtain ⟨kI, hI, -⟩ := Vm.findClass_spec h1
  exact ⟨k, kI, h3, h4, hI⟩
section Rows6
variable {Z : Gz} {μ : Mt} {d k0 mc ms : Nat} {Q : Po} {pc : Nat} {L S : List Value} {h : Hp} {k cs ss : Nat}
theorem AW.idiv {x y : Int32} (hd : decode μ.2.1 pc = .ok (.idiv, 1)) (hne : ¬ y = 0) (K : AW Z μ d k0 mc ms Q (pc + 1) L (.int (x / y) :: S) h k cs ss) : AW Z μ d k0 mc ms Q pc L (.int y :: .int x :: S) h k cs ss :=
  AW.pure (fun h _ => aw_ok_cons aw_okI (aw_ok_tail (aw_ok_tail h))) (fun _ _ _ _ _ _ _ _ _ _ _ _ _ _ _ hx hb _ _ _ q => lv_idiv hx hb hd hne q) K
theorem AW.irem {x y : Int32} (hd : decode μ.2.1 pc = .ok (.irem, 1)) (hne : ¬ y = 0) (K : AW Z μ d k0 mc ms Q (pc + 1) L (.int (x - x / y * y) :: S) h k cs ss) : AW Z μ d k0 mc ms Q pc L (.int y :: .int x :: S) h k cs ss :=
  AW.pure (fun h _ => aw_ok_cons aw_okI (aw_ok_tail (aw_ok_tail h))) (fun _ _ _ _ _ _ _ _ _ _ _ _ _ _ _ hx hb _ _ _ q => lv_irem hx hb hd hne q) K
theorem AW.ishr {x y : Int32} (hd : decode μ.2.1 pc = .ok (.ishr, 1)) (K : AW Z μ d k0 mc ms Q (pc + 1) L (.int (x >>> (y &&& 31)) :: S) h k cs ss) : AW Z μ d k0 mc ms Q pc L (.int y :: .int x :: S) h k cs ss :=
  AW.pure (fun h _ => aw_ok_cons aw_okI (aw_ok_tail (aw_ok_tail h))) (fun _ _ _ _ _ _ _ _ _ _ _ _ _ _ _ hx hb _ _ _ q => lv_ishr hx hb hd q) K
theorem AW.lload {i : Nat} {v : Int64} (hd : decode μ.2.1 pc = .ok (.lload i, 2)) (hl : L[i]? = some (.long v)) (K : AW Z μ d k0 mc ms Q (pc + 2) L (.long v :: S) h k cs ss) : AW Z μ d k0 mc ms Q pc L S h k cs ss :=
  AW.pure (fun h _ => aw_ok_cons aw_okJ h) (fun _ _ _ _ _ _ _ _ _ _ _ _ _ _ _ hx hb _ _ hL q => lv_lload hx hb hd (hL.2.2 _ _ hl (fun e => nomatch e)).1 q) K
theorem AW.lstore {i : Nat} {v : Int64} {L' : List Value} (hd : decode μ.2.1 pc = .ok (.lstore i, 2)) (hn : i + 1 < μ.2.2.1) (hlow : aw_low L i = true) (hL : (L.set i (.long v)).set (i + 1) .null = L') (K : AW Z μ d k0 mc ms Q (pc + 2) L' S h k cs ss) : AW Z μ d k0 mc ms Q pc L (.long v :: S) h k cs ss := by
  intro l D cT p e s m args below meth c ad0 ad A H locs ls hC ha hk hS hw hl hs
  refine lv_lstore (nL := μ.2.2.1) (lv := aw_pairs ad L) hC.2.1 hC.2.2.1 hd hl.has hn rfl (fun ls' h' => ?_)
  exact K l D cT p e s m args below meth c ad0 ad A H locs ls' hC ha hk hS hw (aw_store2 hl (aw_okJ) hlow hL h') (aw_ok_tail hs)
theorem AW.alenq {i n : Nat} {f : Nat → Option Nat} (hd : decode μ.2.1 pc = .ok (.arraylength, 1)) (h0 : 0 < i) (hh : h i = qrow n f) (K : AW Z μ d k0 mc ms Q (pc + 1) L (.int (Int32.ofNat n) :: S) h k cs ss) : AW Z μ d k0 mc ms Q pc L (.ref i :: S) h k cs ss := by
  intro l D cT p e s m args below meth c ad0 ad A H locs ls hC ha hk hS hw2 hl hs
  have hi : i < k := hs _ List.mem_cons_self
  exact va_alen hC.2.1 hC.2.2.1 hw2.2.2.1 hw2.1 (i - 1) 3 (aw_at_arr h0 hi hh) (ty := .array .int) rfl rfl hd (K l D cT p e s m args below meth c ad0 ad A H locs ls hC ha hk hS hw2 hl (aw_ok_cons aw_okI (aw_ok_tail hs)))
theorem AW.aald {i n j : Nat} {f : Nat → Option Nat} {x : Int32} (hd : decode μ.2.1 pc = .ok (.aaload, 1)) (h0 : 0 < i) (hh : h i = qrow n f) (hin : vp_in x n) (hj : f x.toNatClampNeg = some j) (K : AW Z μ d k0 mc ms Q (pc + 1) L (.ref j :: S) h k cs ss) : AW Z μ d k0 mc ms Q pc L (.int x :: .ref i :: S) h k cs ss := by
  intro l D cT p e s m args below meth c ad0 ad A H locs ls hC ha hk hS hw2 hl hs
  have hi : i < k := hs _ (List.mem_cons_of_mem _ List.mem_cons_self)
  have hlt : x.toNatClampNeg < n := Nat.not_le.mp fun q => hin (Or.inr q)
  have hok : aw_ok k (.ref j) := by
    have := hw2.2.2.2.2 i h0 hi
    rw [hh] at this
    exact this _ _ hj
  refine W.aald (v := .ref (ad j)) (ty := .array .int) hC.2.1 hC.2.2.1 (hw2.1 (i - 1) _ (aw_at_arr h0 hi hh)) ((hw2.2.2.1.2 3 _ rfl).1 n (fun j => va_rf ((f j).map ad))) rfl (fun q => by cases q) (by show ¬ (x < 0 ∨ (arrV _ _ _).slots.size ≤ _); rw [arrV_size]; exact hin) ?_ rfl rfl hd
    (K l D cT p e s m args below meth c ad0 ad A H locs ls hC ha hk hS hw2 hl (aw_ok_cons hok (aw_ok_tail (aw_ok_tail hs))))
  show (arrV _ n (fun j => va_rf ((f j).map ad))).slots[_]? = _
  rw [arrV_read _ _ hlt, hj]
  rfl
theorem AW.aast {i n v nv : Nat} {f : Nat → Option Nat} {gv : Nat → Int32} {x : Int32} (hd : decode μ.2.1 pc = .ok (.aastore, 1)) (h0 : 0 < i) (hh : h i = qrow n f) (v0 : 0 < v) (hv : h v = irow nv gv) (hin : vp_in x n) (K : AW Z μ d k0 mc ms Q (pc + 1) L S (va_up h i (qrow n (va_up f x.toNatClampNeg (some v)))) k cs ss) : AW Z μ d k0 mc ms Q pc L (.ref v :: .int x :: .ref i :: S) h k cs ss := by
  intro l D cT p e s m args below meth c ad0 ad A H locs ls hC ha hk hS hw2 hl hs
  have hvk : v < k := hs _ List.mem_cons_self
  have hi : i < k := hs _ (List.mem_cons_of_mem _ (List.mem_cons_of_mem _ List.mem_cons_self))
  have hlt : x.toNatClampNeg < n := Nat.not_le.mp fun q => hin (Or.inr q)
  have h1 : ¬ x < 0 := fun q => hin (Or.inl q)
  obtain ⟨kA, kI, q1, q2, q3⟩ := aw_qk hC.2.2.2.2.2.2.2.2.2.1 hw2.2.2.1
  have hcv := hw2.1 (v - 1) _ (aw_at_arr v0 hvk hv)
  refine W.aast hC.2.1 hC.2.2.1 (hw2.1 (i - 1) _ (aw_at_arr h0 hi hh)) (fun q h => by cases h) (fun h => by cases h) q1 q2 rfl q3 ⟨h1, by show _ < (arrV _ _ _).slots.size; rw [arrV_size]; exact hlt⟩ hcv (fun q h => by cases h) q3 (aw_asg _ _) rfl rfl hd fun H1 e1 z oq => ?_
  have he : va_at D aw_cl (ad i, aw_ce cT ad (qrow n (va_up f x.toNatClampNeg (some v)))) H1 := by
    show H1[ad i]? = some (vp_cell (cT (.array .int)) (n, .inr (.inr (.inr (.inr fun j => ((va_up f x.toNatClampNeg (some v)) j).map ad)))))
    rw [e1]
    show some (((vp_cell (cT (.array .int)) (n, .inr (.inr (.inr (.inr fun j => (f j).map ad))))).setSlot x.toNatClampNeg (.ref (ad v)))) = _
    rw [vp_cell_q, vp_cell_q, arrV_store]
    congr 2
    funext q
    by_cases hq : q = x.toNatClampNeg
    · subst hq
      simp [updV, va_up, va_rf]
    · simp [updV, va_up, hq]
  have hoi := hw2.2.2.2.2 i h0 hi
  rw [hh] at hoi
  refine K l D cT p e s m args below meth c ad0 ad A H1 _ ls hC ha hk (hS.put z oq (hw2.2.1.2 (i - 1) _ (aw_at_arr h0 hi hh))) (aw_Wo_set hw2 h0 hi (fun j w hw => ?_) (hw2.1.set hw2.2.1 (aw_at_arr h0 hi hh) he oq) (hw2.2.1.set (aw_at_arr h0 hi hh))) hl (aw_ok_tail (aw_ok_tail (aw_ok_tail hs)))
  simp only [va_up] at hw
  split at hw
  · cases hw; exact hvk
  · exact hoi j w hw
theorem AW.newq {index N : Nat} {n : Int32} (hd : decode μ.2.1 pc = .ok (.anewarray index, 3)) (hw : Cond.classLink μ.1.cls index (FieldType.array .int).toString ∈ lw_tbl) (hn : ¬ n < 0) (hN : n.toNatClampNeg = N) (hb : N * 4 ≤ 536870912) (hcs : cs + 1 ≤ mc) (hss : ss + N ≤ ms)
    (K : AW Z μ d k0 mc ms Q (pc + 3) L (.ref k :: S) (va_up h k (qrow N (fun _ => none))) (k + 1) (cs + 1) (ss + N)) : AW Z μ d k0 mc ms Q pc L (.int n :: S) h k cs ss := by
  intro l D cT p e s m args below meth c ad0 ad A H locs ls hC ha hk hS hw2 hl hs
  subst hN
  have hg := hC.2.2.2.2.2.2.2.2.2.1
  refine W.anewA (t := .int) hC.2.1 hC.2.2.1 hC.2.2.2.2.2.2.2.1 (aw_hts hg hw rfl) (aw_AO.use hg.2.2.2.2.2) rfl hd rfl hn hb hcs hss fun cA kA comp f1 f2 f3 f4 => ?_
  have hcA : cA = cT (.array .int) := Option.some.inj (f1.symm.trans (hw2.2.2.1.2 3 _ rfl).2)
  subst hcA
  generalize hH1 : H.push ({ cls := cT (.array .int), slots := Array.replicate n.toNatClampNeg .null, vm := .none } : Cell) = H1
  have z1 : H1.size = H.size + 1 := by rw [← hH1, Array.size_push]
  have e1 : H1[H.size]? = some (arrV (cT (.array .int)) n.toNatClampNeg (fun _ => .null)) := by rw [← hH1, Array.getElem?_push_size, ← arrV_new]
  have o1 : ∀ q : Nat, q < H.size → H1[q]? = H[q]? := fun q hq => by rw [← hH1, Array.getElem?_push, if_neg (Nat.ne_of_lt hq)]
  have hkk : ∀ (j : Nat) (x : Nat × va_E), (aw_ws cT ad h k)[j]? = some x → H1[x.1]? = H[x.1]? := fun j x hx => o1 x.1 ((hw2.1 j x hx).lt)
  have hP : va_P D aw_cl (aw_ws cT ad h k ++ [(H.size, aw_ce cT ad (qrow n.toNatClampNeg (fun _ => none)))]) H1 := by
    refine (hw2.1.kept hkk).app (fun j x hx => ?_)
    have hz : j < 1 := (List.getElem?_eq_some_iff.mp hx).1
    rw [show j = 0 by omega] at hx
    cases hx
    show H1[H.size]? = some (vp_cell (cT (.array .int)) (n.toNatClampNeg, .inr (.inr (.inr (.inr (fun _ => none))))))
    rw [e1, vp_cell_q]
    rfl
  have hK := K l D cT p e s m args below meth c ad0 (va_up ad k H.size) A H1 locs ls hC (fun i hi => by simp only [va_up, Nat.ne_of_lt (Nat.lt_of_lt_of_le hi hk), if_false]; exact ha i hi) (Nat.le_succ_of_le hk)
    ⟨Nat.le_trans hS.1 (by omega), fun x h1 h2 => (o1 x (Nat.lt_of_lt_of_le h1 hS.1)).trans (hS.2.1 x h1 h2), hS.2.2⟩ (aw_Wo_push (e := qrow n.toNatClampNeg (fun _ => none)) hw2 (show aw_oka k (n.toNatClampNeg, .inr (.inr (.inr (.inr (fun _ => none))))) from fun j i e => by cases e) hP (hw2.2.1.push hw2.1 rfl (hC.2.2.2.2.2.2.2.2.2.2.1 _ hS.1))) (aw_push_Lv hl) (aw_ok_cons (Nat.lt_succ_self k) (fun v hv => aw_ok_le (aw_ok_tail hs v hv) (Nat.le_succ _)))
  rw [List.map_cons, aw_push_cv (aw_ok_tail hs)] at hK
  have e2 : aw_cv (va_up ad k H.size) (.ref k) = .ref H.size := by simp [aw_cv, va_up]
  rw [e2] at hK
  exact hK
theorem AW.copyq {i j n0 n1 index : Nat} {f g : Nat → Option Nat} {sp dp n : Int32} (hd : decode μ.2.1 pc = .ok (.invokestatic index, 3)) (hlink : Cond.methodLink μ.1.cls index arraycopyName ∈ lw_tbl) (hnat : Cond.native arraycopyName ∈ lw_tbl) (hst : Cond.static arraycopyName ∈ lw_tbl) (hini : Cond.initialized "java/lang/System" ∈ lw_tbl)
    (i0 : 0 < i) (j0 : 0 < j) (hi : h i = qrow n0 f) (hj : h j = qrow n1 g) (h1 : ¬ sp < 0) (h2 : ¬ dp < 0) (h3 : ¬ n < 0) (h4 : sp.toNatClampNeg + n.toNatClampNeg ≤ n0) (h5 : dp.toNatClampNeg + n.toNatClampNeg ≤ n1) (hel : ∀ q : Nat, q < n.toNatClampNeg → ∀ y, f (sp.toNatClampNeg + q) = some y → 0 < y ∧ ∃ a b, h y = irow a b) (hcat : (S.map fun v => v.category).sum ≤ 8)
    (K : AW Z μ d k0 mc ms Q (pc + 3) L S (va_up h j (qrow n1 (va_cpy f g sp.toNatClampNeg dp.toNatClampNeg n.toNatClampNeg))) k cs ss) : AW Z μ d k0 mc ms Q pc L (.int n :: .int dp :: .ref j :: .int sp :: .ref i :: S) h k cs ss := by
  intro l D cT p e s m args below meth c ad0 ad A H locs ls hC ha hk hS hw hl hs
  have hg := hC.2.2.2.2.2.2.2.2.2.1
  have hjk : j < k := hs (.ref j) (by simp)
  have hik : i < k := hs (.ref i) (by simp)
  have hcat2 : ((S.map (aw_cv ad)).map fun v => v.category).sum ≤ 8 := by
    have e : ((S.map (aw_cv ad)).map fun v => v.category) = S.map fun v => v.category := by
      rw [List.map_map]
      exact List.map_congr_left fun v _ => aw_cat ad v
    rw [e]; exact hcat
  have hnw : nativeFrameWords "java/lang/System" "arraycopy" 5 + 11 ≤ 100 := by decide
  have hoi := hw.2.2.2.2 i i0 hik
  rw [hi] at hoi
  have hoj := hw.2.2.2.2 j j0 hjk
  rw [hj] at hoj
  have nn : ∀ z : Int32, ¬ z < 0 → z.toInt = (z.toNatClampNeg : Int) := by
    intro z hz
    have hz0 : (0 : Int) ≤ z.toInt := by
      have := Int32.not_lt.mp hz
      simpa using Int32.le_iff_toInt_le.mp this
    show z.toInt = ((z.toInt.toNat : Nat) : Int)
    omega
  obtain ⟨kA, kI, q1, q2, q3⟩ := aw_qk hg hw.2.2.1
  have ha0 := aw_at_arr (cT := cT) (ad := ad) i0 hik hi
  have ha1 := aw_at_arr (cT := cT) (ad := ad) j0 hjk hj
  have hc0 : H[ad i]? = some (vp_cell (cT (.array .int)) (n0, .inr (.inr (.inr (.inr fun j => (f j).map ad))))) := hw.1 (i - 1) _ ha0
  have hc1 : H[ad j]? = some (vp_cell (cT (.array .int)) (n1, .inr (.inr (.inr (.inr fun j => (g j).map ad))))) := hw.1 (j - 1) _ ha1
  intro T hT X
  obtain ⟨vm', X', step⟩ := X.arraycopy hC.2.1 hC.2.2.2.2.2.2.2.1 (aw_hts hg hlink rfl) (aw_hts hg hnat rfl) (aw_hts hg hst rfl) (aw_hts hg hini rfl) (src := ad i) (dst := ad j) (cs := vp_cell (cT (.array .int)) (n0, .inr (.inr (.inr (.inr fun j => (f j).map ad))))) (cd := vp_cell (cT (.array .int)) (n1, .inr (.inr (.inr (.inr fun j => (g j).map ad))))) (srcPos := sp) (destPos := dp) (n := n) (by rw [hT]; exact hc0) (by rw [hT]; exact hc1)
    (fun _ h => by cases h) (fun _ h => by cases h) (fun h => by cases h) (fun h => by cases h) q1 q1 q2 q2 rfl h1 h2 h3
    (by rw [nn sp h1, nn n h3]; show ¬ _ > ((arrV _ n0 (fun j => va_rf ((f j).map ad))).slots.size : Int); rw [arrV_size]; omega)
    (by rw [nn dp h2, nn n h3]; show ¬ _ > ((arrV _ n1 (fun j => va_rf ((g j).map ad))).slots.size : Int); rw [arrV_size]; omega)
    (fun vm₁ hal q hq => by
      have e : (vp_cell (cT (.array .int)) (n0, .inr (.inr (.inr (.inr fun j => (f j).map ad))))).slots.getD (sp.toNatClampNeg + q) .null = va_rf ((f (sp.toNatClampNeg + q)).map ad) := by
        show (arrV _ n0 (fun j => va_rf ((f j).map ad))).slots.getD _ _ = _
        rw [Array.getD_eq_getD_getElem?, arrV_read _ _ (by omega)]
        rfl
      rw [e]
      cases hy : f (sp.toNatClampNeg + q) with
      | none => exact ⟨rfl, trivial⟩
      | some y =>
        obtain ⟨y0, a, b, hyb⟩ := hel q hq y hy
        have hyk : y < k := hoi _ _ hy
        have hcy := hw.1 (y - 1) _ (aw_at_arr y0 hyk hyb)
        obtain ⟨kE', hkE', -⟩ := hal.2.2 _ _ q3
        refine ⟨rfl, vp_cell (cT .int) (a, .inl b), (show T.heap[ad y]? = some _ by rw [hT]; exact hcy), (fun q h => by cases h), ⟨kE', hkE'⟩, ?_, ?_⟩
        · exact ⟨kE', hkE'⟩
        · show vm₁.assignable _ _ = true
          exact aw_asg _ _)
    (g := F0 m pc ls (.int n :: .int dp :: .ref (ad j) :: .int sp :: .ref (ad i) :: S.map (aw_cv ad))) rfl (by rw [hC.2.2.2.1]; exact hl.1) (rest := S.map (aw_cv ad)) rfl (by rw [hC.2.2.1]; exact hd) (by show 1 ≤ d + 20; omega) (by show 2 * 0 + _ + _ ≤ 41 * d + 852; omega)
  have e1 : copied (vp_cell (cT (.array .int)) (n0, .inr (.inr (.inr (.inr fun j => (f j).map ad))))) (vp_cell (cT (.array .int)) (n1, .inr (.inr (.inr (.inr fun j => (g j).map ad))))) sp dp n = vp_cell (cT (.array .int)) (n1, .inr (.inr (.inr (.inr fun q => ((va_cpy f g sp.toNatClampNeg dp.toNatClampNeg n.toNatClampNeg) q).map ad)))) := by
    rw [vp_cell_q, vp_cell_q, vp_cell_q]
    have := va_copied (fun z : Option Nat => va_rf z) (cT (.array .int)) (cT (.array .int)) (n1 := n1) (dp := dp.toNatClampNeg) (fun j => (f j).map ad) (fun j => (g j).map ad) h4
    refine Eq.trans this ?_
    congr 1
    funext q
    simp only [va_cpy]
    split <;> rfl
  rw [e1] at X' step
  have hl9 : ad j < H.size := (Array.getElem?_eq_some_iff.mp hc1).1
  have hheap : ((T.setVm vm').setCell (ad j) (vp_cell (cT (.array .int)) (n1, .inr (.inr (.inr (.inr fun q => ((va_cpy f g sp.toNatClampNeg dp.toNatClampNeg n.toNatClampNeg) q).map ad)))))).heap = H.setIfInBounds (ad j) (vp_cell (cT (.array .int)) (n1, .inr (.inr (.inr (.inr fun q => ((va_cpy f g sp.toNatClampNeg dp.toNatClampNeg n.toNatClampNeg) q).map ad))))) := by rw [← hT]; rfl
  have oq : ∀ q : Nat, q ≠ ad j → (H.setIfInBounds (ad j) (vp_cell (cT (.array .int)) (n1, .inr (.inr (.inr (.inr fun q => ((va_cpy f g sp.toNatClampNeg dp.toNatClampNeg n.toNatClampNeg) q).map ad))))))[q]? = H[q]? := fun q hq => by simp [Array.getElem?_setIfInBounds, Ne.symm hq]
  have hset := aw_Wo_set (e := qrow n1 (va_cpy f g sp.toNatClampNeg dp.toNatClampNeg n.toNatClampNeg)) hw j0 hjk (fun q w hq => by
      simp only [va_cpy] at hq
      split at hq
      · exact hoi _ _ hq
      · exact hoj _ _ hq) (hw.1.set hw.2.1 ha1 (show (H.setIfInBounds (ad j) _)[ad j]? = some _ by simp [Array.getElem?_setIfInBounds, hl9]; rfl) oq) (hw.2.1.set ha1)
  obtain ⟨t, a1, b1⟩ := K l D cT p e s m args below meth c ad0 ad A _ _ ls hC ha hk ⟨by simp; exact hS.1, fun q g1 g2 => by
      rw [oq q (fun e => g2 (by rw [e]; exact hw.2.1.2 (j - 1) _ ha1))]
      exact hS.2.1 q g1 g2, fun q hq => by
      rcases List.mem_append.mp hq with h | h
      · exact hS.2.2 q h
      · obtain ⟨z, -, hz⟩ := List.mem_map.mp h
        rw [← hz]
        exact hw.2.1.2 (j - 1) _ ha1⟩ hset hl (aw_ok_tail (aw_ok_tail (aw_ok_tail (aw_ok_tail (aw_ok_tail hs))))) _ hheap X'
  exact ⟨t, step t a1, b1⟩
theorem AW.callVH {μ' : Mt} {d' mc' ms' index n i ci : Nat} {q : vw_C} {fs as S' : List Value} {R : Po} (hd : decode μ.2.1 pc = .ok (.invokevirtual index, 3)) (hM : AM μ' d' (.ref i :: as) h k mc' ms' R) (hm : aw_mokH μ' n) (hin : Cond.instanceMethod μ'.1 ∈ lw_tbl) (hsel : Cond.selects μ'.1.cls μ'.1 μ'.1 ∈ lw_tbl) (hlink : Cond.methodLink μ.1.cls index μ'.1 ∈ lw_tbl)
    (h0 : 0 < i) (hh : h i = .inr (ci, fs)) (hc : aw_cl[ci]? = some q) (hq : q.1 = μ'.1.cls) (hn : as.length = n) (hd' : d' + 1 ≤ d) (hS2 : S = as.reverse ++ .ref i :: S') (hcat : (S'.map fun v => v.category).sum ≤ 8) (hcs : cs + mc' ≤ mc) (hss : ss + ms' ≤ ms)
    (K : ∀ (v : Option Value) (h' : Hp) (k' : Nat), R (.inl v) h' k' → AW Z μ d k0 mc ms Q (pc + 3) L (v.toList ++ S') h' k' (cs + mc') (ss + ms'))
    (KX : ∀ (E : String) (h' : Hp) (k' : Nat), R (.inr E) h' k' → AX Z μ d k0 mc ms Q E pc L h' k' (cs + mc') (ss + ms')) : AW Z μ d k0 mc ms Q pc L S h k cs ss := by
  intro l D cT p e s m args below meth c ad0 ad A H locs ls hC ha hk hS hw hl hs
  have hg := hC.2.2.2.2.2.2.2.2.2.1
  have hik : i < k := hs (.ref i) (by rw [hS2]; exact List.mem_append_right _ List.mem_cons_self)
  have hok : ∀ v ∈ Value.ref i :: as, aw_ok k v := fun v hv => by
    rcases List.mem_cons.mp hv with rfl | hv
    · exact hik
    · exact hs v (by rw [hS2]; exact List.mem_append_left _ (List.mem_reverse.mpr hv))
  have hok2 : ∀ v ∈ S', aw_ok k v := fun v hv => hs v (by rw [hS2]; exact List.mem_append_right _ (List.mem_cons_of_mem _ hv))
  obtain ⟨m1, m2, m3, m4, m5, m6⟩ := hm
  have hcw : vx_CVW (aw_R d mc ms) s args μ.1.cls μ'.1.cls index μ'.1 μ'.2.1 μ'.2.2.1 μ'.2.2.2.1 μ'.2.2.2.2 [aw_cw μ'] (aw_R d' mc' ms') mc' ms' n := by
    refine ⟨⟨rfl, rfl, ?_, ?_, fun w hw a' U hW => ?_, ?_⟩, ?_, aw_hts hg m3 rfl, m4, fun sig h => ?_, aw_hts hg hlink rfl, aw_hts hg hin rfl, aw_hts hg hsel rfl⟩
    · show d' + 20 + 1 ≤ d + 20; omega
    · show 8 + (μ'.2.2.1 + 11) + (41 * d' + 852) ≤ 41 * d + 852; omega
    · rw [List.mem_singleton] at hw
      rw [hw]
      exact aw_stable (by rw [m1]; rfl) hW (hg.1 _ m2 (by rw [m1]; rfl))
    · rw [m1]; exact List.mem_singleton.mpr rfl
    · rw [← m1]; exact aw_hts hg m2 (by rw [m1]; rfl)
    · rw [h] at m5; exact (Option.some.inj m5).symm
  have hr := vx_runVX (e := e) (below := below) (meth := meth) (As := as.map (aw_cv ad)) (rest := S'.map (aw_cv ad)) (b := ad i) (C := μ'.1.cls) (Ts := []) (locs := locs) (cells := cs) (slots := ss) (g := F0 m pc ls (S.map (aw_cv ad))) (nL := μ.2.2.1) ⟨hC.2.1, hC.2.2.1, hC.2.2.2.1, hC.2.2.2.2.2.2.2.1, fun w h => nomatch h⟩ (hM l D cT ad H.size hC.1) hcw
    ⟨aw_blind, by rw [← hq]; exact va_recv hw.2.2.1 hw.1 hc (aw_at_obj h0 hik hh), aw_pre hw hS hC.2.2.2.2.2.2.2.2.2.2.1 hg hok⟩
    rfl (by rw [List.length_map]; exact hn) hl.1 (by show S.map _ = _; rw [hS2, List.map_append, List.map_reverse]; rfl) (aw_stW hcat) hd ⟨hcs, hss⟩
  exact aw_run hr hC ha hk hS hw hl hok2 K KX
end Rows6
