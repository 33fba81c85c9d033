/-! AW: the heap -/
def aw_ty (ci : Nat) : Nat → FieldType := match ci with
  | 0 => tyX0
  | 1 => tyX1
  | 2 => tyX2
  | 3 => tyX3
  | 4 => tyX4
  | _ => tyX5
theorem aw_cw0 : ∀ w ∈ u_ws RX0 TX0 1, w ∈ lw_tbl ∧ aw_okw w = true := by decide +kernel
theorem aw_cw1 : ∀ w ∈ u_ws RX1 TX1 12, w ∈ lw_tbl ∧ aw_okw w = true := by decide +kernel
theorem aw_cw2 : ∀ w ∈ u_ws RX2 TX2 6, w ∈ lw_tbl ∧ aw_okw w = true := by decide +kernel
theorem aw_cw3 : ∀ w ∈ u_ws RX3 TX3 18, w ∈ lw_tbl ∧ aw_okw w = true := by decide +kernel
theorem aw_cw4 : ∀ w ∈ u_ws RX4 TX4 7, w ∈ lw_tbl ∧ aw_okw w = true := by decide +kernel
theorem aw_cw5 : ∀ w ∈ u_ws RX5 TX5 14, w ∈ lw_tbl ∧ aw_okw w = true := by decide +kernel
theorem aw_cls {ci : Nat} {C : String} {T : u_T} {N : Nat} (h : aw_cl[ci]? = some (C, T, N)) :
    (∀ w ∈ u_ws C T N, w ∈ lw_tbl ∧ aw_okw w = true) ∧ (∀ k, k < N → parseFieldDescriptor (T k).2.2.1 = some (aw_ty ci k)) ∧ (∀ a, a < N → ∀ b, b < N → a ≠ b → (T a).2.1 ≠ (T b).2.1) := by
  match ci, h with
  | 0, h => cases h; exact ⟨aw_cw0, tyX0_ok, nmX0⟩
  | 1, h => cases h; exact ⟨aw_cw1, tyX1_ok, nmX1⟩
  | 2, h => cases h; exact ⟨aw_cw2, tyX2_ok, nmX2⟩
  | 3, h => cases h; exact ⟨aw_cw3, tyX3_ok, nmX3⟩
  | 4, h => cases h; exact ⟨aw_cw4, tyX4_ok, nmX4⟩
  | 5, h => cases h; exact ⟨aw_cw5, tyX5_ok, nmX5⟩
  | n + 6, h => simp at h
theorem aw_hts {A : Nat → Prop} {s : State} (h : aw_GF A s) {args : Array Value} {w : Cond} (hw : w ∈ lw_tbl) (ho : aw_okw w = true) : w.before args s = true := aw_stable ho (State.WarmedH.refl s) (h.1 w hw ho)
theorem aw_at_obj {cT : FieldType → ClassId} {ad : Nat → Nat} {h : Hp} {k i ci : Nat} {fs : List Value} (h0 : 0 < i) (hi : i < k) (hh : h i = .inr (ci, fs)) : (aw_ws cT ad h k)[i - 1]? = some (ad i, .inr (ci, fs.map (aw_cv ad))) := by
  rw [aw_ws_at cT ad h h0 hi, hh]; rfl
theorem aw_at_arr {cT : FieldType → ClassId} {ad : Nat → Nat} {h : Hp} {k i : Nat} {ty : FieldType} {a : vp_A} (h0 : 0 < i) (hi : i < k) (hh : h i = .inl (ty, a)) : (aw_ws cT ad h k)[i - 1]? = some (ad i, .inl (cT ty, aw_ca ad a)) := by
  rw [aw_ws_at cT ad h h0 hi, hh]; rfl
theorem aw_Wo_set {D : va_G} {cT : FieldType → ClassId} {A : Nat → Prop} {ad : Nat → Nat} {h : Hp} {k i : Nat} {H H1 : Heap} {U : State} {e : Ce} (hw : aw_Wo D cT A ad h k H U) (h0 : 0 < i) (hi : i < k) (he : aw_okc k e)
    (hP : va_P D aw_cl ((aw_ws cT ad h k).set (i - 1) (ad i, aw_ce cT ad e)) H1) (hD : va_D A ((aw_ws cT ad h k).set (i - 1) (ad i, aw_ce cT ad e))) : aw_Wo D cT A ad (va_up h i e) k H1 U := by
  rw [aw_ws_set cT ad h h0 hi] at hP hD
  refine ⟨hP, hD, hw.2.2.1, hw.2.2.2.1, fun j j0 jk => ?_⟩
  by_cases hj : j = i
  · subst hj; simp only [va_up, if_true]; exact he
  · simp only [va_up, hj, if_false]; exact hw.2.2.2.2 j j0 jk
section Rows3
variable {Z : Gz} {μ : Mt} {d k0 mc ms : Nat} {Q : Po} {pc : Nat} {L S : List Value} {h : Hp} {k cs ss : Nat}
theorem AW.get {i ci index f N : Nat} {C ref : String} {T : u_T} {fs : List Value} {v : Value} (hd : decode μ.2.1 pc = .ok (.getfield index, 3)) (hw : Cond.fieldLink μ.1.cls index ref (T f).2.1 (T f).2.2.1 ∈ lw_tbl) (hc : aw_cl[ci]? = some (C, T, N)) (hf : f < N) (hr : ref = (T f).1)
    (h0 : 0 < i) (hh : h i = .inr (ci, fs)) (hv : fs[f]? = some v) (K : AW Z μ d k0 mc ms Q (pc + 3) L (v :: S) h k cs ss) : AW Z μ d k0 mc ms Q pc L (.ref i :: S) h k cs ss := by
  intro l D cT p e s m args below meth c ad0 ad A H locs ls hC ha hk hS hw2 hl hs
  have hi : i < k := hs _ List.mem_cons_self
  obtain ⟨c1, c2, c3⟩ := aw_cls hc
  refine va_get (own := μ.1.cls) (ref := ref) (v := aw_cv ad v) hC.2.1 hC.2.2.1 (Ts := u_ws C T N) (fun w h => aw_hts hC.2.2.2.2.2.2.2.2.2.1 (c1 w h).1 (c1 w h).2) (fun _ h => h) hC.2.2.2.2.2.2.2.1 hw2.2.2.1 hw2.1 (i - 1) (aw_at_obj h0 hi hh) hc f hf (aw_hts hC.2.2.2.2.2.2.2.2.2.1 hw rfl) (fun x hx => by rw [hr]; exact hx) (by rw [List.getElem?_map, hv]; rfl) hd ?_
  have hok : aw_ok k v := by
    have := hw2.2.2.2.2 i h0 hi
    rw [hh] at this
    exact this v (List.mem_of_getElem? hv)
  exact K l D cT p e s m args below meth c ad0 ad A H locs ls hC ha hk hS hw2 hl (aw_ok_cons hok (aw_ok_tail hs))
theorem AW.getN {i ci index f N : Nat} {C ref host : String} {T : u_T} {fs : List Value} {v : Value} (hd : decode μ.2.1 pc = .ok (.getfield index, 3)) (hw : Cond.fieldLinkNest μ.1.cls index ref (T f).2.1 (T f).2.2.1 host ∈ lw_tbl) (hc : aw_cl[ci]? = some (C, T, N)) (hf : f < N) (hr : ref = (T f).1)
    (h0 : 0 < i) (hh : h i = .inr (ci, fs)) (hv : fs[f]? = some v) (K : AW Z μ d k0 mc ms Q (pc + 3) L (v :: S) h k cs ss) : AW Z μ d k0 mc ms Q pc L (.ref i :: S) h k cs ss := by
  intro l D cT p e s m args below meth c ad0 ad A H locs ls hC ha hk hS hw2 hl hs
  have hi : i < k := hs _ List.mem_cons_self
  obtain ⟨c1, c2, c3⟩ := aw_cls hc
  refine va_getN (own := μ.1.cls) (ref := ref) (host := host) (v := aw_cv ad v) hC.2.1 hC.2.2.1 (Ts := u_ws C T N) (fun w h => aw_hts hC.2.2.2.2.2.2.2.2.2.1 (c1 w h).1 (c1 w h).2) (fun _ h => h) hC.2.2.2.2.2.2.2.1 hw2.2.2.1 hw2.1 (i - 1) (aw_at_obj h0 hi hh) hc f hf (aw_hts hC.2.2.2.2.2.2.2.2.2.1 hw rfl) (fun x hx => by rw [hr]; exact hx) (by rw [List.getElem?_map, hv]; rfl) hd ?_
  have hok : aw_ok k v := by
    have := hw2.2.2.2.2 i h0 hi
    rw [hh] at this
    exact this v (List.mem_of_getElem? hv)
  exact K l D cT p e s m args below meth c ad0 ad A H locs ls hC ha hk hS hw2 hl (aw_ok_cons hok (aw_ok_tail hs))
theorem aw_okc_set {ci f : Nat} {fs : List Value} {v : Value} (h : aw_okc k (.inr (ci, fs))) (hv : aw_ok k v) : aw_okc k (.inr (ci, fs.set f v)) := fun w hw => by
  rcases List.mem_or_eq_of_mem_set hw with h1 | h1
  · exact h w h1
  · rw [h1]; exact hv
theorem AW.put {i ci index f N : Nat} {C ref : String} {T : u_T} {fs fs' : List Value} {v : Value} (hd : decode μ.2.1 pc = .ok (.putfield index, 3)) (hw : Cond.fieldLink μ.1.cls index ref (T f).2.1 (T f).2.2.1 ∈ lw_tbl) (hc : aw_cl[ci]? = some (C, T, N)) (hf : f < N) (hr : ref = (T f).1)
    (h0 : 0 < i) (hh : h i = .inr (ci, fs)) (hl2 : f < fs.length) (hfin : (T f).2.2.2 = false) (hn : ∀ ad : Nat → Nat, narrow (aw_ty ci f) (aw_cv ad v) = aw_cv ad v ∧ fits (aw_ty ci f) (aw_cv ad v) = true) (hs' : fs.set f v = fs')
    (K : AW Z μ d k0 mc ms Q (pc + 3) L S (va_up h i (.inr (ci, fs'))) k cs ss) : AW Z μ d k0 mc ms Q pc L (v :: .ref i :: S) h k cs ss := by
  subst hs'
  intro l D cT p e s m args below meth c ad0 ad A H locs ls hC ha hk hS hw2 hl hs
  have hi : i < k := hs _ (List.mem_cons_of_mem _ List.mem_cons_self)
  obtain ⟨c1, c2, c3⟩ := aw_cls hc
  refine va_put (own := μ.1.cls) (ref := ref) (v := aw_cv ad v) (ty := aw_ty ci f) hC.2.1 hC.2.2.1 (Ts := u_ws C T N) (fun w h => aw_hts hC.2.2.2.2.2.2.2.2.2.1 (c1 w h).1 (c1 w h).2) (fun _ h => h) (aw_ty ci) c2 c3 hC.2.2.2.2.2.2.2.1 hw2.2.2.1 hw2.1 hw2.2.1 hS (i - 1) (aw_at_obj h0 hi hh) hc f hf (aw_hts hC.2.2.2.2.2.2.2.2.2.1 hw rfl) (fun x hx => by rw [hr]; exact hx) hfin (c2 f hf) (hn ad).1 (hn ad).2 (by rw [List.length_map]; exact hl2) hd (fun H1 locs1 hP hD hS1 => ?_)
  have e1 : (ad i, (Sum.inr (ci, (fs.map (aw_cv ad)).set f (aw_cv ad v)) : va_E)) = (ad i, aw_ce cT ad (.inr (ci, fs.set f v))) := by
    show _ = (ad i, Sum.inr (ci, (fs.set f v).map (aw_cv ad)))
    rw [List.map_set]
  rw [e1] at hP hD
  have hoi := hw2.2.2.2.2 i h0 hi
  rw [hh] at hoi
  exact K l D cT p e s m args below meth c ad0 ad A H1 locs1 ls hC ha hk hS1 (aw_Wo_set hw2 h0 hi (aw_okc_set hoi (hs _ List.mem_cons_self)) hP hD) hl (aw_ok_tail (aw_ok_tail hs))
theorem AW.putN {i ci index f N : Nat} {C ref host : String} {T : u_T} {fs fs' : List Value} {v : Value} (hd : decode μ.2.1 pc = .ok (.putfield index, 3)) (hw : Cond.fieldLinkNest μ.1.cls index ref (T f).2.1 (T f).2.2.1 host ∈ lw_tbl) (hc : aw_cl[ci]? = some (C, T, N)) (hf : f < N) (hr : ref = (T f).1)
    (h0 : 0 < i) (hh : h i = .inr (ci, fs)) (hl2 : f < fs.length) (hfin : (T f).2.2.2 = false) (hn : ∀ ad : Nat → Nat, narrow (aw_ty ci f) (aw_cv ad v) = aw_cv ad v ∧ fits (aw_ty ci f) (aw_cv ad v) = true) (hs' : fs.set f v = fs')
    (K : AW Z μ d k0 mc ms Q (pc + 3) L S (va_up h i (.inr (ci, fs'))) k cs ss) : AW Z μ d k0 mc ms Q pc L (v :: .ref i :: S) h k cs ss := by
  subst hs'
  intro l D cT p e s m args below meth c ad0 ad A H locs ls hC ha hk hS hw2 hl hs
  have hi : i < k := hs _ (List.mem_cons_of_mem _ List.mem_cons_self)
  obtain ⟨c1, c2, c3⟩ := aw_cls hc
  refine va_putN (own := μ.1.cls) (ref := ref) (host := host) (v := aw_cv ad v) (ty := aw_ty ci f) hC.2.1 hC.2.2.1 (Ts := u_ws C T N) (fun w h => aw_hts hC.2.2.2.2.2.2.2.2.2.1 (c1 w h).1 (c1 w h).2) (fun _ h => h) (aw_ty ci) c2 c3 hC.2.2.2.2.2.2.2.1 hw2.2.2.1 hw2.1 hw2.2.1 hS (i - 1) (aw_at_obj h0 hi hh) hc f hf (aw_hts hC.2.2.2.2.2.2.2.2.2.1 hw rfl) (fun x hx => by rw [hr]; exact hx) hfin (c2 f hf) (hn ad).1 (hn ad).2 (by rw [List.length_map]; exact hl2) hd (fun H1 locs1 hP hD hS1 => ?_)
  have e1 : (ad i, (Sum.inr (ci, (fs.map (aw_cv ad)).set f (aw_cv ad v)) : va_E)) = (ad i, aw_ce cT ad (.inr (ci, fs.set f v))) := by
    show _ = (ad i, Sum.inr (ci, (fs.set f v).map (aw_cv ad)))
    rw [List.map_set]
  rw [e1] at hP hD
  have hoi := hw2.2.2.2.2 i h0 hi
  rw [hh] at hoi
  exact K l D cT p e s m args below meth c ad0 ad A H1 locs1 ls hC ha hk hS1 (aw_Wo_set hw2 h0 hi (aw_okc_set hoi (hs _ List.mem_cons_self)) hP hD) hl (aw_ok_tail (aw_ok_tail hs))
theorem AW.putF {i ci index f N : Nat} {C ref : String} {T : u_T} {fs fs' : List Value} {v : Value} (hd : decode μ.2.1 pc = .ok (.putfield index, 3)) (hw : Cond.fieldLink μ.1.cls index ref (T f).2.1 (T f).2.2.1 ∈ lw_tbl) (hc : aw_cl[ci]? = some (C, T, N)) (hf : f < N) (hr : ref = (T f).1)
    (h0 : 0 < i) (hh : h i = .inr (ci, fs)) (hl2 : f < fs.length) (hfin : (T f).2.2.2 = true) (hin : μ.1.name = "<init>") (hown : (T f).1 = μ.1.cls) (hn : ∀ ad : Nat → Nat, narrow (aw_ty ci f) (aw_cv ad v) = aw_cv ad v ∧ fits (aw_ty ci f) (aw_cv ad v) = true) (hs' : fs.set f v = fs')
    (K : AW Z μ d k0 mc ms Q (pc + 3) L S (va_up h i (.inr (ci, fs'))) k cs ss) : AW Z μ d k0 mc ms Q pc L (v :: .ref i :: S) h k cs ss := by
  subst hs'
  intro l D cT p e s m args below meth c ad0 ad A H locs ls hC ha hk hS hw2 hl hs
  have hi : i < k := hs _ (List.mem_cons_of_mem _ List.mem_cons_self)
  obtain ⟨c1, c2, c3⟩ := aw_cls hc
  refine va_putF (own := μ.1.cls) (ref := ref) (v := aw_cv ad v) (ty := aw_ty ci f) hC.2.1 hC.2.2.1 (Ts := u_ws C T N) (fun w h => aw_hts hC.2.2.2.2.2.2.2.2.2.1 (c1 w h).1 (c1 w h).2) (fun _ h => h) (aw_ty ci) c2 c3 hC.2.2.2.2.2.2.2.1 hw2.2.2.1 hw2.1 hw2.2.1 hS (i - 1) (aw_at_obj h0 hi hh) hc f hf (aw_hts hC.2.2.2.2.2.2.2.2.2.1 hw rfl) (fun x hx => by rw [hr]; exact hx) hfin (hC.2.2.2.2.2.2.1.trans hin) hown (c2 f hf) (hn ad).1 (hn ad).2 (by rw [List.length_map]; exact hl2) hd (fun H1 locs1 hP hD hS1 => ?_)
  have e1 : (ad i, (Sum.inr (ci, (fs.map (aw_cv ad)).set f (aw_cv ad v)) : va_E)) = (ad i, aw_ce cT ad (.inr (ci, fs.set f v))) := by
    show _ = (ad i, Sum.inr (ci, (fs.set f v).map (aw_cv ad)))
    rw [List.map_set]
  rw [e1] at hP hD
  have hoi := hw2.2.2.2.2 i h0 hi
  rw [hh] at hoi
  exact K l D cT p e s m args below meth c ad0 ad A H1 locs1 ls hC ha hk hS1 (aw_Wo_set hw2 h0 hi (aw_okc_set hoi (hs _ List.mem_cons_self)) hP hD) hl (aw_ok_tail (aw_ok_tail hs))
theorem AW.iald {i n : Nat} {g : Nat → Int32} {x : Int32} (hd : decode μ.2.1 pc = .ok (.iaload, 1)) (h0 : 0 < i) (hh : h i = .inl (.int, n, .inl g)) (hin : vp_in x n) (K : AW Z μ d k0 mc ms Q (pc + 1) L (.int (g x.toNatClampNeg) :: S) h k cs ss) : AW Z μ d k0 mc ms Q pc L (.int x :: .ref i :: S) h k cs ss := by
  intro l D cT p e s m args below meth c ad0 ad A H locs ls hC ha hk hS hw2 hl hs
  have hi : i < k := hs _ (List.mem_cons_of_mem _ List.mem_cons_self)
  exact va_iald hC.2.1 hC.2.2.1 hw2.2.2.1 hw2.1 (i - 1) 0 (aw_at_arr h0 hi hh) rfl hin hd (K l D cT p e s m args below meth c ad0 ad A H locs ls hC ha hk hS hw2 hl (aw_ok_cons aw_okI (aw_ok_tail (aw_ok_tail hs))))
theorem AW.zald {i n : Nat} {g : Nat → Int32} {x : Int32} (hd : decode μ.2.1 pc = .ok (.baload, 1)) (h0 : 0 < i) (hh : h i = .inl (.boolean, n, .inl g)) (hin : vp_in x n) (K : AW Z μ d k0 mc ms Q (pc + 1) L (.int (g x.toNatClampNeg) :: S) h k cs ss) : AW Z μ d k0 mc ms Q pc L (.int x :: .ref i :: S) h k cs ss := by
  intro l D cT p e s m args below meth c ad0 ad A H locs ls hC ha hk hS hw2 hl hs
  have hi : i < k := hs _ (List.mem_cons_of_mem _ List.mem_cons_self)
  exact va_zald hC.2.1 hC.2.2.1 hw2.2.2.1 hw2.1 (i - 1) 1 (aw_at_arr h0 hi hh) rfl hin hd (K l D cT p e s m args below meth c ad0 ad A H locs ls hC ha hk hS hw2 hl (aw_ok_cons aw_okI (aw_ok_tail (aw_ok_tail hs))))
theorem AW.iast {i n : Nat} {g : Nat → Int32} {x y : Int32} (hd : decode μ.2.1 pc = .ok (.iastore, 1)) (h0 : 0 < i) (hh : h i = .inl (.int, n, .inl g)) (hin : vp_in x n) (K : AW Z μ d k0 mc ms Q (pc + 1) L S (va_up h i (.inl (.int, n, .inl (upd g x.toNatClampNeg y)))) k cs ss) : AW Z μ d k0 mc ms Q pc L (.int y :: .int x :: .ref i :: S) h k cs ss := by
  intro l D cT p e s m args below meth c ad0 ad A H locs ls hC ha hk hS hw2 hl hs
  have hi : i < k := hs _ (List.mem_cons_of_mem _ (List.mem_cons_of_mem _ List.mem_cons_self))
  exact va_iast hC.2.1 hC.2.2.1 hw2.2.2.1 hw2.1 hw2.2.1 hS (i - 1) 0 (aw_at_arr h0 hi hh) rfl hin hd (fun H1 locs1 hP hD hS1 => K l D cT p e s m args below meth c ad0 ad A H1 locs1 ls hC ha hk hS1 (aw_Wo_set (e := .inl (.int, n, .inl (upd g x.toNatClampNeg y))) hw2 h0 hi trivial hP hD) hl (aw_ok_tail (aw_ok_tail (aw_ok_tail hs))))
theorem AW.zast {i n : Nat} {g : Nat → Int32} {x y : Int32} (hd : decode μ.2.1 pc = .ok (.bastore, 1)) (h0 : 0 < i) (hh : h i = .inl (.boolean, n, .inl g)) (hin : vp_in x n) (hy : vp_nar .boolean y = y) (K : AW Z μ d k0 mc ms Q (pc + 1) L S (va_up h i (.inl (.boolean, n, .inl (upd g x.toNatClampNeg y)))) k cs ss) : AW Z μ d k0 mc ms Q pc L (.int y :: .int x :: .ref i :: S) h k cs ss := by
  intro l D cT p e s m args below meth c ad0 ad A H locs ls hC ha hk hS hw2 hl hs
  have hi : i < k := hs _ (List.mem_cons_of_mem _ (List.mem_cons_of_mem _ List.mem_cons_self))
  refine va_zast hC.2.1 hC.2.2.1 hw2.2.2.1 hw2.1 hw2.2.1 hS (i - 1) 1 (aw_at_arr h0 hi hh) rfl hin hd (fun H1 locs1 hP hD hS1 => ?_)
  rw [hy] at hP hD
  exact K l D cT p e s m args below meth c ad0 ad A H1 locs1 ls hC ha hk hS1 (aw_Wo_set (e := .inl (.boolean, n, .inl (upd g x.toNatClampNeg y))) hw2 h0 hi trivial hP hD) hl (aw_ok_tail (aw_ok_tail (aw_ok_tail hs)))
theorem AW.alen {i n : Nat} {g : Nat → Int32} (hd : decode μ.2.1 pc = .ok (.arraylength, 1)) (h0 : 0 < i) (hh : h i = .inl (.int, n, .inl g)) (K : AW Z μ d k0 mc ms Q (pc + 1) L (.int (Int32.ofNat n) :: S) h k cs ss) : AW Z μ d k0 mc ms Q pc L (.ref i :: S) h k cs ss := by
  intro l D cT p e s m args below meth c ad0 ad A H locs ls hC ha hk hS hw2 hl hs
  have hi : i < k := hs _ List.mem_cons_self
  exact va_alen hC.2.1 hC.2.2.1 hw2.2.2.1 hw2.1 (i - 1) 0 (aw_at_arr h0 hi hh) (ty := .int) rfl rfl hd (K l D cT p e s m args below meth c ad0 ad A H locs ls hC ha hk hS hw2 hl (aw_ok_cons aw_okI (aw_ok_tail hs)))
/-- a new cell: the next id -/
theorem aw_Wo_push {D : va_G} {cT : FieldType → ClassId} {A : Nat → Prop} {ad : Nat → Nat} {q : Nat} {H H1 : Heap} {U : State} {e : Ce} (hw : aw_Wo D cT A ad h k H U) (he : aw_okc k e)
    (hP : va_P D aw_cl (aw_ws cT ad h k ++ [(q, aw_ce cT ad e)]) H1) (hD : va_D A (aw_ws cT ad h k ++ [(q, aw_ce cT ad e)])) : aw_Wo D cT A (va_up ad k q) (va_up h k e) (k + 1) H1 U := by
  rw [← aw_ws_push cT ad h hw.2.2.2.1 hw.2.2.2.2 q e he] at hP hD
  refine ⟨hP, hD, hw.2.2.1, Nat.succ_pos k, fun j j0 jk => ?_⟩
  by_cases hj : j = k
  · subst hj; simp only [va_up, if_true]; exact aw_okc_le he (Nat.le_succ _)
  · simp only [va_up, hj, if_false]; exact aw_okc_le (hw.2.2.2.2 j j0 (by omega)) (Nat.le_succ _)
theorem aw_push_cv {ad : Nat → Nat} {q : Nat} (hs : ∀ v ∈ S, aw_ok k v) : S.map (aw_cv (va_up ad k q)) = S.map (aw_cv ad) :=
  List.map_congr_left fun v hv => aw_cv_congr (hs v hv) fun i hi => by simp [va_up, Nat.ne_of_lt hi]
theorem aw_push_Lv {nL : Nat} {ad : Nat → Nat} {q : Nat} {ls : Array Slot} (hl : aw_Lv nL ad k ls L) : aw_Lv nL (va_up ad k q) (k + 1) ls L :=
  ⟨hl.1, hl.2.1, fun i v h1 h2 => ⟨by rw [aw_cv_congr (ad := ad) (hl.2.2 i v h1 h2).2 (fun j hj => by simp [va_up, Nat.ne_of_lt hj])]; exact (hl.2.2 i v h1 h2).1, aw_ok_le (hl.2.2 i v h1 h2).2 (Nat.le_succ _)⟩⟩
theorem AW.new {ci index N : Nat} {C : String} {T : u_T} {fs : List Value} (hd : decode μ.2.1 pc = .ok (.new index, 3)) (hw : Cond.classLink μ.1.cls index C ∈ lw_tbl) (hi1 : Cond.instantiable C N ∈ lw_tbl) (hi2 : Cond.initialized C ∈ lw_tbl) (hc : aw_cl[ci]? = some (C, T, N))
    (hfs : ∀ j, j < N → defaultValue (aw_ty ci j) = vp_V fs j) (hfr : ∀ v ∈ fs, ∀ i, v ≠ .ref i) (hcs : cs + 1 ≤ mc) (hss : ss + N ≤ ms)
    (K : AW Z μ d k0 mc ms Q (pc + 3) L (.ref k :: S) (va_up h k (.inr (ci, fs))) (k + 1) (cs + 1) (ss + N)) : AW Z μ d k0 mc ms Q pc L S h k cs ss := by
  intro l D cT p e s m args below meth c ad0 ad A H locs ls hC ha hk hS hw2 hl hs
  obtain ⟨c1, c2, c3⟩ := aw_cls hc
  have hg := hC.2.2.2.2.2.2.2.2.2.1
  refine va_new (own := μ.1.cls) hC.2.1 hC.2.2.1 (Ts := u_ws C T N) (fun w h => aw_hts hg (c1 w h).1 (c1 w h).2) (fun _ h => h) (aw_ty ci) c2 hC.2.2.2.2.2.2.2.1 (aw_hts hg hw rfl) (aw_hts hg hi1 rfl) (aw_hts hg hi2 rfl) hw2.2.2.1 hw2.1 hw2.2.1 hS hC.2.2.2.2.2.2.2.2.2.2.1 hc hfs hcs hss hd (fun q H1 hP hD hS1 => ?_)
  have hrefl : fs.map (aw_cv ad) = fs := by
    have : fs.map (aw_cv ad) = fs.map id := List.map_congr_left fun v hv => by
      cases v <;> first | rfl | exact absurd rfl (hfr _ hv _)
    rw [this, List.map_id]
  have he : aw_okc k (.inr (ci, fs)) := fun v hv => by
    cases v <;> first | trivial | exact absurd rfl (hfr _ hv _)
  have e1 : (q, (Sum.inr (ci, fs) : va_E)) = (q, aw_ce cT ad (.inr (ci, fs))) := by
    show _ = (q, Sum.inr (ci, fs.map (aw_cv ad)))
    rw [hrefl]
  rw [e1] at hP hD
  have hK := K l D cT p e s m args below meth c ad0 (va_up ad k q) A H1 locs ls hC (fun i hi => by simp only [va_up, Nat.ne_of_lt (Nat.lt_of_lt_of_le hi hk), if_false]; exact ha i hi) (Nat.le_succ_of_le hk) hS1 (aw_Wo_push hw2 he hP hD) (aw_push_Lv hl) (aw_ok_cons (Nat.lt_succ_self k) (fun v hv => aw_ok_le (hs v hv) (Nat.le_succ _)))
  rw [List.map_cons, aw_push_cv hs] at hK
  have e2 : aw_cv (va_up ad k q) (.ref k) = .ref q := by simp [aw_cv, va_up]
  rw [e2] at hK
  exact hK
theorem aw_tyv (cT : FieldType → ClassId) {D : va_G} {U : State} (hK : va_K D aw_cl (aw_tys cT) U) {ty : FieldType} (hty : ty = .int ∨ ty = .boolean ∨ ty = .byte) {cA : ClassId} (h : va_RA U cA ty) : cA = cT ty := by
  rcases hty with rfl | rfl | rfl
  · exact Option.some.inj (h.symm.trans (hK.2 0 _ rfl).2)
  · exact Option.some.inj (h.symm.trans (hK.2 1 _ rfl).2)
  · exact Option.some.inj (h.symm.trans (hK.2 2 _ rfl).2)
theorem AW.newa {atype : ArrayType} {ty : FieldType} {n : Int32} {N : Nat} {a0 : vp_A} (hd : decode μ.2.1 pc = .ok (.newarray atype, 2)) (hty : newarray.typeOf atype = ty) (ht3 : ty = .int ∨ ty = .boolean ∨ ty = .byte) (hw : Cond.arrayClass ty ∈ lw_tbl) (ha0 : ∀ cA : ClassId, vp_cell cA a0 = arrV cA N (fun _ => defaultValue ty))
    (hn : ¬ n < 0) (hN : n.toNatClampNeg = N) (hb : N * componentBytes ty ≤ 536870912) (hcs : cs + 1 ≤ mc) (hss : ss + N ≤ ms)
    (K : AW Z μ d k0 mc ms Q (pc + 2) L (.ref k :: S) (va_up h k (.inl (ty, a0))) (k + 1) (cs + 1) (ss + N)) (hca : ∀ ad, aw_ca ad a0 = a0 := by intro; rfl) (hoa : ∀ k, aw_oka k a0 := by intro; trivial) : AW Z μ d k0 mc ms Q pc L (.int n :: S) h k cs ss := by
  intro l D cT p e s m args below meth c ad0 ad A H locs ls hC ha hk hS hw2 hl hs
  have hg := hC.2.2.2.2.2.2.2.2.2.1
  refine va_newa hC.2.1 hC.2.2.1 (by rw [hty]; exact aw_hts hg hw rfl) hty hw2.2.2.1 hw2.1 hw2.2.1 hS hC.2.2.2.2.2.2.2.2.2.2.1 ha0 hn hN hb hcs hss hd (fun q cA H1 hK1 hP hD hS1 => ?_)
  have hcA : cA = cT ty := aw_tyv cT hw2.2.2.1 ht3 (hK1.2 4 (cA, ty) rfl).2
  subst hcA
  have e9 : (q, (Sum.inl (cT ty, a0) : va_E)) = (q, aw_ce cT ad (.inl (ty, a0))) := by
    show _ = (q, Sum.inl (cT ty, aw_ca ad a0))
    rw [hca]
  rw [e9] at hP hD
  have hK := K l D cT p e s m args below meth c ad0 (va_up ad k q) A H1 locs ls hC (fun i hi => by simp only [va_up, Nat.ne_of_lt (Nat.lt_of_lt_of_le hi hk), if_false]; exact ha i hi) (Nat.le_succ_of_le hk) hS1 (aw_Wo_push (e := .inl (ty, a0)) hw2 (hoa k) hP hD) (aw_push_Lv hl) (aw_ok_cons (Nat.lt_succ_self k) (fun v hv => aw_ok_le (aw_ok_tail hs v hv) (Nat.le_succ _)))
  rw [List.map_cons, aw_push_cv (aw_ok_tail hs)] at hK
  have e2 : aw_cv (va_up ad k q) (.ref k) = .ref q := by simp [aw_cv, va_up]
  rw [e2] at hK
  exact hK
end Rows3
