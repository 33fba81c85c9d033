/-! AW: calls -/
/-- the callee's start, out of the caller's world -/
theorem aw_free {D : va_G} {cT : FieldType → ClassId} {A : Nat → Prop} {ad : Nat → Nat} {h : Hp} {k : Nat} {H H0 : Heap} {U : State} {locs : List Loc} (hw : aw_Wo D cT A ad h k H U) (hS : va_S A H0 H locs) (hA : ∀ q, H0.size ≤ q → A q) : ∀ q, va_A (aw_ws cT ad h k) H.size q → A q := by
  intro q hq
  rcases hq with ⟨j, e, hj⟩ | hq
  · exact hw.2.1.2 j _ hj
  · exact hA q (Nat.le_trans hS.1 hq)
def aw_Pc (D : va_G) (cT : FieldType → ClassId) (ad : Nat → Nat) (as : List Value) (h : Hp) (k sz : Nat) : Array Value → State → Prop :=
  va_Pc (as.map (aw_cv ad)) (fun U => U.heap.size = sz ∧ (∀ v ∈ as, aw_ok k v) ∧ aw_Wo D cT (va_A (aw_ws cT ad h k) sz) ad h k U.heap U ∧ aw_GF (va_A (aw_ws cT ad h k) sz) U)
theorem aw_blind {D : va_G} {cT : FieldType → ClassId} {ad : Nat → Nat} {as : List Value} {h : Hp} {k sz : Nat} : FrameBlind (aw_Pc D cT ad as h k sz) := by
  intro a U g mk q
  obtain ⟨q0, q1, q2, q3, q4⟩ := q
  exact ⟨q0, q1, q2, ⟨q3.1, q3.2.1, va_K.moved (u := U) (U := U.calling g mk a) (Vm.Alike.refl U.vm) q3.2.2.1, q3.2.2.2⟩, aw_GF.moved (s := U) (U := U.calling g mk a) q4 (State.WarmedH.refl U) (fun _ _ _ => rfl) (fun _ z => z)⟩
theorem aw_pre {D : va_G} {cT : FieldType → ClassId} {A : Nat → Prop} {ad : Nat → Nat} {as : List Value} {h : Hp} {k : Nat} {H : Heap} {s : State} {locs : List Loc} (hw : aw_Wo D cT A ad h k H s) (hS : va_S A s.heap H locs) (hA : ∀ q, s.heap.size ≤ q → A q) (hg : aw_GF A s) (hok : ∀ v ∈ as, aw_ok k v) :
    ∀ U : State, U.heap = H → s.WarmedH U.vm → aw_Pc D cT ad as h k H.size (as.map (aw_cv ad)).toArray U := by
  intro U hU hW
  subst hU
  exact ⟨rfl, rfl, hok, ⟨hw.1, hw.2.1.self, hw.2.2.1.moved hW.alike, hw.2.2.2⟩, hg.moved hW (fun a h1 h2 => hS.2.1 a h1 h2) (aw_free hw hS hA)⟩
/-- behind the callee: the world is the caller's again -/
theorem aw_back {D : va_G} {cT : FieldType → ClassId} {A A1 : Nat → Prop} {ad : Nat → Nat} {h : Hp} {k : Nat} {H : Heap} {s t : State} (hw : aw_Wo D cT A1 ad h k H t) (hvm : s.vm.Alike t.vm) (hA : ∀ q, A1 q → A q) : aw_Wo D cT A ad h k H s :=
  ⟨hw.1, hw.2.1.weaken (fun _ _ _ z => hA _ z), hw.2.2.1.moved hvm.symm, hw.2.2.2⟩
theorem aw_Lv_to {nL : Nat} {ad ad' : Nat → Nat} {k k' : Nat} {ls : Array Slot} {L : List Value} (hl : aw_Lv nL ad k ls L) (e : ∀ i, i < k → ad' i = ad i) (hk : k ≤ k') : aw_Lv nL ad' k' ls L :=
  ⟨hl.1, hl.2.1, fun i v h1 h2 => ⟨by rw [aw_cv_congr (ad := ad) (hl.2.2 i v h1 h2).2 e]; exact (hl.2.2 i v h1 h2).1, aw_ok_le (hl.2.2 i v h1 h2).2 hk⟩⟩
theorem aw_map_to {ad ad' : Nat → Nat} {k : Nat} {S : List Value} (hs : ∀ v ∈ S, aw_ok k v) (e : ∀ i, i < k → ad' i = ad i) : S.map (aw_cv ad') = S.map (aw_cv ad) := List.map_congr_left fun v hv => aw_cv_congr (hs v hv) e
section Rows4
variable {Z : Gz} {μ : Mt} {d k0 mc ms : Nat} {Q : Po} {pc : Nat} {L S : List Value} {h : Hp} {k cs ss : Nat}
/-- at pc, with an exception of the class E thrown -/
def AX (Z : Gz) (μ : Mt) (d k0 mc ms : Nat) (Q : Po) (E : String) (pc : Nat) (L : List Value) (h : Hp) (k cs ss : Nat) : Prop :=
  ∀ (l : Launch) (D : va_G) (cT : FieldType → ClassId) (p : Program) (e : Env) (s : State) (m : MethodId) (args : Array Value) (below : List Frame) (meth : Method) (c : Code) (ad0 ad : Nat → Nat) (A : Nat → Prop) (H : Heap) (locs : List Loc) (ls : Array Slot) (q : Nat) (ce : Cell) (st : List Value),
    aw_Cx Z μ l p s m args meth c ad0 A → (∀ i, i < k0 → ad i = ad0 i) → k0 ≤ k → va_S A s.heap H locs → aw_Wo D cT A ad h k H s → aw_Lv μ.2.2.1 ad k ls L → H[q]? = some ce → ce.vm = .none → s.vm.findClass E = some ce.cls →
    vx_W p l e (aw_R d mc ms) s m args below meth c H locs cs ss (vx_MQ below (aw_Qc D cT A ad0 k0 Q) (aw_Xc D cT A ad0 k0 Q) args s mc ms A) (F0 m pc ls st) q
theorem AX.out {E : String} (hh : μ.2.2.2.2 = []) (hc : cs ≤ mc) (hs2 : ss ≤ ms) (q : Q (.inr E) h k) : AX Z μ d k0 mc ms Q E pc L h k cs ss := by
  intro l D cT p e s m args below meth c ad0 ad A H locs ls q9 ce st hC ha hk hS hw hl hq hv hcl
  obtain ⟨h1, hx, hb, h4, h5, h6, h7, h8, h9, h10, h11, h12⟩ := hC
  refine vx_out (fun x hx => ?_) h6 hq hv hcl (fun t ht hvm => ⟨⟨h, k, ad, q, ha, hk, ?_⟩, hS.F ht⟩) hS.2.2 hc hs2
  · rw [h9, hh] at hx; cases hx
  · rw [ht]; exact ⟨hw.1, hw.2.1, hw.2.2.1.moved hvm, hw.2.2.2⟩
theorem AX.catch_n {E name : String} {x : Nat × Nat × Nat × Nat} {pre suf : List (Nat × Nat × Nat × Nat)} {n : Fin 4} {i : Nat} {L' : List Value} (hh : μ.2.2.2.2 = pre ++ x :: suf) (hE : E ∈ aw_exc)
    (hpre : ∀ z ∈ pre, z.2.2.2 ≠ 0 ∧ ∃ nm ∈ aw_exc, nm ≠ E ∧ Cond.classLink μ.1.cls z.2.2.2 nm ∈ lw_tbl) (h1 : x.1 ≤ pc) (h2 : pc < x.2.1) (h3 : x.2.2.2 ≠ 0) (hlink : Cond.classLink μ.1.cls x.2.2.2 name ∈ lw_tbl) (hcast : Cond.castable E name ∈ lw_tbl)
    (hd : decode μ.2.1 x.2.2.1 = .ok (.astore_n n, 1)) (hi : (n : Nat) = i) (hn : i < μ.2.2.1) (hlow : aw_low L i = true) (hL : L.set i .null = L')
    (K : AW Z μ d k0 mc ms Q (x.2.2.1 + 1) L' [] h k cs ss) : AX Z μ d k0 mc ms Q E pc L h k cs ss := by
  intro l D cT p e s m args below meth c ad0 ad A H locs ls q9 ce st hC ha hk hS hw hl hq hv hcl
  have hg := hC.2.2.2.2.2.2.2.2.2.1
  have hown := hC.2.2.2.2.2.2.2.1
  refine vx_catch (own := μ.1.cls) (name := name) (E := E) (ce := ce) hown (tableOf pre) ⟨x.1, x.2.1, x.2.2.1, x.2.2.2⟩ (tableOf suf) ?_ (fun z hz => ?_) ?_ h3 (aw_hts hg hlink rfl) (aw_hts hg hcast rfl) hq hv hcl ?_
  · rw [hC.2.2.2.2.2.2.2.2.1, hh]
    simp [tableOf]
  · obtain ⟨y, hy, rfl⟩ := List.mem_map.mp hz
    obtain ⟨g1, nm, g2, g3, g4⟩ := hpre y hy
    exact Or.inr ⟨g1, nm, aw_hts hg g4 rfl, hg.2.2.1 E hE nm g2 (Ne.symm g3)⟩
  · simp [covers, h1, h2]
  · refine lv_astore_n (nL := μ.2.2.1) (lv := aw_pairs ad L) hC.2.1 hC.2.2.1 hd hi hl.has hn rfl (fun ls' h' => ?_)
    refine K l D cT p e s m args below meth c ad0 ad A H locs ls' hC ha hk hS hw ?_ (fun v hv => nomatch hv)
    subst hL
    have h'' : lv_has ls' μ.2.2.1 ((i, aw_cv (fun _ => q9) (.ref 0)) :: (aw_pairs ad L).filter (fun q => !(q.1 == i) && !(q.1 + 1 == i && q.2.category == 2))) := h'
    refine ⟨h'.1, h'.2.1, fun j w hj hw' => ?_⟩
    by_cases hji : j = i
    · subst hji
      rw [List.getElem?_set_self (by
        have := (List.getElem?_eq_some_iff.mp hj).1
        rwa [List.length_set] at this)] at hj
      cases hj
      exact absurd rfl hw'
    · rw [List.getElem?_set_ne (Ne.symm hji)] at hj
      refine ⟨h'.2.2 (j, aw_cv ad w) (List.mem_cons_of_mem _ (List.mem_filter.mpr ⟨aw_pairs_in hj hw', ?_⟩)), (hl.2.2 j w hj hw').2⟩
      have e1 : (j == i) = false := by simp [hji]
      have e2 : (j + 1 == i && (aw_cv ad w).category == 2) = false := by
        by_cases e : j + 1 = i
        · subst e
          simp only [aw_low, hj] at hlow
          rw [aw_cat]
          have : w.category = 1 := by simpa using hlow
          simp [this]
        · simp [e]
      simp [e1, e2]
/-- a call that has run, consumed -/
theorem aw_run {l : Launch} {D : va_G} {cT : FieldType → ClassId} {p : Program} {e : Env} {s : State} {m : MethodId} {args : Array Value} {below : List Frame} {meth : Method} {c : Code} {ad0 ad : Nat → Nat} {A : Nat → Prop} {H : Heap} {locs : List Loc} {ls : Array Slot} {a : Array Value} {S' st0 : List Value} {mc' ms' : Nat} {R : Po}
    (hr : vx_Run p l e (aw_R d mc ms) s m args below meth c H locs cs ss mc' ms' (F0 m pc ls st0) (S'.map (aw_cv ad)) (aw_Qc D cT (va_A (aw_ws cT ad h k) H.size) ad k R a) (aw_Xc D cT (va_A (aw_ws cT ad h k) H.size) ad k R) (va_A (aw_ws cT ad h k) H.size))
    (hC : aw_Cx Z μ l p s m args meth c ad0 A) (ha : ∀ i, i < k0 → ad i = ad0 i) (hk : k0 ≤ k) (hS : va_S A s.heap H locs) (hw : aw_Wo D cT A ad h k H s) (hl : aw_Lv μ.2.2.1 ad k ls L) (hs : ∀ v ∈ S', aw_ok k v)
    (K : ∀ (v : Option Value) (h' : Hp) (k' : Nat), R (.inl v) h' k' → AW Z μ d k0 mc ms Q (pc + 3) L (v.toList ++ S') h' k' (cs + mc') (ss + ms'))
    (KX : ∀ (E : String) (h' : Hp) (k' : Nat), R (.inr E) h' k' → AX Z μ d k0 mc ms Q E pc L h' k' (cs + mc') (ss + ms')) :
    W p l e (aw_R d mc ms) s m args below meth c H locs cs ss (vx_MQ below (aw_Qc D cT A ad0 k0 Q) (aw_Xc D cT A ad0 k0 Q) args s mc ms A) (F0 m pc ls st0) := by
  have hF := aw_free hw hS hC.2.2.2.2.2.2.2.2.2.2.1
  intro T hT X
  rcases hr T hT X with ⟨v, st₀, t, T', Lc, h0, X', hL, e1, e2, ⟨⟨v', h', k', ad', ev, hR, g1, g2, g3, g4⟩, hFr⟩, st⟩ | ⟨q, st₀, t, T', Lc, E, ce, h0, X', hL, e1, e2, ⟨⟨h', k', ad', hR, g1, g2, g4⟩, hFr⟩, hce, hcv, hcl, st⟩
  · cases ev
    obtain ⟨k1, k2, k3⟩ := vx_keep h0 e1 hS (fun q _ z => hF q z) hF hL hFr
    rw [← e1] at g4
    have hvm : s.vm.Alike t.vm := by rw [← e2]; exact X'.warmed.alike
    have hW := K v' h' k' hR l D cT p e s m args below meth c ad0 ad' A T'.heap (locs ++ Lc) ls hC (fun i hi => (g1 i (Nat.lt_of_lt_of_le hi hk)).trans (ha i hi)) (Nat.le_trans hk g2) k3 (aw_back g4 hvm hF) (aw_Lv_to hl g1 g2) (fun w hw9 => by
      rcases List.mem_append.mp hw9 with z | z
      · exact g3 w (Option.mem_toList.mp z)
      · exact aw_ok_le (hs w z) g2)
    rw [List.map_append, aw_map_to hs g1] at hW
    have e5 : v'.toList.map (aw_cv ad') = (v'.map (aw_cv ad')).toList := by cases v' <;> rfl
    rw [e5] at hW
    obtain ⟨t2, a1, b1⟩ := hW T' rfl X'
    exact ⟨t2, st t2 a1, b1⟩
  · obtain ⟨k1, k2, k3⟩ := vx_keep h0 e1 hS (fun q _ z => hF q z) hF hL hFr
    rw [← e1] at g4
    have hvm : s.vm.Alike t.vm := by rw [← e2]; exact X'.warmed.alike
    obtain ⟨t2, a1, b1⟩ := KX E h' k' hR l D cT p e s m args below meth c ad0 ad' A T'.heap (locs ++ Lc) ls q ce (S'.map (aw_cv ad)) hC (fun i hi => (g1 i (Nat.lt_of_lt_of_le hi hk)).trans (ha i hi)) (Nat.le_trans hk g2) k3 (aw_back g4 hvm hF) (aw_Lv_to hl g1 g2) (by rw [e1]; exact hce) hcv hcl T' rfl X'
    exact ⟨t2, st.trans a1, b1⟩
/-- what the tables say of a method that is called: no handlers, its code, its class, so many parameters -/
def aw_mok (μ' : Mt) (n : Nat) : Prop := μ'.2.2.2.2 = [] ∧ aw_cw μ' ∈ lw_tbl ∧ Cond.initialized μ'.1.cls ∈ lw_tbl ∧ (μ'.1.cls ≠ "java/lang/invoke/MethodHandle" ∧ μ'.1.cls ≠ "java/lang/invoke/VarHandle") ∧ (parseMethodDescriptor μ'.1.desc).map (fun d => d.parameters.length) = some n ∧ μ'.2.2.1 ≤ 22
theorem aw_callB {μ' : Mt} {d' n index mc' ms' : Nat} {s : State} {args : Array Value} {A : Nat → Prop} (hm : aw_mok μ' n) (hg : aw_GF A s) (hd : d' + 1 ≤ d) (hlink : (Cond.methodLink μ.1.cls index μ'.1).before args s = true) :
    CallB (aw_R d mc ms) s args μ.1.cls index μ'.1 μ'.2.1 μ'.2.2.1 μ'.2.2.2.1 [aw_cw μ'] (aw_R d' mc' ms') mc' ms' n := by
  obtain ⟨m1, m2, m3, m4, m5, m6⟩ := hm
  have hcw : aw_cw μ' = .code μ'.1 μ'.2.1 μ'.2.2.1 μ'.2.2.2.1 := by unfold aw_cw; rw [m1]
  refine ⟨rfl, rfl, ?_, ?_, fun w hw a' U hW => ?_, ?_, ?_, aw_hts hg m3 rfl, m4, fun sig h => ?_, hlink⟩
  · show d' + 20 + 1 ≤ d + 20; omega
  · show 8 + (μ'.2.2.1 + 11) + (41 * d' + 852) ≤ 41 * d + 852; omega
  · rw [List.mem_singleton] at hw
    rw [hw]
    exact aw_stable (by rw [hcw]; rfl) hW (hg.1 _ m2 (by rw [hcw]; rfl))
  · rw [hcw]; exact List.mem_singleton.mpr rfl
  · rw [← hcw]; exact aw_hts hg m2 (by rw [hcw]; rfl)
  · rw [h] at m5; exact (Option.some.inj m5).symm
theorem aw_stW {S' : List Value} {ad : Nat → Nat} {m : MethodId} {ls : Array Slot} {st0 : List Value} (h : (S'.map fun v => v.category).sum ≤ 8) : 2 * (F0 m pc ls st0).monitorRoom + ((S'.map (aw_cv ad)).map fun v => v.category).sum ≤ 8 := by
  have e : ((S'.map (aw_cv ad)).map fun v => v.category) = S'.map fun v => v.category := by
    rw [List.map_map]
    exact List.map_congr_left fun v _ => aw_cat ad v
  rw [e]
  exact lv_room h
theorem aw_rev {as S' : List Value} {ad : Nat → Nat} (hS : S = as.reverse ++ S') : S.map (aw_cv ad) = (as.map (aw_cv ad)).reverse ++ S'.map (aw_cv ad) := by
  rw [hS, List.map_append, List.map_reverse]
theorem AW.callS {μ' : Mt} {d' mc' ms' index n : Nat} {as S' : List Value} {R : Po} (hd : decode μ.2.1 pc = .ok (.invokestatic index, 3)) (hM : AM μ' d' as h k mc' ms' R) (hm : aw_mok μ' n) (hst : Cond.static μ'.1 ∈ lw_tbl) (hlink : Cond.methodLink μ.1.cls index μ'.1 ∈ lw_tbl) (hn : as.length = n) (hd' : d' + 1 ≤ d) (hS2 : S = as.reverse ++ S') (hcat : (S'.map fun v => v.category).sum ≤ 8) (hcs : cs + mc' ≤ mc) (hss : ss + ms' ≤ ms)
    (K : ∀ (v : Option Value) (h' : Hp) (k' : Nat), R (.inl v) h' k' → AW Z μ d k0 mc ms Q (pc + 3) L (v.toList ++ S') h' k' (cs + mc') (ss + ms'))
    (KX : ∀ (E : String) (h' : Hp) (k' : Nat), R (.inr E) h' k' → AX Z μ d k0 mc ms Q E pc L h' k' (cs + mc') (ss + ms')) : AW Z μ d k0 mc ms Q pc L S h k cs ss := by
  intro l D cT p e s m args below meth c ad0 ad A H locs ls hC ha hk hS hw hl hs
  have hg := hC.2.2.2.2.2.2.2.2.2.1
  have hok : ∀ v ∈ as, aw_ok k v := fun v hv => hs v (by rw [hS2]; exact List.mem_append_left _ (List.mem_reverse.mpr hv))
  have hok2 : ∀ v ∈ S', aw_ok k v := fun v hv => hs v (by rw [hS2]; exact List.mem_append_right _ hv)
  have hr := vx_runS (e := e) (below := below) (meth := meth) (As := as.map (aw_cv ad)) (rest := S'.map (aw_cv ad)) (Ts := []) (locs := locs) (cells := cs) (slots := ss) (g := F0 m pc ls (S.map (aw_cv ad))) (nL := μ.2.2.1) ⟨hC.2.1, hC.2.2.1, hC.2.2.2.1, hC.2.2.2.2.2.2.2.1, fun w h => nomatch h⟩ (hM l D cT ad H.size hC.1) ⟨aw_callB (μ := μ) (d := d) (mc := mc) (ms := ms) (d' := d') (mc' := mc') (ms' := ms') hm hg hd' (aw_hts hg hlink rfl), aw_hts (args := args) hg hst rfl⟩ ⟨aw_blind, aw_pre hw hS hC.2.2.2.2.2.2.2.2.2.2.1 hg hok⟩
    rfl (by rw [List.length_map]; exact hn) hl.1 (aw_rev hS2) (aw_stW hcat) hd ⟨hcs, hss⟩
  exact aw_run hr hC ha hk hS hw hl hok2 K KX
theorem AW.callV {μ' : Mt} {d' mc' ms' index n i ci : Nat} {q : vw_C} {fs as S' : List Value} {R : Po} (hd : decode μ.2.1 pc = .ok (.invokevirtual index, 3)) (hM : AM μ' d' (.ref i :: as) h k mc' ms' R) (hm : aw_mok μ' n) (hin : Cond.instanceMethod μ'.1 ∈ lw_tbl) (hsel : Cond.selects μ'.1.cls μ'.1 μ'.1 ∈ lw_tbl) (hlink : Cond.methodLink μ.1.cls index μ'.1 ∈ lw_tbl)
    (h0 : 0 < i) (hh : h i = .inr (ci, fs)) (hc : aw_cl[ci]? = some q) (hq : q.1 = μ'.1.cls) (hn : as.length = n) (hd' : d' + 1 ≤ d) (hS2 : S = as.reverse ++ .ref i :: S') (hcat : (S'.map fun v => v.category).sum ≤ 8) (hcs : cs + mc' ≤ mc) (hss : ss + ms' ≤ ms)
    (K : ∀ (v : Option Value) (h' : Hp) (k' : Nat), R (.inl v) h' k' → AW Z μ d k0 mc ms Q (pc + 3) L (v.toList ++ S') h' k' (cs + mc') (ss + ms'))
    (KX : ∀ (E : String) (h' : Hp) (k' : Nat), R (.inr E) h' k' → AX Z μ d k0 mc ms Q E pc L h' k' (cs + mc') (ss + ms')) : AW Z μ d k0 mc ms Q pc L S h k cs ss := by
  intro l D cT p e s m args below meth c ad0 ad A H locs ls hC ha hk hS hw hl hs
  have hg := hC.2.2.2.2.2.2.2.2.2.1
  have hik : i < k := hs (.ref i) (by rw [hS2]; exact List.mem_append_right _ List.mem_cons_self)
  have hok : ∀ v ∈ Value.ref i :: as, aw_ok k v := fun v hv => by
    rcases List.mem_cons.mp hv with rfl | hv
    · exact hik
    · exact hs v (by rw [hS2]; exact List.mem_append_left _ (List.mem_reverse.mpr hv))
  have hok2 : ∀ v ∈ S', aw_ok k v := fun v hv => hs v (by rw [hS2]; exact List.mem_append_right _ (List.mem_cons_of_mem _ hv))
  have hr := vx_runV (e := e) (below := below) (meth := meth) (As := as.map (aw_cv ad)) (rest := S'.map (aw_cv ad)) (b := ad i) (C := μ'.1.cls) (Ts := []) (locs := locs) (cells := cs) (slots := ss) (g := F0 m pc ls (S.map (aw_cv ad))) (nL := μ.2.2.1) ⟨hC.2.1, hC.2.2.1, hC.2.2.2.1, hC.2.2.2.2.2.2.2.1, fun w h => nomatch h⟩ (hM l D cT ad H.size hC.1) ⟨aw_callB (μ := μ) (d := d) (mc := mc) (ms := ms) (d' := d') (mc' := mc') (ms' := ms') hm hg hd' (aw_hts hg hlink rfl), aw_hts (args := args) hg hin rfl, aw_hts hg hsel rfl⟩
    ⟨aw_blind, by rw [← hq]; exact va_recv hw.2.2.1 hw.1 hc (aw_at_obj h0 hik hh), aw_pre hw hS hC.2.2.2.2.2.2.2.2.2.2.1 hg hok⟩
    rfl (by rw [List.length_map]; exact hn) hl.1 (by show S.map _ = _; rw [hS2, List.map_append, List.map_reverse]; rfl) (aw_stW hcat) hd ⟨hcs, hss⟩
  exact aw_run hr hC ha hk hS hw hl hok2 K KX
/-- a callee that never throws -/
theorem aw_met {l : Launch} {y : MethodName} {ws : List Cond} {rm : Room} {Pc : Array Value → State → Prop} {Qc : Array Value → State → Outcome → State → Prop} {XC : String → State → State → Prop} {mc ms : Nat} {free : Addr → Prop} (hM : vx_Met l y ws rm Pc Qc XC mc ms free) (hX : ∀ E st t, ¬ XC E st t) : Met l y ws rm Pc Qc mc ms free := by
  intro p e ha hc hk s m args below hf happ hP hK
  obtain ⟨n, o, h1, h2, h3, h4⟩ := hM p e ha hc hk s m args below hf happ hP hK
  rcases h4 with h4 | ⟨q, rfl, E, ce, L, hx, -⟩
  · exact ⟨n, o, h1, h2, h3, h4⟩
  · exact absurd hx (hX _ _ _)
theorem aw_unrun {l : Launch} {p : Program} {e : Env} {R : Room} {s : State} {m : MethodId} {args : Array Value} {below : List Frame} {meth : Method} {c : Code} {H : Heap} {locs : List Loc} {cells slots mc ms : Nat} {g : JFrame} {rest : List Value} {Qa : State → Outcome → State → Prop} {XC : String → State → State → Prop} {free : Addr → Prop}
    (hr : va_Run p l e R s m args below meth c H locs cells slots mc ms g rest Qa free) : vx_Run p l e R s m args below meth c H locs cells slots mc ms g rest Qa XC free := fun T hT X => Or.inl (hr T hT X)
theorem AW.callI {μ' : Mt} {d' mc' ms' index n i : Nat} {as S' : List Value} {R : Po} (hd : decode μ.2.1 pc = .ok (.invokespecial index, 3)) (hM : AM μ' d' (.ref i :: as) h k mc' ms' R) (hm : aw_mok μ' n) (hin : Cond.instanceMethod μ'.1 ∈ lw_tbl) (hnm : μ'.1.name = "<init>") (hret : μ'.2.2.2.1 = none) (hlink : Cond.methodLink μ.1.cls index μ'.1 ∈ lw_tbl)
    (hn : as.length = n) (hd' : d' + 1 ≤ d) (hS2 : S = as.reverse ++ .ref i :: S') (hcat : (S'.map fun v => v.category).sum ≤ 8) (hcs : cs + mc' ≤ mc) (hss : ss + ms' ≤ ms) (hX : ∀ E h' k', ¬ R (.inr E) h' k')
    (K : ∀ (v : Option Value) (h' : Hp) (k' : Nat), R (.inl v) h' k' → AW Z μ d k0 mc ms Q (pc + 3) L (v.toList ++ S') h' k' (cs + mc') (ss + ms')) : AW Z μ d k0 mc ms Q pc L S h k cs ss := by
  intro l D cT p e s m args below meth c ad0 ad A H locs ls hC ha hk hS hw hl hs
  have hg := hC.2.2.2.2.2.2.2.2.2.1
  have hik : i < k := hs (.ref i) (by rw [hS2]; exact List.mem_append_right _ List.mem_cons_self)
  have hok : ∀ v ∈ Value.ref i :: as, aw_ok k v := fun v hv => by
    rcases List.mem_cons.mp hv with rfl | hv
    · exact hik
    · exact hs v (by rw [hS2]; exact List.mem_append_left _ (List.mem_reverse.mpr hv))
  have hok2 : ∀ v ∈ S', aw_ok k v := fun v hv => hs v (by rw [hS2]; exact List.mem_append_right _ (List.mem_cons_of_mem _ hv))
  have hMM := aw_met (hM l D cT ad H.size hC.1) (fun E st t hx => by obtain ⟨⟨h', k', ad', hx, -⟩, -⟩ := hx; exact hX _ _ _ hx)
  have hcb := aw_callB (μ := μ) (d := d) (mc := mc) (ms := ms) (d' := d') (mc' := mc') (ms' := ms') hm hg hd' (aw_hts (args := args) hg hlink rfl)
  rw [hret] at hcb
  have hr := va_runI (e := e) (below := below) (meth := meth) (As := as.map (aw_cv ad)) (rest := S'.map (aw_cv ad)) (b := ad i) (Ts := []) (locs := locs) (cells := cs) (slots := ss) (g := F0 m pc ls (S.map (aw_cv ad))) (nL := μ.2.2.1) ⟨hC.2.1, hC.2.2.1, hC.2.2.2.1, hC.2.2.2.2.2.2.2.1, fun w h => nomatch h⟩ hMM ⟨hcb, hnm, aw_hts hg hin rfl⟩
    ⟨aw_blind, aw_pre hw hS hC.2.2.2.2.2.2.2.2.2.2.1 hg hok⟩
    rfl (by rw [List.length_map]; exact hn) hl.1 (by show S.map _ = _; rw [hS2, List.map_append, List.map_reverse]; rfl) (aw_stW hcat) hd ⟨hcs, hss⟩
  exact aw_run (aw_unrun hr) hC ha hk hS hw hl hok2 K (fun E h' k' hx => absurd hx (hX _ _ _))
end Rows4
