/-! AW: methods with handlers, nest mates, throws, Object.<init>, System.arraycopy -/
set_option maxHeartbeats 4000000 in
theorem AM.introH {μ : Mt} {d n : Nat} {as L : List Value} {h : Hp} {k mc ms : Nat} {Q : Po} (hy : plainName μ.1.cls = true) (hcw : aw_cw μ = .codeWith μ.1 μ.2.1 μ.2.2.1 μ.2.2.2.1 μ.2.2.2.2) (hn : (aw_loc as).length + n = μ.2.2.1) (hL : aw_loc as ++ List.replicate n .null = L)
    (K : AW aw_Z0 μ d k mc ms Q 0 L [] h k 0 0) : AM μ d as h k mc ms Q := by
  intro l D cT ad sz hl
  refine vx_ofWH (cc := μ.2.1) (maxL := μ.2.2.1) (ret := μ.2.2.2.1) (hh := μ.2.2.2.2) (ws' := []) hy (by rw [hcw]) ?_
  intro p e s m args below meth c s₁ B hml hv
  obtain ⟨rfl, hsz, hok, hw, hg⟩ := hv
  subst hsz
  have hnm := (name_of_methodNamed B.named B.method).1
  have htb := vx_table (x := μ.1) B (atoms_spec (ws := [aw_cw μ]) B.pre (.codeWith μ.1 μ.2.1 μ.2.2.1 μ.2.2.2.1 μ.2.2.2.2) (by rw [hcw]; exact List.mem_cons_self))
  rw [lg_entry_eq]
  exact K l D cT p e s m _ below meth c ad ad _ s.heap [] _ ⟨hl, B.exec, B.bytes, hml, B.returns, B.notSynchronized, hnm, findClass_of_methodNamed B.named, htb, hg, fun q hq => Or.inr hq, trivial⟩ (fun _ _ => rfl) (Nat.le_refl _) va_S.rf hw (aw_entry hn hL hok) (fun v hv => nomatch hv)
section Rows5
variable {Z : Gz} {μ : Mt} {d k0 mc ms : Nat} {Q : Po} {pc : Nat} {L S : List Value} {h : Hp} {k cs ss : Nat}
def aw_mokH (μ' : Mt) (n : Nat) : Prop := aw_cw μ' = .codeWith μ'.1 μ'.2.1 μ'.2.2.1 μ'.2.2.2.1 μ'.2.2.2.2 ∧ aw_cw μ' ∈ lw_tbl ∧ Cond.initialized μ'.1.cls ∈ lw_tbl ∧ (μ'.1.cls ≠ "java/lang/invoke/MethodHandle" ∧ μ'.1.cls ≠ "java/lang/invoke/VarHandle") ∧ (parseMethodDescriptor μ'.1.desc).map (fun d => d.parameters.length) = some n ∧ μ'.2.2.1 ≤ 22
theorem AW.callSH {μ' : Mt} {d' mc' ms' index n : Nat} {as S' : List Value} {R : Po} (hd : decode μ.2.1 pc = .ok (.invokestatic index, 3)) (hM : AM μ' d' as h k mc' ms' R) (hm : aw_mokH μ' n) (hst : Cond.static μ'.1 ∈ lw_tbl) (hlink : Cond.methodLink μ.1.cls index μ'.1 ∈ lw_tbl) (hn : as.length = n) (hd' : d' + 1 ≤ d) (hS2 : S = as.reverse ++ S') (hcat : (S'.map fun v => v.category).sum ≤ 8) (hcs : cs + mc' ≤ mc) (hss : ss + ms' ≤ ms)
    (K : ∀ (v : Option Value) (h' : Hp) (k' : Nat), R (.inl v) h' k' → AW Z μ d k0 mc ms Q (pc + 3) L (v.toList ++ S') h' k' (cs + mc') (ss + ms'))
    (KX : ∀ (E : String) (h' : Hp) (k' : Nat), R (.inr E) h' k' → AX Z μ d k0 mc ms Q E pc L h' k' (cs + mc') (ss + ms')) : AW Z μ d k0 mc ms Q pc L S h k cs ss := by
  intro l D cT p e s m args below meth c ad0 ad A H locs ls hC ha hk hS hw hl hs
  have hg := hC.2.2.2.2.2.2.2.2.2.1
  have hok : ∀ v ∈ as, aw_ok k v := fun v hv => hs v (by rw [hS2]; exact List.mem_append_left _ (List.mem_reverse.mpr hv))
  have hok2 : ∀ v ∈ S', aw_ok k v := fun v hv => hs v (by rw [hS2]; exact List.mem_append_right _ hv)
  obtain ⟨m1, m2, m3, m4, m5, m6⟩ := hm
  have hcw : vx_CSW (aw_R d mc ms) s args μ.1.cls index μ'.1 μ'.2.1 μ'.2.2.1 μ'.2.2.2.1 μ'.2.2.2.2 [aw_cw μ'] (aw_R d' mc' ms') mc' ms' n := by
    refine ⟨⟨rfl, rfl, ?_, ?_, fun w hw a' U hW => ?_, ?_⟩, ?_, aw_hts hg m3 rfl, m4, fun sig h => ?_, aw_hts hg hlink rfl, aw_hts hg hst rfl⟩
    · show d' + 20 + 1 ≤ d + 20; omega
    · show 8 + (μ'.2.2.1 + 11) + (41 * d' + 852) ≤ 41 * d + 852; omega
    · rw [List.mem_singleton] at hw
      rw [hw]
      exact aw_stable (by rw [m1]; rfl) hW (hg.1 _ m2 (by rw [m1]; rfl))
    · rw [m1]; exact List.mem_singleton.mpr rfl
    · rw [← m1]; exact aw_hts hg m2 (by rw [m1]; rfl)
    · rw [h] at m5; exact (Option.some.inj m5).symm
  have hr := vx_runSX (e := e) (below := below) (meth := meth) (As := as.map (aw_cv ad)) (rest := S'.map (aw_cv ad)) (Ts := []) (locs := locs) (cells := cs) (slots := ss) (g := F0 m pc ls (S.map (aw_cv ad))) (nL := μ.2.2.1) ⟨hC.2.1, hC.2.2.1, hC.2.2.2.1, hC.2.2.2.2.2.2.2.1, fun w h => nomatch h⟩ (hM l D cT ad H.size hC.1) hcw ⟨aw_blind, aw_pre hw hS hC.2.2.2.2.2.2.2.2.2.2.1 hg hok⟩
    rfl (by rw [List.length_map]; exact hn) hl.1 (aw_rev hS2) (aw_stW hcat) hd ⟨hcs, hss⟩
  exact aw_run hr hC ha hk hS hw hl hok2 K KX
theorem aw_callN {μ' : Mt} {d' n index mc' ms' : Nat} {host : String} {s : State} {args : Array Value} {A : Nat → Prop} (hm : aw_mok μ' n) (hg : aw_GF A s) (hd : d' + 1 ≤ d) (hlink : (Cond.methodLinkNest μ.1.cls index μ'.1 host).before args s = true) :
    va_CN (aw_R d mc ms) s args μ.1.cls index μ'.1 host μ'.2.1 μ'.2.2.1 μ'.2.2.2.1 [aw_cw μ'] (aw_R d' mc' ms') mc' ms' n := by
  obtain ⟨m1, m2, m3, m4, m5, m6⟩ := hm
  have hcw : aw_cw μ' = .code μ'.1 μ'.2.1 μ'.2.2.1 μ'.2.2.2.1 := by unfold aw_cw; rw [m1]
  refine ⟨⟨rfl, rfl, ?_, ?_, fun w hw a' U hW => ?_, ?_⟩, ?_, aw_hts hg m3 rfl, m4, fun sig h => ?_, hlink⟩
  · show d' + 20 + 1 ≤ d + 20; omega
  · show 8 + (μ'.2.2.1 + 11) + (41 * d' + 852) ≤ 41 * d + 852; omega
  · rw [List.mem_singleton] at hw
    rw [hw]
    exact aw_stable (by rw [hcw]; rfl) hW (hg.1 _ m2 (by rw [hcw]; rfl))
  · rw [hcw]; exact List.mem_singleton.mpr rfl
  · rw [← hcw]; exact aw_hts hg m2 (by rw [hcw]; rfl)
  · rw [h] at m5; exact (Option.some.inj m5).symm
theorem AW.callSN {μ' : Mt} {d' mc' ms' index n : Nat} {host : String} {as S' : List Value} {R : Po} (hd : decode μ.2.1 pc = .ok (.invokestatic index, 3)) (hM : AM μ' d' as h k mc' ms' R) (hm : aw_mok μ' n) (hst : Cond.static μ'.1 ∈ lw_tbl) (hlink : Cond.methodLinkNest μ.1.cls index μ'.1 host ∈ lw_tbl) (hn : as.length = n) (hd' : d' + 1 ≤ d) (hS2 : S = as.reverse ++ S') (hcat : (S'.map fun v => v.category).sum ≤ 8) (hcs : cs + mc' ≤ mc) (hss : ss + ms' ≤ ms) (hX : ∀ E h' k', ¬ R (.inr E) h' k')
    (K : ∀ (v : Option Value) (h' : Hp) (k' : Nat), R (.inl v) h' k' → AW Z μ d k0 mc ms Q (pc + 3) L (v.toList ++ S') h' k' (cs + mc') (ss + ms')) : AW Z μ d k0 mc ms Q pc L S h k cs ss := by
  intro l D cT p e s m args below meth c ad0 ad A H locs ls hC ha hk hS hw hl hs
  have hg := hC.2.2.2.2.2.2.2.2.2.1
  have hok : ∀ v ∈ as, aw_ok k v := fun v hv => hs v (by rw [hS2]; exact List.mem_append_left _ (List.mem_reverse.mpr hv))
  have hok2 : ∀ v ∈ S', aw_ok k v := fun v hv => hs v (by rw [hS2]; exact List.mem_append_right _ hv)
  have hMM := aw_met (hM l D cT ad H.size hC.1) (fun E st t hx => by obtain ⟨⟨h', k', ad', hx, -⟩, -⟩ := hx; exact hX _ _ _ hx)
  have hr := va_runSN (e := e) (below := below) (meth := meth) (As := as.map (aw_cv ad)) (rest := S'.map (aw_cv ad)) (Ts := []) (locs := locs) (cells := cs) (slots := ss) (g := F0 m pc ls (S.map (aw_cv ad))) (nL := μ.2.2.1) ⟨hC.2.1, hC.2.2.1, hC.2.2.2.1, hC.2.2.2.2.2.2.2.1, fun w h => nomatch h⟩ hMM ⟨aw_callN (μ := μ) (d := d) (mc := mc) (ms := ms) (d' := d') (mc' := mc') (ms' := ms') hm hg hd' (aw_hts (args := args) hg hlink rfl), aw_hts (args := args) hg hst rfl, trivial⟩ ⟨aw_blind, aw_pre hw hS hC.2.2.2.2.2.2.2.2.2.2.1 hg hok⟩
    rfl (by rw [List.length_map]; exact hn) hl.1 (aw_rev hS2) (aw_stW hcat) hd ⟨hcs, hss⟩
  exact aw_run (aw_unrun hr) hC ha hk hS hw hl hok2 K (fun E h' k' hx => absurd hx (hX _ _ _))
theorem AW.callIN {μ' : Mt} {d' mc' ms' index n i : Nat} {host : String} {as S' : List Value} {R : Po} (hd : decode μ.2.1 pc = .ok (.invokespecial index, 3)) (hM : AM μ' d' (.ref i :: as) h k mc' ms' R) (hm : aw_mok μ' n) (hin : Cond.instanceMethod μ'.1 ∈ lw_tbl) (hnm : μ'.1.name = "<init>") (hret : μ'.2.2.2.1 = none) (hlink : Cond.methodLinkNest μ.1.cls index μ'.1 host ∈ lw_tbl)
    (hn : as.length = n) (hd' : d' + 1 ≤ d) (hS2 : S = as.reverse ++ .ref i :: S') (hcat : (S'.map fun v => v.category).sum ≤ 8) (hcs : cs + mc' ≤ mc) (hss : ss + ms' ≤ ms) (hX : ∀ E h' k', ¬ R (.inr E) h' k')
    (K : ∀ (v : Option Value) (h' : Hp) (k' : Nat), R (.inl v) h' k' → AW Z μ d k0 mc ms Q (pc + 3) L (v.toList ++ S') h' k' (cs + mc') (ss + ms')) : AW Z μ d k0 mc ms Q pc L S h k cs ss := by
  intro l D cT p e s m args below meth c ad0 ad A H locs ls hC ha hk hS hw hl hs
  have hg := hC.2.2.2.2.2.2.2.2.2.1
  have hik : i < k := hs (.ref i) (by rw [hS2]; exact List.mem_append_right _ List.mem_cons_self)
  have hok : ∀ v ∈ Value.ref i :: as, aw_ok k v := fun v hv => by
    rcases List.mem_cons.mp hv with rfl | hv
    · exact hik
    · exact hs v (by rw [hS2]; exact List.mem_append_left _ (List.mem_reverse.mpr hv))
  have hok2 : ∀ v ∈ S', aw_ok k v := fun v hv => hs v (by rw [hS2]; exact List.mem_append_right _ (List.mem_cons_of_mem _ hv))
  have hMM := aw_met (hM l D cT ad H.size hC.1) (fun E st t hx => by obtain ⟨⟨h', k', ad', hx, -⟩, -⟩ := hx; exact hX _ _ _ hx)
  have hcb := aw_callN (μ := μ) (d := d) (mc := mc) (ms := ms) (d' := d') (mc' := mc') (ms' := ms') hm hg hd' (aw_hts (args := args) hg hlink rfl)
  rw [hret] at hcb
  have hr := va_runIN (e := e) (below := below) (meth := meth) (As := as.map (aw_cv ad)) (rest := S'.map (aw_cv ad)) (b := ad i) (Ts := []) (locs := locs) (cells := cs) (slots := ss) (g := F0 m pc ls (S.map (aw_cv ad))) (nL := μ.2.2.1) ⟨hC.2.1, hC.2.2.1, hC.2.2.2.1, hC.2.2.2.2.2.2.2.1, fun w h => nomatch h⟩ hMM ⟨hcb, hnm, aw_hts hg hin rfl⟩
    ⟨aw_blind, aw_pre hw hS hC.2.2.2.2.2.2.2.2.2.2.1 hg hok⟩
    rfl (by rw [List.length_map]; exact hn) hl.1 (by show S.map _ = _; rw [hS2, List.map_append, List.map_reverse]; rfl) (aw_stW hcat) hd ⟨hcs, hss⟩
  exact aw_run (aw_unrun hr) hC ha hk hS hw hl hok2 K (fun E h' k' hx => absurd hx (hX _ _ _))
theorem AW.objInit {i index : Nat} (hd : decode μ.2.1 pc = .ok (.invokespecial index, 3)) (hlink : Cond.methodLink μ.1.cls index objectInit ∈ lw_tbl) (hin : Cond.instanceMethod objectInit ∈ lw_tbl) (hcode : Cond.code objectInit ⟨#[0xb1]⟩ 1 none ∈ lw_tbl) (hcat : (S.map fun v => v.category).sum ≤ 8)
    (K : AW Z μ d k0 mc ms Q (pc + 3) L S h k cs ss) : AW Z μ d k0 mc ms Q pc L (.ref i :: S) h k cs ss := by
  intro l D cT p e s m args below meth c ad0 ad A H locs ls hC ha hk hS hw hl hs
  have hg := hC.2.2.2.2.2.2.2.2.2.1
  have h8 := aw_stW (m := m) (pc := pc) (ls := ls) (st0 := []) (ad := ad) hcat
  refine W.objInit hC.2.1 hC.2.2.1 hC.2.2.2.2.2.2.2.1 (aw_hts hg hlink rfl) (aw_hts hg hin rfl) (aw_hts hg hcode rfl) rfl (by rw [hC.2.2.2.1]; exact hl.1) rfl hd (by show 1 ≤ d + 20; omega) ?_ ?_
  · have h9 : 2 * (F0 m pc ls []).monitorRoom + ((S.map (aw_cv ad)).map fun v => v.category).sum ≤ 8 := h8
    show 2 * (F0 m pc ls []).monitorRoom + ((S.map (aw_cv ad)).map fun v => v.category).sum + 12 ≤ 41 * d + 852
    omega
  · exact K l D cT p e s m args below meth c ad0 ad A H locs ls hC ha hk hS hw hl (aw_ok_tail hs)
/-- 'throw new E("text")', E one of the three, in a method without handlers -/
theorem AW.throwS {E text : String} {names : List String} {ik is ic : Nat} (d0 : decode μ.2.1 pc = .ok (.new ik, 3)) (d3 : decode μ.2.1 (pc + 3) = .ok (.dup, 1)) (d4 : decode μ.2.1 (pc + 4) = .ok (.ldc is, 2)) (d6 : decode μ.2.1 (pc + 6) = .ok (.invokespecial ic, 3)) (d9 : decode μ.2.1 (pc + 9) = .ok (.athrow, 1))
    (hh : μ.2.2.2.2 = []) (hfit : Bundle.fit E = true) (hnames : ∀ n ∈ names, Bundle.fit n = true) (hlen : names.length = 2) (hk : Cond.classLink μ.1.cls ik E ∈ lw_tbl) (hini : Cond.initialized E ∈ lw_tbl) (hstr : (μ.1.cls, is, text) ∈ aw_str) (hat : ∀ w ∈ vx_atS μ.1.cls ic E names, w ∈ lw_tbl ∧ aw_okw w = true)
    (hgood : ∀ w ∈ Cond.classLink μ.1.cls ik E :: Cond.initialized E :: vx_atS μ.1.cls ic E names, vx_ot w = true) (hcat : (S.map fun v => v.category).sum ≤ 8) (hcs : cs + 1 ≤ mc) (hss : ss + 6 ≤ ms) (q : Q (.inr E) h k) : AW Z μ d k0 mc ms Q pc L S h k cs ss := by
  intro l D cT p e s m args below meth c ad0 ad A H locs ls hC ha hk2 hS hw hl hs
  have hg := hC.2.2.2.2.2.2.2.2.2.1
  obtain ⟨sa, hsa⟩ := hg.2.1 _ hstr
  have hcat2 : ((S.map (aw_cv ad)).map fun v => v.category).sum ≤ 8 := by
    have e : ((S.map (aw_cv ad)).map fun v => v.category) = S.map fun v => v.category := by
      rw [List.map_map]
      exact List.map_congr_left fun v _ => aw_cat ad v
    rw [e]; exact hcat
  refine vx_throwS (own := μ.1.cls) (cls := E) (names := names) (text := text) (sa := sa) (ik := ik) (is := is) (ic := ic) (A := A) hC.2.1 hC.2.2.1 hC.1 hC.2.2.2.2.2.2.2.1 hfit hnames (aw_hts hg hk rfl) (aw_hts hg hini rfl) hsa (fun w hw => aw_hts hg (hat w hw).1 (hat w hw).2) hgood hg.2.2.2.1 hg.2.2.2.2.1 hS (by rw [hC.2.2.2.1]; exact hl.1) d0 d3 d4 d6 d9 (fun x hx => ?_)
    (by show names.length + 3 < d + 20; omega) (by show _ + (13 * (names.length + 1) + 43) ≤ 41 * d + 852; omega) hcs hss hC.2.2.2.2.2.1 (fun t hvm hz ho => ⟨⟨h, k, ad, q, ha, hk2, ?_⟩, ?_⟩) hS.2.2 hcs hss
  · rw [hC.2.2.2.2.2.2.2.2.1, hh] at hx; cases hx
  · exact ⟨hw.1.kept (fun j x hx => ho x.1 ((hw.1 j x hx).lt)), hw.2.1, hw.2.2.1.moved hvm, hw.2.2.2⟩
  · exact ⟨Nat.le_trans hS.1 hz, fun x h1 h2 => (ho x (Nat.lt_of_lt_of_le h1 hS.1)).trans (hS.2.1 x h1 h2)⟩
theorem AW.copyi {i j n0 n1 index : Nat} {f g : Nat → Int32} {sp dp n : Int32} (hd : decode μ.2.1 pc = .ok (.invokestatic index, 3)) (hlink : Cond.methodLink μ.1.cls index arraycopyName ∈ lw_tbl) (hnat : Cond.native arraycopyName ∈ lw_tbl) (hst : Cond.static arraycopyName ∈ lw_tbl) (hini : Cond.initialized "java/lang/System" ∈ lw_tbl)
    (i0 : 0 < i) (j0 : 0 < j) (hi : h i = .inl (.int, n0, .inl f)) (hj : h j = .inl (.int, n1, .inl g)) (h1 : ¬ sp < 0) (h2 : ¬ dp < 0) (h3 : ¬ n < 0) (h4 : sp.toNatClampNeg + n.toNatClampNeg ≤ n0) (h5 : dp.toNatClampNeg + n.toNatClampNeg ≤ n1) (hcat : (S.map fun v => v.category).sum ≤ 8)
    (K : AW Z μ d k0 mc ms Q (pc + 3) L S (va_up h j (.inl (.int, n1, .inl (va_cpy f g sp.toNatClampNeg dp.toNatClampNeg n.toNatClampNeg)))) k cs ss) : AW Z μ d k0 mc ms Q pc L (.int n :: .int dp :: .ref j :: .int sp :: .ref i :: S) h k cs ss := by
  intro l D cT p e s m args below meth c ad0 ad A H locs ls hC ha hk hS hw hl hs
  have hg := hC.2.2.2.2.2.2.2.2.2.1
  have hjk : j < k := hs (.ref j) (by simp)
  have hik : i < k := hs (.ref i) (by simp)
  have hcat2 : ((S.map (aw_cv ad)).map fun v => v.category).sum ≤ 8 := by
    have e : ((S.map (aw_cv ad)).map fun v => v.category) = S.map fun v => v.category := by
      rw [List.map_map]
      exact List.map_congr_left fun v _ => aw_cat ad v
    rw [e]; exact hcat
  have hnw : nativeFrameWords "java/lang/System" "arraycopy" 5 + 11 ≤ 100 := by decide
  exact va_copyi hC.2.1 hC.2.2.1 (by rw [hC.2.2.2.1]; exact hl.1.symm) hC.2.2.2.2.2.2.2.1 (aw_hts hg hlink rfl) (aw_hts hg hnat rfl) (aw_hts hg hst rfl) (aw_hts hg hini rfl) hw.2.2.1 hw.1 hw.2.1 hS (i - 1) (j - 1) 0 0 (aw_at_arr i0 hik hi) (aw_at_arr j0 hjk hj) rfl rfl rfl h1 h2 h3 h4 h5 (fun _ _ => rfl)
    (by show 1 ≤ d + 20; omega) (by show _ + _ ≤ 41 * d + 852; omega) hd (fun H1 locs1 hP hD hS1 => K l D cT p e s m args below meth c ad0 ad A H1 locs1 ls hC ha hk hS1 (aw_Wo_set (e := .inl (.int, n1, .inl (va_cpy f g sp.toNatClampNeg dp.toNatClampNeg n.toNatClampNeg))) hw j0 hjk trivial hP hD) hl (aw_ok_tail (aw_ok_tail (aw_ok_tail (aw_ok_tail (aw_ok_tail hs))))))
end Rows5
