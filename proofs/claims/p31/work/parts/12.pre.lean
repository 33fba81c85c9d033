/-! small things of the walks -/
theorem vp_lit {x : Int32} {n : Nat} (h : (!decide (x < 0) && decide (x.toNatClampNeg < n)) = true) : vp_in x n := by
  simp only [Bool.and_eq_true, Bool.not_eq_true', decide_eq_false_iff_not, decide_eq_true_eq] at h
  exact fun q => q.elim h.1 (fun q => absurd h.2 (Nat.not_lt.mpr q))
theorem aw_fewer_nil {L : List Value} : ∀ (i : Nat) (v : Value), ([] : List Value)[i]? = some v → v ≠ .null → L[i]? = some v := fun i v h => by simp at h
theorem aw_fewer_null {a b : List Value} {w : Value} (h : ∀ (i : Nat) (v : Value), a[i]? = some v → v ≠ .null → b[i]? = some v) : ∀ (i : Nat) (v : Value), (Value.null :: a)[i]? = some v → v ≠ .null → (w :: b)[i]? = some v
  | 0, v, e, hv => by simp at e; exact absurd e.symm hv
  | i + 1, v, e, hv => by simp at e ⊢; exact h i v e hv
theorem aw_fewer_same {a b : List Value} {w : Value} (h : ∀ (i : Nat) (v : Value), a[i]? = some v → v ≠ .null → b[i]? = some v) : ∀ (i : Nat) (v : Value), (w :: a)[i]? = some v → v ≠ .null → (w :: b)[i]? = some v
  | 0, v, e, hv => by simp at e ⊢; exact e
  | i + 1, v, e, hv => by simp at e ⊢; exact h i v e hv
/-- the heap has grown: more ids, the old cells aside the layout as they were -/
def exle (k : Nat) (ex : Hp) (k2 : Nat) (ex2 : Hp) : Prop := k ≤ k2 ∧ ∀ i, i < k → ex2 i = ex i
theorem exle.refl (k : Nat) (ex : Hp) : exle k ex k ex := ⟨Nat.le_refl _, fun _ _ => rfl⟩
theorem exle.trans {k k2 k3 : Nat} {ex ex2 ex3 : Hp} (h : exle k ex k2 ex2) (h2 : exle k2 ex2 k3 ex3) : exle k ex k3 ex3 := ⟨Nat.le_trans h.1 h2.1, fun i hi => (h2.2 i (Nat.lt_of_lt_of_le hi h.1)).trans (h.2 i hi)⟩
section Pre
variable {Z : Gz} {μ : Mt} {d k0 mc ms : Nat} {Q : Po} {pc : Nat} {L S : List Value} {h : Hp} {k cs ss : Nat}
theorem AW.throwSW {E text : String} {names : List String} {ik is ic : Nat} (d0 : decode μ.2.1 pc = .ok (.new ik, 3)) (d3 : decode μ.2.1 (pc + 3) = .ok (.dup, 1)) (d4 : decode μ.2.1 (pc + 4) = .ok (.ldc_w is, 3)) (d6 : decode μ.2.1 (pc + 7) = .ok (.invokespecial ic, 3)) (d9 : decode μ.2.1 (pc + 10) = .ok (.athrow, 1))
    (hh : μ.2.2.2.2 = []) (hfit : Bundle.fit E = true) (hnames : ∀ n ∈ names, Bundle.fit n = true) (hlen : names.length = 2) (hk : Cond.classLink μ.1.cls ik E ∈ lw_tbl) (hini : Cond.initialized E ∈ lw_tbl) (hstr : (μ.1.cls, is, text) ∈ aw_str) (hat : ∀ w ∈ vx_atS μ.1.cls ic E names, w ∈ lw_tbl ∧ aw_okw w = true)
    (hgood : ∀ w ∈ Cond.classLink μ.1.cls ik E :: Cond.initialized E :: vx_atS μ.1.cls ic E names, vx_ot w = true) (hcat : (S.map fun v => v.category).sum ≤ 8) (hcs : cs + 1 ≤ mc) (hss : ss + 6 ≤ ms) (q : Q (.inr E) h k) : AW Z μ d k0 mc ms Q pc L S h k cs ss := by
  intro l D cT p e s m args below meth c ad0 ad A H locs ls hC ha hk2 hS hw hl hs
  have hg := hC.2.2.2.2.2.2.2.2.2.1
  obtain ⟨sa, hsa⟩ := hg.2.1 _ hstr
  have hcat2 : ((S.map (aw_cv ad)).map fun v => v.category).sum ≤ 8 := by
    have e : ((S.map (aw_cv ad)).map fun v => v.category) = S.map fun v => v.category := by
      rw [List.map_map]
      exact List.map_congr_left fun v _ => aw_cat ad v
    rw [e]; exact hcat
  refine vx_throwSW (own := μ.1.cls) (cls := E) (names := names) (text := text) (sa := sa) (ik := ik) (is := is) (ic := ic) (A := A) hC.2.1 hC.2.2.1 hC.1 hC.2.2.2.2.2.2.2.1 hfit hnames (aw_hts hg hk rfl) (aw_hts hg hini rfl) hsa (fun w hw => aw_hts hg (hat w hw).1 (hat w hw).2) hgood hg.2.2.2.1 hg.2.2.2.2.1 hS (by rw [hC.2.2.2.1]; exact hl.1) d0 d3 d4 d6 d9 (fun x hx => ?_)
    (by show names.length + 3 < d + 20; omega) (by show _ + (13 * (names.length + 1) + 43) ≤ 41 * d + 852; omega) hcs hss hC.2.2.2.2.2.1 (fun t hvm hz ho => ⟨⟨h, k, ad, q, ha, hk2, ?_⟩, ?_⟩) hS.2.2 hcs hss
  · rw [hC.2.2.2.2.2.2.2.2.1, hh] at hx; cases hx
  · exact ⟨hw.1.kept (fun j x hx => ho x.1 ((hw.1 j x hx).lt)), hw.2.1, hw.2.2.1.moved hvm, hw.2.2.2⟩
  · exact ⟨Nat.le_trans hS.1 hz, fun x h1 h2 => (ho x (Nat.lt_of_lt_of_le h1 hS.1)).trans (hS.2.1 x h1 h2)⟩
theorem AW.ldc_w {index : Nat} {v : Int32} (hd : decode μ.2.1 pc = .ok (.ldc_w index, 3)) (hc : Cond.constant μ.1.cls index v ∈ lw_tbl) (K : AW Z μ d k0 mc ms Q (pc + 3) L (.int v :: S) h k cs ss) : AW Z μ d k0 mc ms Q pc L S h k cs ss :=
  AW.pure (fun h _ => aw_ok_cons aw_okI h) (fun _ _ _ _ _ _ _ _ _ _ _ _ _ _ ad hx hb ho ht _ q => lv_ldcw hx hb ho (ht _ hc rfl) hd q) K
theorem AX.catch_w {E name : String} {x : Nat × Nat × Nat × Nat} {pre suf : List (Nat × Nat × Nat × Nat)} {i : Nat} {L' : List Value} (hh : μ.2.2.2.2 = pre ++ x :: suf) (hE : E ∈ aw_exc)
    (hpre : ∀ z ∈ pre, z.2.2.2 ≠ 0 ∧ ∃ nm ∈ aw_exc, nm ≠ E ∧ Cond.classLink μ.1.cls z.2.2.2 nm ∈ lw_tbl) (h1 : x.1 ≤ pc) (h2 : pc < x.2.1) (h3 : x.2.2.2 ≠ 0) (hlink : Cond.classLink μ.1.cls x.2.2.2 name ∈ lw_tbl) (hcast : Cond.castable E name ∈ lw_tbl)
    (hd : decode μ.2.1 x.2.2.1 = .ok (.astore i, 2)) (hn : i < μ.2.2.1) (hlow : aw_low L i = true) (hL : L.set i .null = L')
    (K : AW Z μ d k0 mc ms Q (x.2.2.1 + 2) L' [] h k cs ss) : AX Z μ d k0 mc ms Q E pc L h k cs ss := by
  intro l D cT p e s m args below meth c ad0 ad A H locs ls q9 ce st hC ha hk hS hw hl hq hv hcl
  have hg := hC.2.2.2.2.2.2.2.2.2.1
  have hown := hC.2.2.2.2.2.2.2.1
  refine vx_catch (own := μ.1.cls) (name := name) (E := E) (ce := ce) hown (tableOf pre) ⟨x.1, x.2.1, x.2.2.1, x.2.2.2⟩ (tableOf suf) ?_ (fun z hz => ?_) ?_ h3 (aw_hts hg hlink rfl) (aw_hts hg hcast rfl) hq hv hcl ?_
  · rw [hC.2.2.2.2.2.2.2.2.1, hh]
    simp [tableOf]
  · obtain ⟨y, hy, rfl⟩ := List.mem_map.mp hz
    obtain ⟨g1, nm, g2, g3, g4⟩ := hpre y hy
    exact Or.inr ⟨g1, nm, aw_hts hg g4 rfl, hg.2.2.1 E hE nm g2 (Ne.symm g3)⟩
  · simp [covers, h1, h2]
  · refine lv_astore (nL := μ.2.2.1) (lv := aw_pairs ad L) hC.2.1 hC.2.2.1 hd hl.has hn rfl (fun ls' h' => ?_)
    refine K l D cT p e s m args below meth c ad0 ad A H locs ls' hC ha hk hS hw ?_ (fun v hv => nomatch hv)
    subst hL
    have h'' : lv_has ls' μ.2.2.1 ((i, aw_cv (fun _ => q9) (.ref 0)) :: (aw_pairs ad L).filter (fun q => !(q.1 == i) && !(q.1 + 1 == i && q.2.category == 2))) := h'
    refine ⟨h'.1, h'.2.1, fun j w hj hw' => ?_⟩
    by_cases hji : j = i
    · subst hji
      rw [List.getElem?_set_self (by
        have := (List.getElem?_eq_some_iff.mp hj).1
        rwa [List.length_set] at this)] at hj
      cases hj
      exact absurd rfl hw'
    · rw [List.getElem?_set_ne (Ne.symm hji)] at hj
      refine ⟨h'.2.2 (j, aw_cv ad w) (List.mem_cons_of_mem _ (List.mem_filter.mpr ⟨aw_pairs_in hj hw', ?_⟩)), (hl.2.2 j w hj hw').2⟩
      have e1 : (j == i) = false := by simp [hji]
      have e2 : (j + 1 == i && (aw_cv ad w).category == 2) = false := by
        by_cases e : j + 1 = i
        · subst e
          simp only [aw_low, hj] at hlow
          rw [aw_cat]
          have : w.category = 1 := by simpa using hlow
          simp [this]
        · simp [e]
      simp [e1, e2]
end Pre
def th_list : List String := ["java/lang/RuntimeException", "java/lang/Exception"]
theorem th_names : ∀ n ∈ th_list, Bundle.fit n = true := by decide +kernel
theorem th_IAE_64 : ∀ w ∈ vx_atS RX4 64 "java/lang/IllegalArgumentException" th_list, w ∈ lw_tbl ∧ aw_okw w = true := by decide +kernel
theorem th_ISE_150 : ∀ w ∈ vx_atS RX4 150 "java/lang/IllegalStateException" th_list, w ∈ lw_tbl ∧ aw_okw w = true := by decide +kernel
theorem th_IOOBE_110 : ∀ w ∈ vx_atS RX4 110 "java/lang/IndexOutOfBoundsException" th_list, w ∈ lw_tbl ∧ aw_okw w = true := by decide +kernel
theorem th_IAE_64g : ∀ w ∈ Cond.classLink RX4 60 "java/lang/IllegalArgumentException" :: Cond.initialized "java/lang/IllegalArgumentException" :: vx_atS RX4 64 "java/lang/IllegalArgumentException" th_list, vx_ot w = true := by decide +kernel
theorem th_ISE_150g : ∀ w ∈ Cond.classLink RX4 146 "java/lang/IllegalStateException" :: Cond.initialized "java/lang/IllegalStateException" :: vx_atS RX4 150 "java/lang/IllegalStateException" th_list, vx_ot w = true := by decide +kernel
theorem th_IOOBE_110g : ∀ w ∈ Cond.classLink RX4 106 "java/lang/IndexOutOfBoundsException" :: Cond.initialized "java/lang/IndexOutOfBoundsException" :: vx_atS RX4 110 "java/lang/IndexOutOfBoundsException" th_list, vx_ot w = true := by decide +kernel
