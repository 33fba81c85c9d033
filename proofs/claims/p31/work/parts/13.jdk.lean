/-! the JDK's small functions (Math.max, Math.min, Integer.bitCount, Arrays.fill), by their bytecode -/
def jmax (x y : Int32) : Int32 := if x < y then y else x
def jmin (x y : Int32) : Int32 := if y < x then y else x
abbrev mJ6_bitCount_0f7a4 : Mt := (yJ6_bitCount_0f7a4, cJ6_bitCount_0f7a4, 1, (some .int), [])
set_option maxRecDepth 20000 in
theorem ok_J6_bitCount_0f7a4 : aw_mok mJ6_bitCount_0f7a4 1 := ⟨rfl, tw_411, tw_16, ⟨by decide, by decide⟩, by decide +kernel, by decide⟩
abbrev mJ7_fill_53178 : Mt := (yJ7_fill_53178, cJ7_fill_53178, 4, none, [])
set_option maxRecDepth 20000 in
theorem ok_J7_fill_53178 : aw_mok mJ7_fill_53178 2 := ⟨rfl, tw_197, tw_4, ⟨by decide, by decide⟩, by decide +kernel, by decide⟩
theorem cw_mmax : Cond.code Lib.Math.max.name Lib.Math.max.code 2 (some .int) ∈ lw_tbl := by
  have h := tw_107
  rw [show prog_14_method_65_code = Lib.Math.max.code from by decide +kernel] at h
  exact h
theorem AW.mmax {Z : Gz} {μ : Mt} {d k0 mc ms : Nat} {Q : Po} {pc : Nat} {L S : List Value} {h : Hp} {k cs ss index : Nat} {x y : Int32} (hd : decode μ.2.1 pc = .ok (.invokestatic index, 3)) (hlink : Cond.methodLink μ.1.cls index Lib.Math.max.name ∈ lw_tbl) (hst : Cond.static Lib.Math.max.name ∈ lw_tbl) (hini : Cond.initialized "java/lang/Math" ∈ lw_tbl) (hcat : (S.map fun v => v.category).sum ≤ 8) (hcs : cs ≤ mc) (hss : ss ≤ ms)
    (K : AW Z μ d k0 mc ms Q (pc + 3) L (.int (jmax x y) :: S) h k cs ss) : AW Z μ d k0 mc ms Q pc L (.int y :: .int x :: S) h k cs ss := by
  intro l D cT p e s m args below meth c ad0 ad A H locs ls hC ha hk hS hw hl hs
  have hg := hC.2.2.2.2.2.2.2.2.2.1
  have hcat2 : ((S.map (aw_cv ad)).map fun v => v.category).sum ≤ 8 := by
    have e : ((S.map (aw_cv ad)).map fun v => v.category) = S.map fun v => v.category := by
      rw [List.map_map]
      exact List.map_congr_left fun v _ => aw_cat ad v
    rw [e]; exact hcat
  exact va_mmax hC.2.1 hC.2.2.1 (by rw [hC.2.2.2.1]; exact hl.1.symm) hC.2.2.2.2.2.2.2.1 (aw_hts hg hlink rfl) (aw_hts hg hst rfl) (aw_hts hg hini rfl) (aw_hts hg cw_mmax rfl) (by show 1 ≤ d + 20; omega) (by show _ + 13 ≤ 41 * d + 852; omega) hcs hss hd (K l D cT p e s m args below meth c ad0 ad A H locs ls hC ha hk hS hw hl (aw_ok_cons aw_okI (aw_ok_tail (aw_ok_tail hs))))
def jbc (p0 : Int32) : Int32 := ((((((((p0 - ((p0.toUInt32 >>> ((1 : Int32).toUInt32 &&& Int32.toUInt32 31)).toInt32 &&& (1431655765 : Int32))) &&& (858993459 : Int32)) + (((p0 - ((p0.toUInt32 >>> ((1 : Int32).toUInt32 &&& Int32.toUInt32 31)).toInt32 &&& (1431655765 : Int32))).toUInt32 >>> ((2 : Int32).toUInt32 &&& Int32.toUInt32 31)).toInt32 &&& (858993459 : Int32))) + ((((p0 - ((p0.toUInt32 >>> ((1 : Int32).toUInt32 &&& Int32.toUInt32 31)).toInt32 &&& (1431655765 : Int32))) &&& (858993459 : Int32)) + (((p0 - ((p0.toUInt32 >>> ((1 : Int32).toUInt32 &&& Int32.toUInt32 31)).toInt32 &&& (1431655765 : Int32))).toUInt32 >>> ((2 : Int32).toUInt32 &&& Int32.toUInt32 31)).toInt32 &&& (858993459 : Int32))).toUInt32 >>> ((4 : Int32).toUInt32 &&& Int32.toUInt32 31)).toInt32) &&& (252645135 : Int32)) + ((((((p0 - ((p0.toUInt32 >>> ((1 : Int32).toUInt32 &&& Int32.toUInt32 31)).toInt32 &&& (1431655765 : Int32))) &&& (858993459 : Int32)) + (((p0 - ((p0.toUInt32 >>> ((1 : Int32).toUInt32 &&& Int32.toUInt32 31)).toInt32 &&& (1431655765 : Int32))).toUInt32 >>> ((2 : Int32).toUInt32 &&& Int32.toUInt32 31)).toInt32 &&& (858993459 : Int32))) + ((((p0 - ((p0.toUInt32 >>> ((1 : Int32).toUInt32 &&& Int32.toUInt32 31)).toInt32 &&& (1431655765 : Int32))) &&& (858993459 : Int32)) + (((p0 - ((p0.toUInt32 >>> ((1 : Int32).toUInt32 &&& Int32.toUInt32 31)).toInt32 &&& (1431655765 : Int32))).toUInt32 >>> ((2 : Int32).toUInt32 &&& Int32.toUInt32 31)).toInt32 &&& (858993459 : Int32))).toUInt32 >>> ((4 : Int32).toUInt32 &&& Int32.toUInt32 31)).toInt32) &&& (252645135 : Int32)).toUInt32 >>> ((8 : Int32).toUInt32 &&& Int32.toUInt32 31)).toInt32) + (((((((p0 - ((p0.toUInt32 >>> ((1 : Int32).toUInt32 &&& Int32.toUInt32 31)).toInt32 &&& (1431655765 : Int32))) &&& (858993459 : Int32)) + (((p0 - ((p0.toUInt32 >>> ((1 : Int32).toUInt32 &&& Int32.toUInt32 31)).toInt32 &&& (1431655765 : Int32))).toUInt32 >>> ((2 : Int32).toUInt32 &&& Int32.toUInt32 31)).toInt32 &&& (858993459 : Int32))) + ((((p0 - ((p0.toUInt32 >>> ((1 : Int32).toUInt32 &&& Int32.toUInt32 31)).toInt32 &&& (1431655765 : Int32))) &&& (858993459 : Int32)) + (((p0 - ((p0.toUInt32 >>> ((1 : Int32).toUInt32 &&& Int32.toUInt32 31)).toInt32 &&& (1431655765 : Int32))).toUInt32 >>> ((2 : Int32).toUInt32 &&& Int32.toUInt32 31)).toInt32 &&& (858993459 : Int32))).toUInt32 >>> ((4 : Int32).toUInt32 &&& Int32.toUInt32 31)).toInt32) &&& (252645135 : Int32)) + ((((((p0 - ((p0.toUInt32 >>> ((1 : Int32).toUInt32 &&& Int32.toUInt32 31)).toInt32 &&& (1431655765 : Int32))) &&& (858993459 : Int32)) + (((p0 - ((p0.toUInt32 >>> ((1 : Int32).toUInt32 &&& Int32.toUInt32 31)).toInt32 &&& (1431655765 : Int32))).toUInt32 >>> ((2 : Int32).toUInt32 &&& Int32.toUInt32 31)).toInt32 &&& (858993459 : Int32))) + ((((p0 - ((p0.toUInt32 >>> ((1 : Int32).toUInt32 &&& Int32.toUInt32 31)).toInt32 &&& (1431655765 : Int32))) &&& (858993459 : Int32)) + (((p0 - ((p0.toUInt32 >>> ((1 : Int32).toUInt32 &&& Int32.toUInt32 31)).toInt32 &&& (1431655765 : Int32))).toUInt32 >>> ((2 : Int32).toUInt32 &&& Int32.toUInt32 31)).toInt32 &&& (858993459 : Int32))).toUInt32 >>> ((4 : Int32).toUInt32 &&& Int32.toUInt32 31)).toInt32) &&& (252645135 : Int32)).toUInt32 >>> ((8 : Int32).toUInt32 &&& Int32.toUInt32 31)).toInt32).toUInt32 >>> ((16 : Int32).toUInt32 &&& Int32.toUInt32 31)).toInt32) &&& (63 : Int32))
set_option maxRecDepth 100000 in
theorem c_J_bitCount {h : Hp} {d k : Nat} {p0 : Int32} (hd : 1 ≤ d) : AM mJ6_bitCount_0f7a4 d [.int p0] h k 0 0 (fun oc h' k' => oc = .inl (some (.int (jbc p0))) ∧ h' = h ∧ k = k') := by
  refine AM.intro (n := 0) (by decide) rfl rfl rfl ?_
  refine AW.iload_n (pc := 0) dJ6_bitCount_0f7a4_0 rfl rfl ?_
  refine AW.iload_n (pc := 1) dJ6_bitCount_0f7a4_1 rfl rfl ?_
  refine AW.iconst (v := 1) (pc := 2) dJ6_bitCount_0f7a4_2 (by decide) ?_
  refine AW.iushr (pc := 3) dJ6_bitCount_0f7a4_3 ?_
  refine AW.ldc_w (pc := 4) dJ6_bitCount_0f7a4_4 tw_412 ?_
  refine AW.iand (pc := 7) dJ6_bitCount_0f7a4_7 ?_
  refine AW.isub (pc := 8) dJ6_bitCount_0f7a4_8 ?_
  refine AW.istore_n (L' := [.int (p0 - ((p0.toUInt32 >>> ((1 : Int32).toUInt32 &&& Int32.toUInt32 31)).toInt32 &&& (1431655765 : Int32)))]) (pc := 9) dJ6_bitCount_0f7a4_9 rfl (by decide) rfl rfl ?_
  refine AW.iload_n (pc := 10) dJ6_bitCount_0f7a4_10 rfl rfl ?_
  refine AW.ldc_w (pc := 11) dJ6_bitCount_0f7a4_11 tw_413 ?_
  refine AW.iand (pc := 14) dJ6_bitCount_0f7a4_14 ?_
  refine AW.iload_n (pc := 15) dJ6_bitCount_0f7a4_15 rfl rfl ?_
  refine AW.iconst (v := 2) (pc := 16) dJ6_bitCount_0f7a4_16 (by decide) ?_
  refine AW.iushr (pc := 17) dJ6_bitCount_0f7a4_17 ?_
  refine AW.ldc_w (pc := 18) dJ6_bitCount_0f7a4_18 tw_413 ?_
  refine AW.iand (pc := 21) dJ6_bitCount_0f7a4_21 ?_
  refine AW.iadd (pc := 22) dJ6_bitCount_0f7a4_22 ?_
  refine AW.istore_n (L' := [.int (((p0 - ((p0.toUInt32 >>> ((1 : Int32).toUInt32 &&& Int32.toUInt32 31)).toInt32 &&& (1431655765 : Int32))) &&& (858993459 : Int32)) + (((p0 - ((p0.toUInt32 >>> ((1 : Int32).toUInt32 &&& Int32.toUInt32 31)).toInt32 &&& (1431655765 : Int32))).toUInt32 >>> ((2 : Int32).toUInt32 &&& Int32.toUInt32 31)).toInt32 &&& (858993459 : Int32)))]) (pc := 23) dJ6_bitCount_0f7a4_23 rfl (by decide) rfl rfl ?_
  refine AW.iload_n (pc := 24) dJ6_bitCount_0f7a4_24 rfl rfl ?_
  refine AW.iload_n (pc := 25) dJ6_bitCount_0f7a4_25 rfl rfl ?_
  refine AW.iconst (v := 4) (pc := 26) dJ6_bitCount_0f7a4_26 (by decide) ?_
  refine AW.iushr (pc := 27) dJ6_bitCount_0f7a4_27 ?_
  refine AW.iadd (pc := 28) dJ6_bitCount_0f7a4_28 ?_
  refine AW.ldc_w (pc := 29) dJ6_bitCount_0f7a4_29 tw_414 ?_
  refine AW.iand (pc := 32) dJ6_bitCount_0f7a4_32 ?_
  refine AW.istore_n (L' := [.int (((((p0 - ((p0.toUInt32 >>> ((1 : Int32).toUInt32 &&& Int32.toUInt32 31)).toInt32 &&& (1431655765 : Int32))) &&& (858993459 : Int32)) + (((p0 - ((p0.toUInt32 >>> ((1 : Int32).toUInt32 &&& Int32.toUInt32 31)).toInt32 &&& (1431655765 : Int32))).toUInt32 >>> ((2 : Int32).toUInt32 &&& Int32.toUInt32 31)).toInt32 &&& (858993459 : Int32))) + ((((p0 - ((p0.toUInt32 >>> ((1 : Int32).toUInt32 &&& Int32.toUInt32 31)).toInt32 &&& (1431655765 : Int32))) &&& (858993459 : Int32)) + (((p0 - ((p0.toUInt32 >>> ((1 : Int32).toUInt32 &&& Int32.toUInt32 31)).toInt32 &&& (1431655765 : Int32))).toUInt32 >>> ((2 : Int32).toUInt32 &&& Int32.toUInt32 31)).toInt32 &&& (858993459 : Int32))).toUInt32 >>> ((4 : Int32).toUInt32 &&& Int32.toUInt32 31)).toInt32) &&& (252645135 : Int32))]) (pc := 33) dJ6_bitCount_0f7a4_33 rfl (by decide) rfl rfl ?_
  refine AW.iload_n (pc := 34) dJ6_bitCount_0f7a4_34 rfl rfl ?_
  refine AW.iload_n (pc := 35) dJ6_bitCount_0f7a4_35 rfl rfl ?_
  refine AW.bipush (v := 8) (pc := 36) dJ6_bitCount_0f7a4_36 (by decide) ?_
  refine AW.iushr (pc := 38) dJ6_bitCount_0f7a4_38 ?_
  refine AW.iadd (pc := 39) dJ6_bitCount_0f7a4_39 ?_
  refine AW.istore_n (L' := [.int ((((((p0 - ((p0.toUInt32 >>> ((1 : Int32).toUInt32 &&& Int32.toUInt32 31)).toInt32 &&& (1431655765 : Int32))) &&& (858993459 : Int32)) + (((p0 - ((p0.toUInt32 >>> ((1 : Int32).toUInt32 &&& Int32.toUInt32 31)).toInt32 &&& (1431655765 : Int32))).toUInt32 >>> ((2 : Int32).toUInt32 &&& Int32.toUInt32 31)).toInt32 &&& (858993459 : Int32))) + ((((p0 - ((p0.toUInt32 >>> ((1 : Int32).toUInt32 &&& Int32.toUInt32 31)).toInt32 &&& (1431655765 : Int32))) &&& (858993459 : Int32)) + (((p0 - ((p0.toUInt32 >>> ((1 : Int32).toUInt32 &&& Int32.toUInt32 31)).toInt32 &&& (1431655765 : Int32))).toUInt32 >>> ((2 : Int32).toUInt32 &&& Int32.toUInt32 31)).toInt32 &&& (858993459 : Int32))).toUInt32 >>> ((4 : Int32).toUInt32 &&& Int32.toUInt32 31)).toInt32) &&& (252645135 : Int32)) + ((((((p0 - ((p0.toUInt32 >>> ((1 : Int32).toUInt32 &&& Int32.toUInt32 31)).toInt32 &&& (1431655765 : Int32))) &&& (858993459 : Int32)) + (((p0 - ((p0.toUInt32 >>> ((1 : Int32).toUInt32 &&& Int32.toUInt32 31)).toInt32 &&& (1431655765 : Int32))).toUInt32 >>> ((2 : Int32).toUInt32 &&& Int32.toUInt32 31)).toInt32 &&& (858993459 : Int32))) + ((((p0 - ((p0.toUInt32 >>> ((1 : Int32).toUInt32 &&& Int32.toUInt32 31)).toInt32 &&& (1431655765 : Int32))) &&& (858993459 : Int32)) + (((p0 - ((p0.toUInt32 >>> ((1 : Int32).toUInt32 &&& Int32.toUInt32 31)).toInt32 &&& (1431655765 : Int32))).toUInt32 >>> ((2 : Int32).toUInt32 &&& Int32.toUInt32 31)).toInt32 &&& (858993459 : Int32))).toUInt32 >>> ((4 : Int32).toUInt32 &&& Int32.toUInt32 31)).toInt32) &&& (252645135 : Int32)).toUInt32 >>> ((8 : Int32).toUInt32 &&& Int32.toUInt32 31)).toInt32)]) (pc := 40) dJ6_bitCount_0f7a4_40 rfl (by decide) rfl rfl ?_
  refine AW.iload_n (pc := 41) dJ6_bitCount_0f7a4_41 rfl rfl ?_
  refine AW.iload_n (pc := 42) dJ6_bitCount_0f7a4_42 rfl rfl ?_
  refine AW.bipush (v := 16) (pc := 43) dJ6_bitCount_0f7a4_43 (by decide) ?_
  refine AW.iushr (pc := 45) dJ6_bitCount_0f7a4_45 ?_
  refine AW.iadd (pc := 46) dJ6_bitCount_0f7a4_46 ?_
  refine AW.istore_n (L' := [.int (((((((p0 - ((p0.toUInt32 >>> ((1 : Int32).toUInt32 &&& Int32.toUInt32 31)).toInt32 &&& (1431655765 : Int32))) &&& (858993459 : Int32)) + (((p0 - ((p0.toUInt32 >>> ((1 : Int32).toUInt32 &&& Int32.toUInt32 31)).toInt32 &&& (1431655765 : Int32))).toUInt32 >>> ((2 : Int32).toUInt32 &&& Int32.toUInt32 31)).toInt32 &&& (858993459 : Int32))) + ((((p0 - ((p0.toUInt32 >>> ((1 : Int32).toUInt32 &&& Int32.toUInt32 31)).toInt32 &&& (1431655765 : Int32))) &&& (858993459 : Int32)) + (((p0 - ((p0.toUInt32 >>> ((1 : Int32).toUInt32 &&& Int32.toUInt32 31)).toInt32 &&& (1431655765 : Int32))).toUInt32 >>> ((2 : Int32).toUInt32 &&& Int32.toUInt32 31)).toInt32 &&& (858993459 : Int32))).toUInt32 >>> ((4 : Int32).toUInt32 &&& Int32.toUInt32 31)).toInt32) &&& (252645135 : Int32)) + ((((((p0 - ((p0.toUInt32 >>> ((1 : Int32).toUInt32 &&& Int32.toUInt32 31)).toInt32 &&& (1431655765 : Int32))) &&& (858993459 : Int32)) + (((p0 - ((p0.toUInt32 >>> ((1 : Int32).toUInt32 &&& Int32.toUInt32 31)).toInt32 &&& (1431655765 : Int32))).toUInt32 >>> ((2 : Int32).toUInt32 &&& Int32.toUInt32 31)).toInt32 &&& (858993459 : Int32))) + ((((p0 - ((p0.toUInt32 >>> ((1 : Int32).toUInt32 &&& Int32.toUInt32 31)).toInt32 &&& (1431655765 : Int32))) &&& (858993459 : Int32)) + (((p0 - ((p0.toUInt32 >>> ((1 : Int32).toUInt32 &&& Int32.toUInt32 31)).toInt32 &&& (1431655765 : Int32))).toUInt32 >>> ((2 : Int32).toUInt32 &&& Int32.toUInt32 31)).toInt32 &&& (858993459 : Int32))).toUInt32 >>> ((4 : Int32).toUInt32 &&& Int32.toUInt32 31)).toInt32) &&& (252645135 : Int32)).toUInt32 >>> ((8 : Int32).toUInt32 &&& Int32.toUInt32 31)).toInt32) + (((((((p0 - ((p0.toUInt32 >>> ((1 : Int32).toUInt32 &&& Int32.toUInt32 31)).toInt32 &&& (1431655765 : Int32))) &&& (858993459 : Int32)) + (((p0 - ((p0.toUInt32 >>> ((1 : Int32).toUInt32 &&& Int32.toUInt32 31)).toInt32 &&& (1431655765 : Int32))).toUInt32 >>> ((2 : Int32).toUInt32 &&& Int32.toUInt32 31)).toInt32 &&& (858993459 : Int32))) + ((((p0 - ((p0.toUInt32 >>> ((1 : Int32).toUInt32 &&& Int32.toUInt32 31)).toInt32 &&& (1431655765 : Int32))) &&& (858993459 : Int32)) + (((p0 - ((p0.toUInt32 >>> ((1 : Int32).toUInt32 &&& Int32.toUInt32 31)).toInt32 &&& (1431655765 : Int32))).toUInt32 >>> ((2 : Int32).toUInt32 &&& Int32.toUInt32 31)).toInt32 &&& (858993459 : Int32))).toUInt32 >>> ((4 : Int32).toUInt32 &&& Int32.toUInt32 31)).toInt32) &&& (252645135 : Int32)) + ((((((p0 - ((p0.toUInt32 >>> ((1 : Int32).toUInt32 &&& Int32.toUInt32 31)).toInt32 &&& (1431655765 : Int32))) &&& (858993459 : Int32)) + (((p0 - ((p0.toUInt32 >>> ((1 : Int32).toUInt32 &&& Int32.toUInt32 31)).toInt32 &&& (1431655765 : Int32))).toUInt32 >>> ((2 : Int32).toUInt32 &&& Int32.toUInt32 31)).toInt32 &&& (858993459 : Int32))) + ((((p0 - ((p0.toUInt32 >>> ((1 : Int32).toUInt32 &&& Int32.toUInt32 31)).toInt32 &&& (1431655765 : Int32))) &&& (858993459 : Int32)) + (((p0 - ((p0.toUInt32 >>> ((1 : Int32).toUInt32 &&& Int32.toUInt32 31)).toInt32 &&& (1431655765 : Int32))).toUInt32 >>> ((2 : Int32).toUInt32 &&& Int32.toUInt32 31)).toInt32 &&& (858993459 : Int32))).toUInt32 >>> ((4 : Int32).toUInt32 &&& Int32.toUInt32 31)).toInt32) &&& (252645135 : Int32)).toUInt32 >>> ((8 : Int32).toUInt32 &&& Int32.toUInt32 31)).toInt32).toUInt32 >>> ((16 : Int32).toUInt32 &&& Int32.toUInt32 31)).toInt32)]) (pc := 47) dJ6_bitCount_0f7a4_47 rfl (by decide) rfl rfl ?_
  refine AW.iload_n (pc := 48) dJ6_bitCount_0f7a4_48 rfl rfl ?_
  refine AW.bipush (v := 63) (pc := 49) dJ6_bitCount_0f7a4_49 (by decide) ?_
  refine AW.iand (pc := 51) dJ6_bitCount_0f7a4_51 ?_
  exact AW.iret (pc := 52) dJ6_bitCount_0f7a4_52 rfl rfl (by omega) (by omega) ⟨rfl, rfl, rfl⟩
/-- the first n places all v -/
def jfill (f : Nat → Int32) (n : Nat) (v : Int32) : Nat → Int32 := fun j => if j < n then v else f j
theorem jfill_0 (f : Nat → Int32) (v : Int32) : jfill f 0 v = f := by funext j; simp [jfill]
theorem jfill_s (f : Nat → Int32) (n : Nat) (v : Int32) : upd (jfill f n v) n v = jfill f (n + 1) v := by
  funext j
  by_cases h : j = n
  · subst h; simp [upd, jfill]
  · simp only [upd, jfill, if_neg h]
    by_cases h2 : j < n
    · rw [if_pos h2, if_pos (by omega)]
    · rw [if_neg h2, if_neg (by omega)]
set_option maxRecDepth 100000 in
theorem c_J_fill {d k t : Nat} {ex : Hp} {o : Nat → Int64} {m : Mem} {i n : Nat} {v : Int32} (ht : tok t) (hd : 1 ≤ d) (hi : fixid i = true) (hn : n < 2 ^ 31) (hs : ∀ g, sh t ex o i g = .inl (.int, n, .inl g)) : AM mJ7_fill_53178 d [.ref i, .int v] (lay t ex o m) k 0 0 (fun oc h' k' => oc = .inl none ∧ h' = lay t ex o (va_up m i (jfill (m i) n v)) ∧ k = k') := by
  refine AM.intro (n := 2) (by decide) rfl rfl rfl ?_
  refine AW.iconst (v := 0) (pc := 0) dJ7_fill_53178_0 (by decide) ?_
  refine AW.istore_n (L' := [.ref i, .int v, .int 0, .null]) (pc := 1) dJ7_fill_53178_1 rfl (by decide) rfl rfl ?_
  refine AW.aload_n (pc := 2) dJ7_fill_53178_2 rfl rfl ?_
  refine AW.alen (n := n) (pc := 3) dJ7_fill_53178_3 (fix_pos hi) ((lay_at ht hi).trans (hs _)) ?_
  refine AW.istore_n (L' := [.ref i, .int v, .int 0, .int (nI n)]) (pc := 4) dJ7_fill_53178_4 rfl (by decide) rfl rfl ?_
  have key : ∀ r j, j + r = n → AW aw_Z0 mJ7_fill_53178 d k 0 0 (fun oc h' k' => oc = .inl none ∧ h' = lay t ex o (va_up m i (jfill (m i) n v)) ∧ k = k') 5 [.ref i, .int v, .int (nI j), .int (nI n)] [] (lay t ex o (va_up m i (jfill (m i) j v))) k 0 0 := by
    intro r
    induction r with
    | zero =>
      intro j hj
      have hj' : j = n := by omega
      subst hj'
      refine AW.iload_n (pc := 5) dJ7_fill_53178_5 rfl rfl ?_
      refine AW.iload_n (pc := 6) dJ7_fill_53178_6 rfl rfl ?_
      refine AW.icmp_ge (pc := 7) (tgt := 20) dJ7_fill_53178_7 (by decide) (fun c => ?_) (fun c => ?_)
      · exact AW.vret (pc := 20) dJ7_fill_53178_20 rfl (by omega) (by omega) ⟨rfl, rfl, rfl⟩
      · exact absurd (nI_le (Nat.le_refl _) hn) c
    | succ r ih =>
      intro j hj
      have hlt : j < n := by omega
      refine AW.iload_n (pc := 5) dJ7_fill_53178_5 rfl rfl ?_
      refine AW.iload_n (pc := 6) dJ7_fill_53178_6 rfl rfl ?_
      refine AW.icmp_ge (pc := 7) (tgt := 20) dJ7_fill_53178_7 (by decide) (fun c => ?_) (fun c => ?_)
      · exact absurd c (nI_ge hlt hn)
      · refine AW.aload_n (pc := 10) dJ7_fill_53178_10 rfl rfl ?_
        refine AW.iload_n (pc := 11) dJ7_fill_53178_11 rfl rfl ?_
        refine AW.iload_n (pc := 12) dJ7_fill_53178_12 rfl rfl ?_
        refine LW.iast (pc := 13) (j := j) ht hi hs dJ7_fill_53178_13 (vp_in_nI hlt hn) (nI_clamp (by omega)) ?_
        refine AW.iinc (v := nI (j + 1)) (L' := [.ref i, .int v, .int (nI (j + 1)), .int (nI n)]) (pc := 14) dJ7_fill_53178_14 rfl (nI_1 j) (by decide) rfl rfl ?_
        refine AW.goto (pc := 17) (tgt := 5) dJ7_fill_53178_17 (by decide) ?_
        have h2 : up2 (va_up m i (jfill (m i) j v)) i j v = va_up m i (jfill (m i) (j + 1) v) := by
          unfold up2
          rw [← jfill_s]
          funext a
          by_cases ha : a = i
          · subst ha; simp [va_up]
          · simp [va_up, ha]
        rw [h2]
        exact ih (j + 1) (by omega)
  have h0 : va_up m i (jfill (m i) 0 v) = m := by
    rw [jfill_0]
    funext a
    by_cases ha : a = i
    · subst ha; simp [va_up]
    · simp [va_up, ha]
  have := key n 0 (by omega)
  rw [h0] at this
  exact this
theorem sp_1_6 {t : Nat} {ex : Hp} {o : Nat → Int64} {g : Nat → Int32} {v : Int32} : (.inr (4, List.set [.ref 2, .ref 14, .ref 19, .ref 21, .ref 23, .ref 35, .int (g 6)] 6 (.int v)) : Ce) = sh t ex o 1 (upd g 6 v) := rfl
theorem sp_2_11 {t : Nat} {ex : Hp} {o : Nat → Int64} {g : Nat → Int32} {v : Int32} : (.inr (1, List.set [.ref 3, .ref 4, .ref 5, .ref 6, .ref 7, .ref 8, .ref 9, .ref 10, .ref 11, .ref 12, .ref 13, .int (g 11)] 11 (.int v)) : Ce) = sh t ex o 2 (upd g 11 v) := rfl
theorem sp_14_4 {t : Nat} {ex : Hp} {o : Nat → Int64} {g : Nat → Int32} {v : Int32} : (.inr (2, List.set [.ref 15, .ref 16, .ref 17, .ref 18, .int (g 4), .int (g 5)] 4 (.int v)) : Ce) = sh t ex o 14 (upd g 4 v) := rfl
theorem sp_14_5 {t : Nat} {ex : Hp} {o : Nat → Int64} {g : Nat → Int32} {v : Int32} : (.inr (2, List.set [.ref 15, .ref 16, .ref 17, .ref 18, .int (g 4), .int (g 5)] 5 (.int v)) : Ce) = sh t ex o 14 (upd g 5 v) := rfl
theorem sp_23_12 {t : Nat} {ex : Hp} {o : Nat → Int64} {g : Nat → Int32} {v : Int32} : (.inr (3, List.set [.ref 2, .ref 24, .ref 25, .ref 26, .ref 27, .ref 28, .ref 29, .ref 30, .ref 31, .ref 32, .ref 33, .ref 34, .int (g 12), .int (g 13), .int (g 14), .int (g 15), .int (g 16), .int (g 17)] 12 (.int v)) : Ce) = sh t ex o 23 (upd g 12 v) := rfl
theorem sp_23_13 {t : Nat} {ex : Hp} {o : Nat → Int64} {g : Nat → Int32} {v : Int32} : (.inr (3, List.set [.ref 2, .ref 24, .ref 25, .ref 26, .ref 27, .ref 28, .ref 29, .ref 30, .ref 31, .ref 32, .ref 33, .ref 34, .int (g 12), .int (g 13), .int (g 14), .int (g 15), .int (g 16), .int (g 17)] 13 (.int v)) : Ce) = sh t ex o 23 (upd g 13 v) := rfl
theorem sp_23_14 {t : Nat} {ex : Hp} {o : Nat → Int64} {g : Nat → Int32} {v : Int32} : (.inr (3, List.set [.ref 2, .ref 24, .ref 25, .ref 26, .ref 27, .ref 28, .ref 29, .ref 30, .ref 31, .ref 32, .ref 33, .ref 34, .int (g 12), .int (g 13), .int (g 14), .int (g 15), .int (g 16), .int (g 17)] 14 (.int v)) : Ce) = sh t ex o 23 (upd g 14 v) := rfl
theorem sp_23_15 {t : Nat} {ex : Hp} {o : Nat → Int64} {g : Nat → Int32} {v : Int32} : (.inr (3, List.set [.ref 2, .ref 24, .ref 25, .ref 26, .ref 27, .ref 28, .ref 29, .ref 30, .ref 31, .ref 32, .ref 33, .ref 34, .int (g 12), .int (g 13), .int (g 14), .int (g 15), .int (g 16), .int (g 17)] 15 (.int v)) : Ce) = sh t ex o 23 (upd g 15 v) := rfl
theorem sp_23_16 {t : Nat} {ex : Hp} {o : Nat → Int64} {g : Nat → Int32} {v : Int32} : (.inr (3, List.set [.ref 2, .ref 24, .ref 25, .ref 26, .ref 27, .ref 28, .ref 29, .ref 30, .ref 31, .ref 32, .ref 33, .ref 34, .int (g 12), .int (g 13), .int (g 14), .int (g 15), .int (g 16), .int (g 17)] 16 (.int v)) : Ce) = sh t ex o 23 (upd g 16 v) := rfl
theorem sp_23_17 {t : Nat} {ex : Hp} {o : Nat → Int64} {g : Nat → Int32} {v : Int32} : (.inr (3, List.set [.ref 2, .ref 24, .ref 25, .ref 26, .ref 27, .ref 28, .ref 29, .ref 30, .ref 31, .ref 32, .ref 33, .ref 34, .int (g 12), .int (g 13), .int (g 14), .int (g 15), .int (g 16), .int (g 17)] 17 (.int v)) : Ce) = sh t ex o 23 (upd g 17 v) := rfl
theorem sp_35_12 {t : Nat} {ex : Hp} {o : Nat → Int64} {g : Nat → Int32} {v : Int32} : (.inr (3, List.set [.ref 2, .ref 36, .ref 37, .ref 38, .ref 39, .ref 40, .ref 41, .ref 42, .ref 43, .ref 44, .ref 45, .ref 46, .int (g 12), .int (g 13), .int (g 14), .int (g 15), .int (g 16), .int (g 17)] 12 (.int v)) : Ce) = sh t ex o 35 (upd g 12 v) := rfl
theorem sp_35_13 {t : Nat} {ex : Hp} {o : Nat → Int64} {g : Nat → Int32} {v : Int32} : (.inr (3, List.set [.ref 2, .ref 36, .ref 37, .ref 38, .ref 39, .ref 40, .ref 41, .ref 42, .ref 43, .ref 44, .ref 45, .ref 46, .int (g 12), .int (g 13), .int (g 14), .int (g 15), .int (g 16), .int (g 17)] 13 (.int v)) : Ce) = sh t ex o 35 (upd g 13 v) := rfl
theorem sp_35_14 {t : Nat} {ex : Hp} {o : Nat → Int64} {g : Nat → Int32} {v : Int32} : (.inr (3, List.set [.ref 2, .ref 36, .ref 37, .ref 38, .ref 39, .ref 40, .ref 41, .ref 42, .ref 43, .ref 44, .ref 45, .ref 46, .int (g 12), .int (g 13), .int (g 14), .int (g 15), .int (g 16), .int (g 17)] 14 (.int v)) : Ce) = sh t ex o 35 (upd g 14 v) := rfl
theorem sp_35_15 {t : Nat} {ex : Hp} {o : Nat → Int64} {g : Nat → Int32} {v : Int32} : (.inr (3, List.set [.ref 2, .ref 36, .ref 37, .ref 38, .ref 39, .ref 40, .ref 41, .ref 42, .ref 43, .ref 44, .ref 45, .ref 46, .int (g 12), .int (g 13), .int (g 14), .int (g 15), .int (g 16), .int (g 17)] 15 (.int v)) : Ce) = sh t ex o 35 (upd g 15 v) := rfl
theorem sp_35_16 {t : Nat} {ex : Hp} {o : Nat → Int64} {g : Nat → Int32} {v : Int32} : (.inr (3, List.set [.ref 2, .ref 36, .ref 37, .ref 38, .ref 39, .ref 40, .ref 41, .ref 42, .ref 43, .ref 44, .ref 45, .ref 46, .int (g 12), .int (g 13), .int (g 14), .int (g 15), .int (g 16), .int (g 17)] 16 (.int v)) : Ce) = sh t ex o 35 (upd g 16 v) := rfl
theorem sp_35_17 {t : Nat} {ex : Hp} {o : Nat → Int64} {g : Nat → Int32} {v : Int32} : (.inr (3, List.set [.ref 2, .ref 36, .ref 37, .ref 38, .ref 39, .ref 40, .ref 41, .ref 42, .ref 43, .ref 44, .ref 45, .ref 46, .int (g 12), .int (g 13), .int (g 14), .int (g 15), .int (g 16), .int (g 17)] 17 (.int v)) : Ce) = sh t ex o 35 (upd g 17 v) := rfl
theorem sp_47_0 {t : Nat} {ex : Hp} {o : Nat → Int64} {g : Nat → Int32} {v : Int32} : (.inr (5, List.set [.int (g 0), .int (g 1), .ref 48, .ref 49, .ref 50, .ref 51, .ref 52, .ref 53, .ref 54, .ref 55, .ref t, .int (g 11), .int (g 12), .ref 57, .ref 58, .ref 59] 0 (.int v)) : Ce) = sh t ex o 47 (upd g 0 v) := rfl
theorem sp_47_1 {t : Nat} {ex : Hp} {o : Nat → Int64} {g : Nat → Int32} {v : Int32} : (.inr (5, List.set [.int (g 0), .int (g 1), .ref 48, .ref 49, .ref 50, .ref 51, .ref 52, .ref 53, .ref 54, .ref 55, .ref t, .int (g 11), .int (g 12), .ref 57, .ref 58, .ref 59] 1 (.int v)) : Ce) = sh t ex o 47 (upd g 1 v) := rfl
theorem sp_47_11 {t : Nat} {ex : Hp} {o : Nat → Int64} {g : Nat → Int32} {v : Int32} : (.inr (5, List.set [.int (g 0), .int (g 1), .ref 48, .ref 49, .ref 50, .ref 51, .ref 52, .ref 53, .ref 54, .ref 55, .ref t, .int (g 11), .int (g 12), .ref 57, .ref 58, .ref 59] 11 (.int v)) : Ce) = sh t ex o 47 (upd g 11 v) := rfl
theorem sp_47_12 {t : Nat} {ex : Hp} {o : Nat → Int64} {g : Nat → Int32} {v : Int32} : (.inr (5, List.set [.int (g 0), .int (g 1), .ref 48, .ref 49, .ref 50, .ref 51, .ref 52, .ref 53, .ref 54, .ref 55, .ref t, .int (g 11), .int (g 12), .ref 57, .ref 58, .ref 59] 12 (.int v)) : Ce) = sh t ex o 47 (upd g 12 v) := rfl
