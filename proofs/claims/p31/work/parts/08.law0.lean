/-! THE CLAIM OUT OF ONE WALK OF THE LAW'S BODY. Your part is whole_start (and what it stands on); all else here is the same for every law, but numbers. -/
def R_law : String := "FoundryNineLaw"
def lw_P (b : Addr) (xs : List Int32) (args : Array Value) (s : State) : Prop := args = #[.ref b] ∧ s.IntsAt b xs ∧ xs.length ≤ 260 ∧ (Jvm.Cond.and given_1 narrow_1).before args s = true
def lw_Q (_ : Array Value) (s : State) (o : Outcome) (t : State) : Prop := o = .returned (some (.int 1)) ∧ Framed s o t [] 600074 7301550
def lw_Z (below : List Frame) (a : Array Value) (s : State) : State → Prop := fun t => ∃ o, t.status = .running ∧ Ended t below o ∧ lw_Q a s o t
/-- the law's own end, with 1 on the stack, nothing written that was there before, its room as the claim has it -/
theorem lw_ret {p : Program} {l : Launch} {e : Env} {s : State} {m : MethodId} {below : List Frame} {meth : Method} {c : Code} {b : Nat} (hx : p.tables.exec = Jvm.exec) (hb : c.code = code) (hr : meth.sig.returnType = ret) (hlocks : meth.locks = false) {pc : Nat} {H : Heap} {ls : Array Slot} (hdg : decode code pc = .ok (.ireturn, 1)) : W p l e room_1 s m #[Value.ref b] below meth c H [] 600074 7301550 (lw_Z below #[Value.ref b] s) (F0 m pc ls [.int 1]) := by
  intro T hT X
  obtain ⟨fs, hret, hrun, hended, hW, hframe⟩ := X.leave (v := some (.int 1)) (hlocks := hlocks) (fun h => by rw [hr] at h; cases h)
  have hmeth' : T.vm.method? m = some meth := X.method'
  refine ⟨T.setFrames fs, ?_, .returned (some (.int 1)), hrun, hended, rfl, ⟨_, rfl⟩, hW, hframe⟩
  jvm_step X.here [X.here.top, hx, hb, hdg, hmeth', hr, ret, narrow_b1]
  (try refine ⟨rfl, ?_⟩); (try refine ⟨rfl, ?_⟩)
  first | (intro acts; rw [hret _ acts rfl rfl rfl]) | rw [hret _ _ rfl rfl rfl]
  exact Steps.refl _
/-- what holds at the law's entry: the machine, the code, the tables' words (any of lw_tbl by 'hts w (by decide +kernel)'), the script of L ints xs at the cell b, what the Statement gives of the start (any of its parts by flat_of_before) -/
def lw_At (p : Program) (s : State) (m : MethodId) (meth : Method) (c : Code) (b L : Nat) (xs : Nat → Int32) : Prop :=
  p.tables.exec = Jvm.exec ∧ c.code = code ∧ meth.sig.returnType = ret ∧ c.maxLocals = 22 ∧ s.vm.findClass R_law = some m.cls ∧ (∀ w ∈ lw_tbl, w.before #[Value.ref b] s = true) ∧ va_X b L xs s s.heap ∧ b < s.heap.size ∧ meth.locks = false ∧ (Jvm.Cond.and given_1 narrow_1).before #[Value.ref b] s = true
/-! AW: the law's own start and end -/
theorem aw_ex0 : ∀ q ∈ aw_str, Cond.exactly (.string q.1 q.2.1) "java/lang/String" ∈ flatC (Jvm.Cond.and given_1 narrow_1) := by decide +kernel
theorem aw_nc0 : ∀ x ∈ aw_exc, ∀ y ∈ aw_exc, x ≠ y → Cond.not (.castable x y) ∈ flatC (Jvm.Cond.and given_1 narrow_1) := by decide +kernel
theorem aw_th0 : Cond.laysStatic Bundle.tN "UNASSIGNED_STACK" Bundle.steD ∈ lw_tbl ∧ Cond.laysStatic Bundle.tN "SUPPRESSED_SENTINEL" Bundle.listD ∈ lw_tbl ∧ Cond.initialized Bundle.tN ∈ lw_tbl ∧
    Cond.isRef (.static Bundle.tN "UNASSIGNED_STACK" Bundle.steD) ∈ flatC (Jvm.Cond.and given_1 narrow_1) ∧ Cond.isRef (.static Bundle.tN "SUPPRESSED_SENTINEL" Bundle.listD) ∈ flatC (Jvm.Cond.and given_1 narrow_1) := by decide +kernel
theorem aw_GF0 {args : Array Value} {s : State} (hts : ∀ w ∈ lw_tbl, w.before args s = true) (hgv : (Jvm.Cond.and given_1 narrow_1).before args s = true) : aw_GF (fun q => s.heap.size ≤ q) s := by
  have hf := flat_of_before _ hgv
  refine ⟨fun w hw ho => aw_stable ho (State.WarmedH.refl s) (hts w hw), fun q hq => ?_, fun x hx y hy hxy => va_Nc.of (hf _ (aw_nc0 x hx y hy hxy)), ?_, ?_, hts _ aw_q0⟩
  · obtain ⟨w, hw, he⟩ := List.mem_filterMap.mp hq
    have h1 := hts w hw
    have h2 := hf _ (aw_ex0 q hq)
    obtain ⟨a, c, cell, k, h3, -⟩ := Cond.exactly_spec h2
    cases w <;> first | (cases he) | skip
    exact ⟨a, vk_R.of h1 h3⟩
  · exact vx_Zqof (hts _ aw_th0.1) (hts _ aw_th0.2.2.1) (hf _ aw_th0.2.2.2.1) (fun a h1 h2 => Nat.not_lt.mpr h2 h1)
  · exact vx_Zqof (hts _ aw_th0.2.1) (hts _ aw_th0.2.2.1) (hf _ aw_th0.2.2.2.2) (fun a h1 h2 => Nat.not_lt.mpr h2 h1)
theorem aw_arr0 {args : Array Value} {s : State} {ty : FieldType} (h : (Cond.arrayClass ty).before args s = true) : ∃ c, ArrOfT s c ty ∧ s.vm.findClass ("[" ++ ty.toString) = some c := by
  obtain ⟨c, k, comp, h1, h2, h3⟩ := Cond.arrayClass_spec h
  exact ⟨c, fun n z => ⟨fun q hq => (by cases hq), k, h2, comp, h3⟩, h1⟩
theorem aw_ar0 : Cond.arrayClass .int ∈ lw_tbl ∧ Cond.arrayClass .boolean ∈ lw_tbl ∧ Cond.arrayClass .byte ∈ lw_tbl ∧ Cond.instantiable RX0 1 ∈ lw_tbl ∧ Cond.instantiable RX1 12 ∈ lw_tbl ∧ Cond.instantiable RX2 6 ∈ lw_tbl ∧ Cond.instantiable RX3 18 ∈ lw_tbl ∧ Cond.instantiable RX4 7 ∈ lw_tbl ∧ Cond.instantiable RX5 14 ∈ lw_tbl := by decide +kernel
theorem aw_K0 {args : Array Value} {s : State} (hts : ∀ w ∈ lw_tbl, w.before args s = true) : ∃ (D : va_G) (cT : FieldType → ClassId), va_K D aw_cl (aw_tys cT) s := by
  obtain ⟨a1, a2, a3, i0, i1, i2, i3, i4, i5⟩ := aw_ar0
  obtain ⟨t1, t1a, t1b⟩ := aw_arr0 (hts _ a1)
  obtain ⟨t2, t2a, t2b⟩ := aw_arr0 (hts _ a2)
  obtain ⟨t3, t3a, t3b⟩ := aw_arr0 (hts _ a3)
  obtain ⟨c0, s0, k0⟩ := u_known hts (fun w h => (aw_cw0 w h).1) (hts _ i0)
  obtain ⟨c1, s1, k1⟩ := u_known hts (fun w h => (aw_cw1 w h).1) (hts _ i1)
  obtain ⟨c2, s2, k2⟩ := u_known hts (fun w h => (aw_cw2 w h).1) (hts _ i2)
  obtain ⟨c3, s3, k3⟩ := u_known hts (fun w h => (aw_cw3 w h).1) (hts _ i3)
  obtain ⟨c4, s4, k4⟩ := u_known hts (fun w h => (aw_cw4 w h).1) (hts _ i4)
  obtain ⟨c5, s5, k5⟩ := u_known hts (fun w h => (aw_cw5 w h).1) (hts _ i5)
  obtain ⟨comp, t4, k4', q1, -, q3, q4, q5⟩ := arrayOverA_spec (hts _ aw_q0)
  have t4a : ArrOfT s t4 (.array .int) := fun n z => ⟨fun q hq => (by cases hq), k4', q3, comp, q4⟩
  refine ⟨(fun k => [c0, c1, c2, c3, c4, c5].getD k 0, fun k => [s0, s1, s2, s3, s4, s5].getD k (fun _ => 0)), fun t => match t with | .int => t1 | .boolean => t2 | .byte => t3 | _ => t4, ?_, ?_⟩
  · intro k q hq
    match k, hq with
    | 0, hq => cases hq; exact k0
    | 1, hq => cases hq; exact k1
    | 2, hq => cases hq; exact k2
    | 3, hq => cases hq; exact k3
    | 4, hq => cases hq; exact k4
    | 5, hq => cases hq; exact k5
    | k + 6, hq => simp at hq
  · intro k q hq
    match k, hq with
    | 0, hq => cases hq; exact ⟨t1a, t1b⟩
    | 1, hq => cases hq; exact ⟨t2a, t2b⟩
    | 2, hq => cases hq; exact ⟨t3a, t3b⟩
    | 3, hq => cases hq; exact ⟨t4a, q5⟩
    | k + 4, hq => simp [aw_tys] at hq
theorem aw_room_le {s : State} {pl : Platform} {r r' : Room} (hf : r.frames ≤ r'.frames) (hl : r.locals ≤ r'.locals) (hc : r.cells ≤ r'.cells) (hs : r.slots ≤ r'.slots) (h : s.hasRoom pl r' = true) : s.hasRoom pl r = true := by
  simp only [State.hasRoom, Bool.and_eq_true, decide_eq_true_eq] at h ⊢
  obtain ⟨⟨⟨⟨h1, h2, h3, h4, h5, h6⟩, h7⟩, h8⟩, h9⟩ := h
  exact ⟨⟨⟨⟨by omega, by omega, by omega, by omega, by omega, h6⟩, by omega⟩, by omega⟩, h9⟩
abbrev mlaw : Mt := (x, code, 22, ret, [])
def aw_QL : Po := fun o _ _ => o = .inl (some (.int 1))
theorem aw_law {p : Program} {e : Env} {s : State} {m : MethodId} {below : List Frame} {meth : Method} {c : Code} (l : Launch) (hflags : l.flags = flags0) {b L : Nat} {xs : Nat → Int32} (C0 : lw_At p s m meth c b L xs) (hnm : meth.name = x.name) (htb : c.exceptionTable.toList = [])
    (K : ∀ h : Hp, AW (aw_ZL L xs) mlaw 2028 1 600074 7301550 aw_QL 0 (.ref 0 :: List.replicate 21 .null) [] h 1 0 0) :
    W p l e room_1 s m #[Value.ref b] below meth c s.heap [] 0 0 (lw_Z below #[Value.ref b] s) (entryFrame m ([Value.ref b] : List Value).toArray 22) := by
  obtain ⟨hx, hb, hr, hml, hown, hts, hX, hbl, hlocks, hgv⟩ := id C0
  obtain ⟨D, cT, hK⟩ := aw_K0 hts
  have hst : l.stackTraces = false := by
    show (!l.flags.contains noTraceFlag) = false
    rw [hflags]
    decide +kernel
  have hent := aw_entry (ad := fun _ => b) (k := 1) (nL := 22) (n := 21) (as := [.ref 0]) (L := (.ref 0 :: List.replicate 21 .null)) rfl rfl (fun v hv => by rw [List.mem_singleton] at hv; subst hv; exact Nat.one_pos)
  have hA : ¬ (fun q : Nat => s.heap.size ≤ q) b := Nat.not_le.mpr hbl
  have hW := K (fun _ => .inr (0, [])) l D cT p e s m #[Value.ref b] below meth c (fun _ => b) (fun _ => b) (fun q : Nat => s.heap.size ≤ q) s.heap [] _
    ⟨hst, hx, hb, hml, hr, hlocks, hnm, hown, htb, aw_GF0 hts hgv, fun q hq => hq, hX, hbl, hA⟩ (fun _ _ => rfl) (Nat.le_refl _) va_S.rf
    ⟨fun k q h => by simp [aw_ws] at h, ⟨fun i j p q h => by simp [aw_ws] at h, fun k q h => by simp [aw_ws] at h⟩, hK, Nat.one_pos, fun i h0 h1 => absurd h1 (by omega)⟩ hent (fun v hv => nomatch hv)
  rw [lg_entry_eq]
  intro T hT X
  obtain ⟨t, a1, o, b1, b2, b3⟩ := hW T hT { X with room := aw_room_le (Nat.le_of_ble_eq_true rfl) (Nat.le_of_ble_eq_true rfl) (Nat.le_of_ble_eq_true rfl) (Nat.le_of_ble_eq_true rfl) X.room }
  refine ⟨t, a1, o, b1, b2, ?_⟩
  rcases b3 with ⟨⟨⟨v, h', k', ad', rfl, hq, -⟩, -⟩, Lc, hF, hL⟩ | ⟨q, rfl, E, ce, Lc, ⟨⟨h', k', ad', hq, -⟩, -⟩, -⟩
  · have hv : v = some (.int 1) := Sum.inl.inj hq
    subst hv
    refine ⟨rfl, ?_⟩
    obtain ⟨f1, f2, f3⟩ := hF
    refine ⟨f1, f2, ?_⟩
    exact f3.weaken (fun y hy hlt => absurd hlt (Nat.not_lt.mpr (hL y hy))) (Nat.le_refl _) (Nat.le_refl _)
  · exact absurd hq (fun e => by cases e)
