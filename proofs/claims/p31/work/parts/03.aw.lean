/-! AW: a layer of the verifier's own over the kit's rows. A heap of cells by small numbers (ids), a world of all of them at once, one judgement AW at a program point, one contract AM a method. Terms stay free of addresses. -/
abbrev Mt : Type := MethodName × ByteArray × Nat × Option FieldType × List (Nat × Nat × Nat × Nat)
abbrev Out : Type := Option Value ⊕ String
abbrev Ce : Type := (FieldType × vp_A) ⊕ (Nat × List Value)
abbrev Hp : Type := Nat → Ce
abbrev Po : Type := Out → Hp → Nat → Prop
abbrev Gz : Type := State → (Nat → Prop) → (Nat → Nat) → Prop
def aw_cv (ad : Nat → Nat) (v : Value) : Value := match v with
  | .ref i => .ref (ad i)
  | w => w
def aw_ok (k : Nat) (v : Value) : Prop := match v with
  | .ref i => i < k
  | _ => True
/-- the contents of an array, its references by their addresses -/
def aw_ca (ad : Nat → Nat) (a : vp_A) : vp_A := (a.1, match a.2 with
  | .inl f => .inl f
  | .inr (.inl f) => .inr (.inl f)
  | .inr (.inr (.inl f)) => .inr (.inr (.inl f))
  | .inr (.inr (.inr (.inl f))) => .inr (.inr (.inr (.inl f)))
  | .inr (.inr (.inr (.inr f))) => .inr (.inr (.inr (.inr fun j => (f j).map ad))))
def aw_oka (k : Nat) (a : vp_A) : Prop := match a.2 with
  | .inr (.inr (.inr (.inr f))) => ∀ j i, f j = some i → i < k
  | _ => True
def aw_ce (cT : FieldType → ClassId) (ad : Nat → Nat) (c : Ce) : va_E := match c with
  | .inl x => .inl (cT x.1, aw_ca ad x.2)
  | .inr o => .inr (o.1, o.2.map (aw_cv ad))
def aw_okc (k : Nat) (c : Ce) : Prop := match c with
  | .inl x => aw_oka k x.2
  | .inr o => ∀ v ∈ o.2, aw_ok k v
def aw_ws (cT : FieldType → ClassId) (ad : Nat → Nat) (h : Hp) (k : Nat) : va_W := (List.range (k - 1)).map fun i => (ad (i + 1), aw_ce cT ad (h (i + 1)))
def aw_tys (cT : FieldType → ClassId) : List (ClassId × FieldType) := [(cT .int, .int), (cT .boolean, .boolean), (cT .byte, .byte), (cT (.array .int), .array .int)]
abbrev aw_cl : List vw_C := [(RX0, TX0, 1), (RX1, TX1, 12), (RX2, TX2, 6), (RX3, TX3, 18), (RX4, TX4, 7), (RX5, TX5, 14)]
def aw_Wo (D : va_G) (cT : FieldType → ClassId) (A : Nat → Prop) (ad : Nat → Nat) (h : Hp) (k : Nat) (H : Heap) (U : State) : Prop :=
  va_P D aw_cl (aw_ws cT ad h k) H ∧ va_D A (aw_ws cT ad h k) ∧ va_K D aw_cl (aw_tys cT) U ∧ 0 < k ∧ ∀ i, 0 < i → i < k → aw_okc k (h i)
def aw_nest (w : Cond) : Bool := match w with
  | .fieldLinkNest .. => true
  | .methodLinkNest .. => true
  | _ => false
def aw_okw (w : Cond) : Bool := goodWord w || aw_nest w || (w.onTables && w.faceAtom)
def aw_str : List (String × Nat × String) := lw_tbl.filterMap fun w => match w with
  | .stringRef o i t => some (o, i, t)
  | _ => none
def aw_exc : List String := []
/-- rows of rows of ints are made by anewarray -/
def aw_AO (U : State) : Prop := (Cond.arrayOver (.array .int)).before #[] U = true
theorem aw_AO.moved {u U : State} (hvm : u.vm.Alike U.vm) (h : aw_AO u) : aw_AO U := by
  obtain ⟨comp, c, k, h1, h2, h3, h4, h5⟩ := arrayOverA_spec h
  obtain ⟨k', hk', he⟩ := hvm.2.2 _ _ h3
  have hi : (U.vm.classes.findIdx? fun (x : Class) => match x.kind with | .array component _ => component == comp | _ => false) = some c := by
    have q1 := va_idx_bare U.vm comp
    have q2 := va_idx_bare u.vm comp
    have e : U.vm.bare = u.vm.bare := by first | exact hvm.bare_eq | exact hvm.bare_eq.symm
    rw [e] at q1
    exact q1.symm.trans (q2.trans h2)
  have hkind : k'.kind = .array comp (.array .int) := by rw [he]; exact h4
  have f1 : U.vm.findClass (FieldType.array .int).toString = some comp := by rw [hvm.findClass]; exact h1
  have f2 : U.vm.findClass ("[" ++ (FieldType.array .int).toString) = some c := by rw [hvm.findClass]; exact h5
  unfold aw_AO Cond.before Cond.holds
  simp only [Cond.value]
  rw [f1, Option.bind_some]
  refine (congrArg (fun o : Option Nat => (o.bind (fun c => (U.vm.classes[c]?).map fun (k : Class) => match k.kind with | .array _ ty => decide (ty = FieldType.array .int) && decide (U.vm.findClass ("[" ++ (FieldType.array .int).toString) = some c) | _ => false) == some true)) hi).trans ?_
  simp [hk', hkind, f2]
def aw_GF (A : Nat → Prop) (U : State) : Prop :=
  (∀ w ∈ lw_tbl, aw_okw w = true → w.before #[] U = true) ∧ (∀ q ∈ aw_str, ∃ a, vk_R q.1 q.2.1 q.2.2 a U) ∧ (∀ x ∈ aw_exc, ∀ y ∈ aw_exc, x ≠ y → va_Nc x y U) ∧
  vx_Zq Bundle.tN "UNASSIGNED_STACK" Bundle.steD A U U.heap ∧ vx_Zq Bundle.tN "SUPPRESSED_SENTINEL" Bundle.listD A U U.heap ∧ aw_AO U
def aw_cw (μ : Mt) : Cond := match μ.2.2.2.2 with
  | [] => .code μ.1 μ.2.1 μ.2.2.1 μ.2.2.2.1
  | hh => .codeWith μ.1 μ.2.1 μ.2.2.1 μ.2.2.2.1 hh
def aw_Cx (Z : Gz) (μ : Mt) (l : Launch) (p : Program) (s : State) (m : MethodId) (args : Array Value) (meth : Method) (c : Code) (ad0 : Nat → Nat) (A : Nat → Prop) : Prop :=
  l.stackTraces = false ∧ p.tables.exec = Jvm.exec ∧ c.code = μ.2.1 ∧ c.maxLocals = μ.2.2.1 ∧ meth.sig.returnType = μ.2.2.2.1 ∧ meth.locks = false ∧ meth.name = μ.1.name ∧
  s.vm.findClass μ.1.cls = some m.cls ∧ c.exceptionTable.toList = tableOf μ.2.2.2.2 ∧ aw_GF A s ∧ (∀ q, s.heap.size ≤ q → A q) ∧ Z s A ad0
def aw_Lv (nL : Nat) (ad : Nat → Nat) (k : Nat) (ls : Array Slot) (L : List Value) : Prop :=
  ls.size = nL ∧ lv_wf ls ∧ ∀ (i : Nat) (v : Value), L[i]? = some v → v ≠ .null → ls[i]? = some (.val (aw_cv ad v)) ∧ aw_ok k v
def aw_Qc (D : va_G) (cT : FieldType → ClassId) (A : Nat → Prop) (ad0 : Nat → Nat) (k0 : Nat) (Q : Po) : Array Value → State → Outcome → State → Prop := fun _ st oc t =>
  (∃ (v : Option Value) (h' : Hp) (k' : Nat) (ad' : Nat → Nat), oc = .returned (v.map (aw_cv ad')) ∧ Q (.inl v) h' k' ∧ (∀ i, i < k0 → ad' i = ad0 i) ∧ k0 ≤ k' ∧ (∀ w, v = some w → aw_ok k' w) ∧ aw_Wo D cT A ad' h' k' t.heap t) ∧ va_F A st t
def aw_Xc (D : va_G) (cT : FieldType → ClassId) (A : Nat → Prop) (ad0 : Nat → Nat) (k0 : Nat) (Q : Po) : String → State → State → Prop := fun E st t =>
  (∃ (h' : Hp) (k' : Nat) (ad' : Nat → Nat), Q (.inr E) h' k' ∧ (∀ i, i < k0 → ad' i = ad0 i) ∧ k0 ≤ k' ∧ aw_Wo D cT A ad' h' k' t.heap t) ∧ va_F A st t
def aw_R (d mc ms : Nat) : Room := { frames := d + 20, cells := mc, slots := ms, locals := 41 * d + 852 }
/-- at pc of the method μ, with locals L, operands S, the heap h of the ids below k, cs cells of ss slots made so far: the method comes to an end with Q -/
def AW (Z : Gz) (μ : Mt) (d k0 mc ms : Nat) (Q : Po) (pc : Nat) (L S : List Value) (h : Hp) (k cs ss : Nat) : Prop :=
  ∀ (l : Launch) (D : va_G) (cT : FieldType → ClassId) (p : Program) (e : Env) (s : State) (m : MethodId) (args : Array Value) (below : List Frame) (meth : Method) (c : Code) (ad0 ad : Nat → Nat) (A : Nat → Prop) (H : Heap) (locs : List Loc) (ls : Array Slot),
    aw_Cx Z μ l p s m args meth c ad0 A → (∀ i, i < k0 → ad i = ad0 i) → k0 ≤ k → va_S A s.heap H locs → aw_Wo D cT A ad h k H s → aw_Lv μ.2.2.1 ad k ls L → (∀ v ∈ S, aw_ok k v) →
    W p l e (aw_R d mc ms) s m args below meth c H locs cs ss (vx_MQ below (aw_Qc D cT A ad0 k0 Q) (aw_Xc D cT A ad0 k0 Q) args s mc ms A) (F0 m pc ls (S.map (aw_cv ad)))
def aw_Z0 : Gz := fun _ _ _ => True
/-- the contract of the method μ at these arguments and this heap: it ends with Q, at most mc cells of ms slots are new -/
def AM (μ : Mt) (d : Nat) (as : List Value) (h : Hp) (k mc ms : Nat) (Q : Po) : Prop :=
  ∀ (l : Launch) (D : va_G) (cT : FieldType → ClassId) (ad : Nat → Nat) (sz : Nat), l.stackTraces = false →
    vx_Met l μ.1 [aw_cw μ] (aw_R d mc ms) (va_Pc (as.map (aw_cv ad)) (fun U => U.heap.size = sz ∧ (∀ v ∈ as, aw_ok k v) ∧ aw_Wo D cT (va_A (aw_ws cT ad h k) sz) ad h k U.heap U ∧ aw_GF (va_A (aw_ws cT ad h k) sz) U))
      (aw_Qc D cT (va_A (aw_ws cT ad h k) sz) ad k Q) (aw_Xc D cT (va_A (aw_ws cT ad h k) sz) ad k Q) mc ms (va_A (aw_ws cT ad h k) sz)
/-! words -/
theorem aw_stable {w : Cond} (hw : aw_okw w = true) {a a' : Array Value} {s U : State} (hW : s.WarmedH U.vm) (h : w.before a s = true) : w.before a' U = true := by
  simp only [aw_okw, Bool.or_eq_true, Bool.and_eq_true] at hw
  rcases hw with (hw | hw) | ⟨hw, hf⟩
  · exact word_at hW (good_of_word hw) h
  · cases w
    case fieldLinkNest => exact va_tabs rfl (rfl : (s.setVm U.vm).vm = U.vm) (Cond.fieldLinkNest_warmed (args := a) hW h)
    case methodLinkNest => exact va_tabs rfl (rfl : (s.setVm U.vm).vm = U.vm) (Cond.methodLinkNest_warmed (args := a) hW h)
    all_goals exact absurd hw (by simp [aw_nest])
  · exact va_tabs hw (rfl : (s.setVm U.vm).vm = U.vm) (Cond.faceAtom_setVm hW.alike w hf h)
theorem aw_GF.moved {A B : Nat → Prop} {s U : State} (h : aw_GF A s) (hW : s.WarmedH U.vm) (hq : ∀ a : Nat, a < s.heap.size → ¬ A a → U.heap[a]? = s.heap[a]?) (hAB : ∀ q, B q → A q) : aw_GF B U := by
  obtain ⟨h1, h2, h3, h4, h5, h6⟩ := h
  exact ⟨fun w hw ho => aw_stable ho hW (h1 w hw ho), fun q hq => by obtain ⟨a, ha⟩ := h2 q hq; exact ⟨a, ha.warm hW⟩, fun x hx y hy hxy => (h3 x hx y hy hxy).moved hW.alike,
    vx_Zq.moved hW.alike ((h4.kept hq).narrow hAB), vx_Zq.moved hW.alike ((h5.kept hq).narrow hAB), h6.moved hW.alike⟩
/-! values and cells under another map of addresses -/
theorem aw_cv_congr {ad ad' : Nat → Nat} {k : Nat} {v : Value} (h : aw_ok k v) (e : ∀ i, i < k → ad' i = ad i) : aw_cv ad' v = aw_cv ad v := by
  cases v <;> first | rfl | (show Value.ref _ = Value.ref _; rw [e _ h])
theorem aw_ok_le {k k' : Nat} {v : Value} (h : aw_ok k v) (hk : k ≤ k') : aw_ok k' v := by
  cases v <;> first | trivial | exact Nat.lt_of_lt_of_le h hk
theorem aw_oka_le {k k' : Nat} {a : vp_A} (h : aw_oka k a) (hk : k ≤ k') : aw_oka k' a := by
  obtain ⟨n, a⟩ := a
  rcases a with f | f | f | f | f
  · trivial
  · trivial
  · trivial
  · trivial
  · exact fun j i e => Nat.lt_of_lt_of_le (h j i e) hk
theorem aw_ca_congr {ad ad' : Nat → Nat} {k : Nat} {a : vp_A} (h : aw_oka k a) (e : ∀ i, i < k → ad' i = ad i) : aw_ca ad' a = aw_ca ad a := by
  obtain ⟨n, a⟩ := a
  rcases a with f | f | f | f | f
  · rfl
  · rfl
  · rfl
  · rfl
  · have : (fun j => (f j).map ad') = fun j => (f j).map ad := by
      funext j
      cases hj : f j with
      | none => rfl
      | some i => simp only [Option.map_some, e i (h j i hj)]
    show ((n, .inr (.inr (.inr (.inr fun j => (f j).map ad')))) : vp_A) = (n, .inr (.inr (.inr (.inr fun j => (f j).map ad))))
    rw [this]
theorem aw_okc_le {k k' : Nat} {c : Ce} (h : aw_okc k c) (hk : k ≤ k') : aw_okc k' c := by
  rcases c with c | c
  · exact aw_oka_le h hk
  · exact fun v hv => aw_ok_le (h v hv) hk
theorem aw_ce_congr {cT : FieldType → ClassId} {ad ad' : Nat → Nat} {k : Nat} {c : Ce} (h : aw_okc k c) (e : ∀ i, i < k → ad' i = ad i) : aw_ce cT ad' c = aw_ce cT ad c := by
  rcases c with c | c
  · show Sum.inl (cT c.1, aw_ca ad' c.2) = Sum.inl (cT c.1, aw_ca ad c.2)
    rw [aw_ca_congr h e]
  · show Sum.inr _ = Sum.inr _
    rw [List.map_congr_left fun v hv => aw_cv_congr (h v hv) e]
theorem aw_cat (ad : Nat → Nat) (v : Value) : (aw_cv ad v).category = v.category := by cases v <;> rfl
theorem aw_ws_len (cT : FieldType → ClassId) (ad : Nat → Nat) (h : Hp) (k : Nat) : (aw_ws cT ad h k).length = k - 1 := by simp [aw_ws]
theorem aw_ws_at (cT : FieldType → ClassId) (ad : Nat → Nat) (h : Hp) {k i : Nat} (h0 : 0 < i) (hi : i < k) : (aw_ws cT ad h k)[i - 1]? = some (ad i, aw_ce cT ad (h i)) := by
  have e : i - 1 + 1 = i := Nat.sub_add_cancel h0
  simp only [aw_ws, List.getElem?_map]
  rw [List.getElem?_range (by omega)]
  simp [e]
theorem aw_ws_out {cT : FieldType → ClassId} {ad : Nat → Nat} {h : Hp} {k j : Nat} {q : Nat × va_E} (hq : (aw_ws cT ad h k)[j]? = some q) : j + 1 < k ∧ q = (ad (j + 1), aw_ce cT ad (h (j + 1))) := by
  have hl : j < k - 1 := by
    have := (List.getElem?_eq_some_iff.mp hq).1
    rwa [aw_ws_len] at this
  have h2 := aw_ws_at cT ad h (k := k) (i := j + 1) (Nat.succ_pos j) (by omega)
  rw [Nat.add_sub_cancel, hq] at h2
  exact ⟨by omega, Option.some.inj h2⟩
theorem aw_ws_set (cT : FieldType → ClassId) (ad : Nat → Nat) (h : Hp) {k i : Nat} (h0 : 0 < i) (hi : i < k) (e : Ce) : (aw_ws cT ad h k).set (i - 1) (ad i, aw_ce cT ad e) = aw_ws cT ad (va_up h i e) k := by
  apply List.ext_getElem?
  intro j
  by_cases hj : j + 1 < k
  · have h2 := aw_ws_at cT ad (va_up h i e) (k := k) (i := j + 1) (Nat.succ_pos j) hj
    rw [Nat.add_sub_cancel] at h2
    rw [h2]
    by_cases hji : j + 1 = i
    · have e1 : i - 1 = j := by omega
      rw [e1, List.getElem?_set_self (by rw [aw_ws_len]; omega)]
      subst hji
      simp [va_up]
    · rw [List.getElem?_set_ne (by omega)]
      have h3 := aw_ws_at cT ad h (k := k) (i := j + 1) (Nat.succ_pos j) hj
      rw [Nat.add_sub_cancel] at h3
      rw [h3]
      simp [va_up, hji]
  · rw [List.getElem?_eq_none (by rw [List.length_set, aw_ws_len]; omega), List.getElem?_eq_none (by rw [aw_ws_len]; omega)]
theorem aw_ws_push (cT : FieldType → ClassId) (ad : Nat → Nat) (h : Hp) {k : Nat} (h0 : 0 < k) (hok : ∀ i, 0 < i → i < k → aw_okc k (h i)) (q : Nat) (e : Ce) (he : aw_okc k e) :
    aw_ws cT (va_up ad k q) (va_up h k e) (k + 1) = aw_ws cT ad h k ++ [(q, aw_ce cT ad e)] := by
  have hc : ∀ i, i < k → va_up ad k q i = ad i := fun i hi => by simp [va_up, Nat.ne_of_lt hi]
  apply List.ext_getElem?
  intro j
  by_cases hj : j + 1 < k
  · have h2 := aw_ws_at cT (va_up ad k q) (va_up h k e) (k := k + 1) (i := j + 1) (Nat.succ_pos j) (by omega)
    have h3 := aw_ws_at cT ad h (k := k) (i := j + 1) (Nat.succ_pos j) hj
    rw [Nat.add_sub_cancel] at h2 h3
    rw [h2, List.getElem?_append_left (by rw [aw_ws_len]; omega), h3, hc _ hj]
    have e1 : va_up h k e (j + 1) = h (j + 1) := by simp [va_up, Nat.ne_of_lt hj]
    rw [e1, aw_ce_congr (hok _ (Nat.succ_pos j) hj) hc]
  · by_cases hj2 : j + 1 = k
    · have h2 := aw_ws_at cT (va_up ad k q) (va_up h k e) (k := k + 1) (i := j + 1) (Nat.succ_pos j) (by omega)
      rw [Nat.add_sub_cancel] at h2
      rw [h2, List.getElem?_append_right (by rw [aw_ws_len]; omega), aw_ws_len]
      have e0 : j - (k - 1) = 0 := by omega
      rw [e0]
      subst hj2
      simp only [va_up, if_true, List.getElem?_cons_zero]
      rw [← aw_ce_congr he hc]
    · rw [List.getElem?_eq_none (by rw [aw_ws_len]; omega), List.getElem?_eq_none (by rw [List.length_append, aw_ws_len]; simp; omega)]
theorem aw_ws_kept {cT : FieldType → ClassId} {ad ad' : Nat → Nat} {h : Hp} {k : Nat} (hok : ∀ i, 0 < i → i < k → aw_okc k (h i)) (e : ∀ i, i < k → ad' i = ad i) : aw_ws cT ad' h k = aw_ws cT ad h k := by
  apply List.ext_getElem?
  intro j
  by_cases hj : j + 1 < k
  · have h2 := aw_ws_at cT ad' h (k := k) (i := j + 1) (Nat.succ_pos j) hj
    have h3 := aw_ws_at cT ad h (k := k) (i := j + 1) (Nat.succ_pos j) hj
    rw [Nat.add_sub_cancel] at h2 h3
    rw [h2, h3, e _ hj, aw_ce_congr (hok _ (Nat.succ_pos j) hj) e]
  · rw [List.getElem?_eq_none (by rw [aw_ws_len]; omega), List.getElem?_eq_none (by rw [aw_ws_len]; omega)]
/-! into a method's body, out of it -/
def aw_loc (vs : List Value) : List Value := match vs with
  | [] => []
  | v :: vs => if v.category = 2 then v :: .null :: aw_loc vs else v :: aw_loc vs
theorem aw_loc_in (ad : Nat → Nat) (n : Nat) : ∀ (vs : List Value) (b i : Nat) (v : Value), (aw_loc vs ++ List.replicate n .null)[i]? = some v → v ≠ .null → v ∈ vs ∧ (b + i, aw_cv ad v) ∈ lv_args b (vs.map (aw_cv ad))
  | [], b, i, v, h, hv => by
    rw [aw_loc, List.nil_append] at h
    have := List.mem_of_getElem? h
    exact absurd (List.eq_of_mem_replicate this) hv
  | w :: vs, b, i, v, h, hv => by
    have hc := aw_cat ad w
    by_cases h2 : w.category = 2
    · rw [aw_loc, if_pos h2] at h
      simp only [List.map_cons, lv_args, hc, if_pos h2]
      match i, h with
      | 0, h =>
        simp only [List.cons_append, List.getElem?_cons_zero, Option.some.injEq] at h
        subst h
        exact ⟨List.mem_cons_self, List.mem_cons_self⟩
      | 1, h =>
        simp only [List.cons_append, List.getElem?_cons_succ, List.getElem?_cons_zero, Option.some.injEq] at h
        exact absurd h.symm hv
      | i + 2, h =>
        simp only [List.cons_append, List.getElem?_cons_succ] at h
        obtain ⟨h3, h4⟩ := aw_loc_in ad n vs (b + 2) i v h hv
        exact ⟨List.mem_cons_of_mem _ h3, List.mem_cons_of_mem _ (by rw [show b + (i + 2) = b + 2 + i by omega]; exact h4)⟩
    · rw [aw_loc, if_neg h2] at h
      simp only [List.map_cons, lv_args, hc, if_neg h2]
      match i, h with
      | 0, h =>
        simp only [List.cons_append, List.getElem?_cons_zero, Option.some.injEq] at h
        subst h
        exact ⟨List.mem_cons_self, List.mem_cons_self⟩
      | i + 1, h =>
        simp only [List.cons_append, List.getElem?_cons_succ] at h
        obtain ⟨h3, h4⟩ := aw_loc_in ad n vs (b + 1) i v h hv
        exact ⟨List.mem_cons_of_mem _ h3, List.mem_cons_of_mem _ (by rw [show b + (i + 1) = b + 1 + i by omega]; exact h4)⟩
theorem aw_lg_len (ad : Nat → Nat) : ∀ vs : List Value, (lg_sl (vs.map (aw_cv ad))).length = (aw_loc vs).length
  | [] => rfl
  | w :: vs => by
    have hc := aw_cat ad w
    have ih := aw_lg_len ad vs
    by_cases h2 : w.category = 2 <;> simp [lg_sl, aw_loc, hc, h2] at ih ⊢ <;> omega
theorem aw_entry {ad : Nat → Nat} {k nL n : Nat} {as L : List Value} (hn : (aw_loc as).length + n = nL) (hL : aw_loc as ++ List.replicate n .null = L) (hok : ∀ v ∈ as, aw_ok k v) :
    aw_Lv nL ad k ((lg_sl (as.map (aw_cv ad)) ++ List.replicate (nL - (lg_sl (as.map (aw_cv ad))).length) Slot.unset).toArray) L := by
  have h := lv_entry (as.map (aw_cv ad)) (n := nL) (by rw [aw_lg_len]; omega)
  refine ⟨h.1, h.2.1, fun i v hi hv => ?_⟩
  rw [← hL] at hi
  obtain ⟨h3, h4⟩ := aw_loc_in ad n as 0 i v hi hv
  rw [Nat.zero_add] at h4
  exact ⟨h.2.2 _ h4, hok v h3⟩
theorem aw_self {D : va_G} {cT : FieldType → ClassId} {A : Nat → Prop} {ad : Nat → Nat} {h : Hp} {k : Nat} {H : Heap} {U : State} (w : aw_Wo D cT A ad h k H U) {sz : Nat} : aw_Wo D cT (va_A (aw_ws cT ad h k) sz) ad h k H U := ⟨w.1, w.2.1.self, w.2.2.1, w.2.2.2⟩
set_option maxHeartbeats 4000000 in
theorem AM.intro {μ : Mt} {d n : Nat} {as L : List Value} {h : Hp} {k mc ms : Nat} {Q : Po} (hy : plainName μ.1.cls = true) (hh : μ.2.2.2.2 = []) (hn : (aw_loc as).length + n = μ.2.2.1) (hL : aw_loc as ++ List.replicate n .null = L)
    (K : AW aw_Z0 μ d k mc ms Q 0 L [] h k 0 0) : AM μ d as h k mc ms Q := by
  intro l D cT ad sz hl
  have hcw : aw_cw μ = .code μ.1 μ.2.1 μ.2.2.1 μ.2.2.2.1 := by unfold aw_cw; rw [hh]
  refine vx_ofW (cc := μ.2.1) (maxL := μ.2.2.1) (ret := μ.2.2.2.1) (ws' := []) hy (by rw [hcw]) ?_
  intro p e s m args below meth c s₁ B hml ht hv
  obtain ⟨rfl, hsz, hok, hw, hg⟩ := hv
  subst hsz
  have hnm := (name_of_methodNamed B.named B.method).1
  rw [lg_entry_eq]
  refine K l D cT p e s m _ below meth c ad ad _ s.heap [] _ ⟨hl, B.exec, B.bytes, hml, B.returns, B.notSynchronized, hnm, findClass_of_methodNamed B.named, ?_, hg, fun q hq => Or.inr hq, trivial⟩ (fun _ _ => rfl) (Nat.le_refl _) va_S.rf hw (aw_entry hn hL hok) (fun v hv => nomatch hv)
  rw [hh]
  cases he : c.exceptionTable.toList with
  | nil => rfl
  | cons x y => exact absurd (ht x (by rw [he]; exact List.mem_cons_self)) id
section Rows
variable {Z : Gz} {μ : Mt} {d k0 mc ms : Nat} {Q : Po} {pc : Nat} {L S : List Value} {h : Hp} {k cs ss : Nat}
/-- a row that leaves heap and locals -/
theorem AW.pure {pc' : Nat} {S' : List Value} (hok : (∀ v ∈ S, aw_ok k v) → (∀ (i : Nat) (v : Value), L[i]? = some v → v ≠ .null → aw_ok k v) → ∀ v ∈ S', aw_ok k v)
    (hW : ∀ (l : Launch) (p : Program) (e : Env) (R : Room) (s : State) (m : MethodId) (args : Array Value) (below : List Frame) (meth : Method) (c : Code) (H : Heap) (locs : List Loc) (F : State → Prop) (ls : Array Slot) (ad : Nat → Nat),
      p.tables.exec = Jvm.exec → c.code = μ.2.1 → s.vm.findClass μ.1.cls = some m.cls → (∀ w ∈ lw_tbl, aw_okw w = true → w.before args s = true) → aw_Lv μ.2.2.1 ad k ls L →
      W p l e R s m args below meth c H locs cs ss F (F0 m pc' ls (S'.map (aw_cv ad))) → W p l e R s m args below meth c H locs cs ss F (F0 m pc ls (S.map (aw_cv ad))))
    (K : AW Z μ d k0 mc ms Q pc' L S' h k cs ss) : AW Z μ d k0 mc ms Q pc L S h k cs ss := by
  intro l D cT p e s m args below meth c ad0 ad A H locs ls hC ha hk hS hw hl hs
  refine hW l p e _ s m args below meth c H locs _ ls ad hC.2.1 hC.2.2.1 hC.2.2.2.2.2.2.2.1 (fun w h1 h2 => aw_stable h2 (State.WarmedH.refl s) (hC.2.2.2.2.2.2.2.2.2.1.1 w h1 h2)) hl ?_
  exact K l D cT p e s m args below meth c ad0 ad A H locs ls hC ha hk hS hw hl (hok hs fun i v h1 h2 => (hl.2.2 i v h1 h2).2)
theorem aw_ok_cons {v : Value} (h1 : aw_ok k v) (h2 : ∀ w ∈ S, aw_ok k w) : ∀ w ∈ v :: S, aw_ok k w := fun w hw => by
  rcases List.mem_cons.mp hw with rfl | hw
  · exact h1
  · exact h2 w hw
theorem aw_okI {v : Int32} : aw_ok k (.int v) := trivial
theorem aw_okJ {v : Int64} : aw_ok k (.long v) := trivial
theorem aw_okD {v : UInt64} : aw_ok k (.double v) := trivial
theorem aw_ok_tail {v : Value} (h : ∀ w ∈ v :: S, aw_ok k w) : ∀ w ∈ S, aw_ok k w := fun w hw => h w (List.mem_cons_of_mem _ hw)
theorem AW.iconst {n : Int} {v : Int32} (hd : decode μ.2.1 pc = .ok (.iconst n, 1)) (hv : Int32.ofInt n = v) (K : AW Z μ d k0 mc ms Q (pc + 1) L (.int v :: S) h k cs ss) : AW Z μ d k0 mc ms Q pc L S h k cs ss :=
  AW.pure (fun h _ => aw_ok_cons aw_okI h) (fun _ _ _ _ _ _ _ _ _ _ _ _ _ _ _ hx hb _ _ _ q => lv_iconst hx hb hd hv q) K
theorem AW.bipush {n : Int} {v : Int32} (hd : decode μ.2.1 pc = .ok (.bipush n, 2)) (hv : (Int8.ofInt n).toInt32 = v) (K : AW Z μ d k0 mc ms Q (pc + 2) L (.int v :: S) h k cs ss) : AW Z μ d k0 mc ms Q pc L S h k cs ss :=
  AW.pure (fun h _ => aw_ok_cons aw_okI h) (fun _ _ _ _ _ _ _ _ _ _ _ _ _ _ _ hx hb _ _ _ q => lv_bipush hx hb hd hv q) K
theorem AW.sipush {n : Int} {v : Int32} (hd : decode μ.2.1 pc = .ok (.sipush n, 3)) (hv : (Int16.ofInt n).toInt32 = v) (K : AW Z μ d k0 mc ms Q (pc + 3) L (.int v :: S) h k cs ss) : AW Z μ d k0 mc ms Q pc L S h k cs ss :=
  AW.pure (fun h _ => aw_ok_cons aw_okI h) (fun _ _ _ _ _ _ _ _ _ _ _ _ _ _ _ hx hb _ _ _ q => lv_sipush hx hb hd hv q) K
theorem AW.iload_n {x : Fin 4} {i : Nat} {v : Int32} (hd : decode μ.2.1 pc = .ok (.iload_n x, 1)) (hi : (x : Nat) = i) (hl : L[i]? = some (.int v)) (K : AW Z μ d k0 mc ms Q (pc + 1) L (.int v :: S) h k cs ss) : AW Z μ d k0 mc ms Q pc L S h k cs ss :=
  AW.pure (fun h _ => aw_ok_cons aw_okI h) (fun _ _ _ _ _ _ _ _ _ _ _ _ _ _ _ hx hb _ _ hL q => lv_iload_n hx hb hd hi (hL.2.2 _ _ hl (fun e => nomatch e)).1 q) K
theorem AW.iload {i : Nat} {v : Int32} (hd : decode μ.2.1 pc = .ok (.iload i, 2)) (hl : L[i]? = some (.int v)) (K : AW Z μ d k0 mc ms Q (pc + 2) L (.int v :: S) h k cs ss) : AW Z μ d k0 mc ms Q pc L S h k cs ss :=
  AW.pure (fun h _ => aw_ok_cons aw_okI h) (fun _ _ _ _ _ _ _ _ _ _ _ _ _ _ _ hx hb _ _ hL q => lv_iload hx hb hd (hL.2.2 _ _ hl (fun e => nomatch e)).1 q) K
theorem AW.lload_n {x : Fin 4} {i : Nat} {v : Int64} (hd : decode μ.2.1 pc = .ok (.lload_n x, 1)) (hi : (x : Nat) = i) (hl : L[i]? = some (.long v)) (K : AW Z μ d k0 mc ms Q (pc + 1) L (.long v :: S) h k cs ss) : AW Z μ d k0 mc ms Q pc L S h k cs ss :=
  AW.pure (fun h _ => aw_ok_cons aw_okJ h) (fun _ _ _ _ _ _ _ _ _ _ _ _ _ _ _ hx hb _ _ hL q => lv_lload_n hx hb hd hi (hL.2.2 _ _ hl (fun e => nomatch e)).1 q) K
theorem AW.dload {i : Nat} {v : UInt64} (hd : decode μ.2.1 pc = .ok (.dload i, 2)) (hl : L[i]? = some (.double v)) (K : AW Z μ d k0 mc ms Q (pc + 2) L (.double v :: S) h k cs ss) : AW Z μ d k0 mc ms Q pc L S h k cs ss :=
  AW.pure (fun h _ => aw_ok_cons aw_okD h) (fun _ _ _ _ _ _ _ _ _ _ _ _ _ _ _ hx hb _ _ hL q => lv_dload hx hb hd (hL.2.2 _ _ hl (fun e => nomatch e)).1 q) K
theorem AW.aload_n {x : Fin 4} {i : Nat} {v : Nat} (hd : decode μ.2.1 pc = .ok (.aload_n x, 1)) (hi : (x : Nat) = i) (hl : L[i]? = some (.ref v)) (K : AW Z μ d k0 mc ms Q (pc + 1) L (.ref v :: S) h k cs ss) : AW Z μ d k0 mc ms Q pc L S h k cs ss :=
  AW.pure (fun h hL => aw_ok_cons (hL _ _ hl (fun e => nomatch e)) h) (fun _ _ _ _ _ _ _ _ _ _ _ _ _ _ _ hx hb _ _ hL q => lv_aload_n hx hb hd hi (hL.2.2 _ _ hl (fun e => nomatch e)).1 q) K
theorem AW.aload {i : Nat} {v : Nat} (hd : decode μ.2.1 pc = .ok (.aload i, 2)) (hl : L[i]? = some (.ref v)) (K : AW Z μ d k0 mc ms Q (pc + 2) L (.ref v :: S) h k cs ss) : AW Z μ d k0 mc ms Q pc L S h k cs ss :=
  AW.pure (fun h hL => aw_ok_cons (hL _ _ hl (fun e => nomatch e)) h) (fun _ _ _ _ _ _ _ _ _ _ _ _ _ _ _ hx hb _ _ hL q => lv_aload hx hb hd (hL.2.2 _ _ hl (fun e => nomatch e)).1 q) K
theorem AW.iadd {x y : Int32} (hd : decode μ.2.1 pc = .ok (.iadd, 1)) (K : AW Z μ d k0 mc ms Q (pc + 1) L (.int (x + y) :: S) h k cs ss) : AW Z μ d k0 mc ms Q pc L (.int y :: .int x :: S) h k cs ss :=
  AW.pure (fun h _ => aw_ok_cons aw_okI (aw_ok_tail (aw_ok_tail h))) (fun _ _ _ _ _ _ _ _ _ _ _ _ _ _ _ hx hb _ _ _ q => lv_iadd hx hb hd q) K
theorem AW.isub {x y : Int32} (hd : decode μ.2.1 pc = .ok (.isub, 1)) (K : AW Z μ d k0 mc ms Q (pc + 1) L (.int (x - y) :: S) h k cs ss) : AW Z μ d k0 mc ms Q pc L (.int y :: .int x :: S) h k cs ss :=
  AW.pure (fun h _ => aw_ok_cons aw_okI (aw_ok_tail (aw_ok_tail h))) (fun _ _ _ _ _ _ _ _ _ _ _ _ _ _ _ hx hb _ _ _ q => lv_isub hx hb hd q) K
theorem AW.imul {x y : Int32} (hd : decode μ.2.1 pc = .ok (.imul, 1)) (K : AW Z μ d k0 mc ms Q (pc + 1) L (.int (x * y) :: S) h k cs ss) : AW Z μ d k0 mc ms Q pc L (.int y :: .int x :: S) h k cs ss :=
  AW.pure (fun h _ => aw_ok_cons aw_okI (aw_ok_tail (aw_ok_tail h))) (fun _ _ _ _ _ _ _ _ _ _ _ _ _ _ _ hx hb _ _ _ q => lv_imul hx hb hd q) K
theorem AW.iand {x y : Int32} (hd : decode μ.2.1 pc = .ok (.iand, 1)) (K : AW Z μ d k0 mc ms Q (pc + 1) L (.int (x &&& y) :: S) h k cs ss) : AW Z μ d k0 mc ms Q pc L (.int y :: .int x :: S) h k cs ss :=
  AW.pure (fun h _ => aw_ok_cons aw_okI (aw_ok_tail (aw_ok_tail h))) (fun _ _ _ _ _ _ _ _ _ _ _ _ _ _ _ hx hb _ _ _ q => lv_iand hx hb hd q) K
theorem AW.ior {x y : Int32} (hd : decode μ.2.1 pc = .ok (.ior, 1)) (K : AW Z μ d k0 mc ms Q (pc + 1) L (.int (x ||| y) :: S) h k cs ss) : AW Z μ d k0 mc ms Q pc L (.int y :: .int x :: S) h k cs ss :=
  AW.pure (fun h _ => aw_ok_cons aw_okI (aw_ok_tail (aw_ok_tail h))) (fun _ _ _ _ _ _ _ _ _ _ _ _ _ _ _ hx hb _ _ _ q => lv_ior hx hb hd q) K
theorem AW.ishl {x y : Int32} (hd : decode μ.2.1 pc = .ok (.ishl, 1)) (K : AW Z μ d k0 mc ms Q (pc + 1) L (.int (x <<< (y &&& 31)) :: S) h k cs ss) : AW Z μ d k0 mc ms Q pc L (.int y :: .int x :: S) h k cs ss :=
  AW.pure (fun h _ => aw_ok_cons aw_okI (aw_ok_tail (aw_ok_tail h))) (fun _ _ _ _ _ _ _ _ _ _ _ _ _ _ _ hx hb _ _ _ q => lv_ishl hx hb hd q) K
theorem AW.iushr {x y : Int32} (hd : decode μ.2.1 pc = .ok (.iushr, 1)) (K : AW Z μ d k0 mc ms Q (pc + 1) L (.int ((x.toUInt32 >>> (y.toUInt32 &&& Int32.toUInt32 31)).toInt32) :: S) h k cs ss) : AW Z μ d k0 mc ms Q pc L (.int y :: .int x :: S) h k cs ss :=
  AW.pure (fun h _ => aw_ok_cons aw_okI (aw_ok_tail (aw_ok_tail h))) (fun _ _ _ _ _ _ _ _ _ _ _ _ _ _ _ hx hb _ _ _ q => lv_iushr hx hb hd rfl q) K
theorem AW.ladd {x y : Int64} (hd : decode μ.2.1 pc = .ok (.ladd, 1)) (K : AW Z μ d k0 mc ms Q (pc + 1) L (.long (x + y) :: S) h k cs ss) : AW Z μ d k0 mc ms Q pc L (.long y :: .long x :: S) h k cs ss :=
  AW.pure (fun h _ => aw_ok_cons aw_okJ (aw_ok_tail (aw_ok_tail h))) (fun _ _ _ _ _ _ _ _ _ _ _ _ _ _ _ hx hb _ _ _ q => lv_ladd hx hb hd q) K
theorem AW.lmul {x y : Int64} (hd : decode μ.2.1 pc = .ok (.lmul, 1)) (K : AW Z μ d k0 mc ms Q (pc + 1) L (.long (x * y) :: S) h k cs ss) : AW Z μ d k0 mc ms Q pc L (.long y :: .long x :: S) h k cs ss :=
  AW.pure (fun h _ => aw_ok_cons aw_okJ (aw_ok_tail (aw_ok_tail h))) (fun _ _ _ _ _ _ _ _ _ _ _ _ _ _ _ hx hb _ _ _ q => lv_lmul hx hb hd q) K
theorem AW.i2l {x : Int32} (hd : decode μ.2.1 pc = .ok (.i2l, 1)) (K : AW Z μ d k0 mc ms Q (pc + 1) L (.long x.toInt64 :: S) h k cs ss) : AW Z μ d k0 mc ms Q pc L (.int x :: S) h k cs ss :=
  AW.pure (fun h _ => aw_ok_cons aw_okJ (aw_ok_tail h)) (fun _ _ _ _ _ _ _ _ _ _ _ _ _ _ _ hx hb _ _ _ q => lv_i2l hx hb hd rfl q) K
theorem AW.lcmp {x y : Int64} (hd : decode μ.2.1 pc = .ok (.lcmp, 1)) (K : AW Z μ d k0 mc ms Q (pc + 1) L (.int (lg_cmp x y) :: S) h k cs ss) : AW Z μ d k0 mc ms Q pc L (.long y :: .long x :: S) h k cs ss :=
  AW.pure (fun h _ => aw_ok_cons aw_okI (aw_ok_tail (aw_ok_tail h))) (fun _ _ _ _ _ _ _ _ _ _ _ _ _ _ _ hx hb _ _ _ q => W.lcmp hx hb hd q) K
theorem AW.dup {v : Value} (hd : decode μ.2.1 pc = .ok (.dup, 1)) (hc : v.category = 1) (K : AW Z μ d k0 mc ms Q (pc + 1) L (v :: v :: S) h k cs ss) : AW Z μ d k0 mc ms Q pc L (v :: S) h k cs ss :=
  AW.pure (fun h _ => aw_ok_cons (h v List.mem_cons_self) h) (fun _ _ _ _ _ _ _ _ _ _ _ _ _ _ ad hx hb _ _ _ q => lv_dup hx hb hd (by rw [aw_cat]; exact hc) q) K
theorem AW.pop {v : Value} (hd : decode μ.2.1 pc = .ok (.pop, 1)) (hc : v.category = 1) (K : AW Z μ d k0 mc ms Q (pc + 1) L S h k cs ss) : AW Z μ d k0 mc ms Q pc L (v :: S) h k cs ss :=
  AW.pure (fun h _ => aw_ok_tail h) (fun _ _ _ _ _ _ _ _ _ _ _ _ _ _ ad hx hb _ _ _ q => lv_pop hx hb hd (by rw [aw_cat]; exact hc) q) K
theorem AW.dup_x1 {v w : Value} (hd : decode μ.2.1 pc = .ok (.dup_x1, 1)) (hc : v.category = 1) (hc2 : w.category = 1) (K : AW Z μ d k0 mc ms Q (pc + 1) L (v :: w :: v :: S) h k cs ss) : AW Z μ d k0 mc ms Q pc L (v :: w :: S) h k cs ss :=
  AW.pure (fun h _ => aw_ok_cons (h v List.mem_cons_self) (aw_ok_cons (h w (List.mem_cons_of_mem _ List.mem_cons_self)) (aw_ok_cons (h v List.mem_cons_self) (aw_ok_tail (aw_ok_tail h))))) (fun _ _ _ _ _ _ _ _ _ _ _ _ _ _ ad hx hb _ _ _ q => lv_dup_x1 hx hb hd (by rw [aw_cat]; exact hc) (by rw [aw_cat]; exact hc2) q) K
theorem AW.dup_x2 {v w x : Value} (hd : decode μ.2.1 pc = .ok (.dup_x2, 1)) (hc : v.category = 1) (hc2 : w.category = 1) (hc3 : x.category = 1) (K : AW Z μ d k0 mc ms Q (pc + 1) L (v :: w :: x :: v :: S) h k cs ss) : AW Z μ d k0 mc ms Q pc L (v :: w :: x :: S) h k cs ss :=
  AW.pure (fun h _ => aw_ok_cons (h v List.mem_cons_self) (aw_ok_cons (h w (List.mem_cons_of_mem _ List.mem_cons_self)) (aw_ok_cons (h x (List.mem_cons_of_mem _ (List.mem_cons_of_mem _ List.mem_cons_self))) (aw_ok_cons (h v List.mem_cons_self) (aw_ok_tail (aw_ok_tail (aw_ok_tail h))))))) (fun _ _ _ _ _ _ _ _ _ _ _ _ _ _ ad hx hb _ _ _ q => lv_dup_x2 hx hb hd (by rw [aw_cat]; exact hc) (by rw [aw_cat]; exact hc2) (by rw [aw_cat]; exact hc3) q) K
theorem AW.dup2 {v w : Value} (hd : decode μ.2.1 pc = .ok (.dup2, 1)) (hc : v.category = 1) (hc2 : w.category = 1) (K : AW Z μ d k0 mc ms Q (pc + 1) L (v :: w :: v :: w :: S) h k cs ss) : AW Z μ d k0 mc ms Q pc L (v :: w :: S) h k cs ss :=
  AW.pure (fun h _ => aw_ok_cons (h v List.mem_cons_self) (aw_ok_cons (h w (List.mem_cons_of_mem _ List.mem_cons_self)) h)) (fun _ _ _ _ _ _ _ _ _ _ _ _ _ _ ad hx hb _ _ _ q => lv_dup2_11 hx hb hd (by rw [aw_cat]; exact hc) (by rw [aw_cat]; exact hc2) q) K
theorem AW.goto {off : Int} {tgt : Nat} (hd : decode μ.2.1 pc = .ok (.goto off, 3)) (ht : (pc : Int) + off = (tgt : Int)) (K : AW Z μ d k0 mc ms Q tgt L S h k cs ss) : AW Z μ d k0 mc ms Q pc L S h k cs ss :=
  AW.pure (fun h _ => h) (fun _ _ _ _ _ _ _ _ _ _ _ _ _ _ ad hx hb _ _ _ q => lv_goto hx hb hd ht q) K
end Rows
