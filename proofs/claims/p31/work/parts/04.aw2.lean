/-! AW: branches, switches, stores, heap, ends -/
section Rows2
variable {Z : Gz} {μ : Mt} {d k0 mc ms : Nat} {Q : Po} {pc : Nat} {L S : List Value} {h : Hp} {k cs ss : Nat}
theorem AW.if_eq {x : Int32} {off : Int} {tgt : Nat} (hd : decode μ.2.1 pc = .ok (.ifCond .eq off, 3)) (ht : (pc : Int) + off = (tgt : Int)) (kt : x = 0 → AW Z μ d k0 mc ms Q tgt L S h k cs ss) (kf : ¬ x = 0 → AW Z μ d k0 mc ms Q (pc + 3) L S h k cs ss) : AW Z μ d k0 mc ms Q pc L (.int x :: S) h k cs ss := by
  intro l D cT p e s m args below meth c ad0 ad A H locs ls hC ha hk hS hw hl hs
  exact lv_if_eq hC.2.1 hC.2.2.1 hd ht (fun q => kt q l D cT p e s m args below meth c ad0 ad A H locs ls hC ha hk hS hw hl (aw_ok_tail hs)) (fun q => kf q l D cT p e s m args below meth c ad0 ad A H locs ls hC ha hk hS hw hl (aw_ok_tail hs))
theorem AW.icmp_eq {x y : Int32} {off : Int} {tgt : Nat} (hd : decode μ.2.1 pc = .ok (.if_icmp .eq off, 3)) (ht : (pc : Int) + off = (tgt : Int)) (kt : x = y → AW Z μ d k0 mc ms Q tgt L S h k cs ss) (kf : ¬ x = y → AW Z μ d k0 mc ms Q (pc + 3) L S h k cs ss) : AW Z μ d k0 mc ms Q pc L (.int y :: .int x :: S) h k cs ss := by
  intro l D cT p e s m args below meth c ad0 ad A H locs ls hC ha hk hS hw hl hs
  exact lv_icmp_eq hC.2.1 hC.2.2.1 hd ht (fun q => kt q l D cT p e s m args below meth c ad0 ad A H locs ls hC ha hk hS hw hl (aw_ok_tail (aw_ok_tail hs))) (fun q => kf q l D cT p e s m args below meth c ad0 ad A H locs ls hC ha hk hS hw hl (aw_ok_tail (aw_ok_tail hs)))
theorem AW.if_ne {x : Int32} {off : Int} {tgt : Nat} (hd : decode μ.2.1 pc = .ok (.ifCond .ne off, 3)) (ht : (pc : Int) + off = (tgt : Int)) (kt : ¬ x = 0 → AW Z μ d k0 mc ms Q tgt L S h k cs ss) (kf : x = 0 → AW Z μ d k0 mc ms Q (pc + 3) L S h k cs ss) : AW Z μ d k0 mc ms Q pc L (.int x :: S) h k cs ss := by
  intro l D cT p e s m args below meth c ad0 ad A H locs ls hC ha hk hS hw hl hs
  exact lv_if_ne hC.2.1 hC.2.2.1 hd ht (fun q => kt q l D cT p e s m args below meth c ad0 ad A H locs ls hC ha hk hS hw hl (aw_ok_tail hs)) (fun q => kf q l D cT p e s m args below meth c ad0 ad A H locs ls hC ha hk hS hw hl (aw_ok_tail hs))
theorem AW.icmp_ne {x y : Int32} {off : Int} {tgt : Nat} (hd : decode μ.2.1 pc = .ok (.if_icmp .ne off, 3)) (ht : (pc : Int) + off = (tgt : Int)) (kt : ¬ x = y → AW Z μ d k0 mc ms Q tgt L S h k cs ss) (kf : x = y → AW Z μ d k0 mc ms Q (pc + 3) L S h k cs ss) : AW Z μ d k0 mc ms Q pc L (.int y :: .int x :: S) h k cs ss := by
  intro l D cT p e s m args below meth c ad0 ad A H locs ls hC ha hk hS hw hl hs
  exact lv_icmp_ne hC.2.1 hC.2.2.1 hd ht (fun q => kt q l D cT p e s m args below meth c ad0 ad A H locs ls hC ha hk hS hw hl (aw_ok_tail (aw_ok_tail hs))) (fun q => kf q l D cT p e s m args below meth c ad0 ad A H locs ls hC ha hk hS hw hl (aw_ok_tail (aw_ok_tail hs)))
theorem AW.if_lt {x : Int32} {off : Int} {tgt : Nat} (hd : decode μ.2.1 pc = .ok (.ifCond .lt off, 3)) (ht : (pc : Int) + off = (tgt : Int)) (kt : x < 0 → AW Z μ d k0 mc ms Q tgt L S h k cs ss) (kf : ¬ x < 0 → AW Z μ d k0 mc ms Q (pc + 3) L S h k cs ss) : AW Z μ d k0 mc ms Q pc L (.int x :: S) h k cs ss := by
  intro l D cT p e s m args below meth c ad0 ad A H locs ls hC ha hk hS hw hl hs
  exact lv_if_lt hC.2.1 hC.2.2.1 hd ht (fun q => kt q l D cT p e s m args below meth c ad0 ad A H locs ls hC ha hk hS hw hl (aw_ok_tail hs)) (fun q => kf q l D cT p e s m args below meth c ad0 ad A H locs ls hC ha hk hS hw hl (aw_ok_tail hs))
theorem AW.icmp_lt {x y : Int32} {off : Int} {tgt : Nat} (hd : decode μ.2.1 pc = .ok (.if_icmp .lt off, 3)) (ht : (pc : Int) + off = (tgt : Int)) (kt : x < y → AW Z μ d k0 mc ms Q tgt L S h k cs ss) (kf : ¬ x < y → AW Z μ d k0 mc ms Q (pc + 3) L S h k cs ss) : AW Z μ d k0 mc ms Q pc L (.int y :: .int x :: S) h k cs ss := by
  intro l D cT p e s m args below meth c ad0 ad A H locs ls hC ha hk hS hw hl hs
  exact lv_icmp_lt hC.2.1 hC.2.2.1 hd ht (fun q => kt q l D cT p e s m args below meth c ad0 ad A H locs ls hC ha hk hS hw hl (aw_ok_tail (aw_ok_tail hs))) (fun q => kf q l D cT p e s m args below meth c ad0 ad A H locs ls hC ha hk hS hw hl (aw_ok_tail (aw_ok_tail hs)))
theorem AW.if_ge {x : Int32} {off : Int} {tgt : Nat} (hd : decode μ.2.1 pc = .ok (.ifCond .ge off, 3)) (ht : (pc : Int) + off = (tgt : Int)) (kt : 0 ≤ x → AW Z μ d k0 mc ms Q tgt L S h k cs ss) (kf : ¬ 0 ≤ x → AW Z μ d k0 mc ms Q (pc + 3) L S h k cs ss) : AW Z μ d k0 mc ms Q pc L (.int x :: S) h k cs ss := by
  intro l D cT p e s m args below meth c ad0 ad A H locs ls hC ha hk hS hw hl hs
  exact lv_if_ge hC.2.1 hC.2.2.1 hd ht (fun q => kt q l D cT p e s m args below meth c ad0 ad A H locs ls hC ha hk hS hw hl (aw_ok_tail hs)) (fun q => kf q l D cT p e s m args below meth c ad0 ad A H locs ls hC ha hk hS hw hl (aw_ok_tail hs))
theorem AW.icmp_ge {x y : Int32} {off : Int} {tgt : Nat} (hd : decode μ.2.1 pc = .ok (.if_icmp .ge off, 3)) (ht : (pc : Int) + off = (tgt : Int)) (kt : y ≤ x → AW Z μ d k0 mc ms Q tgt L S h k cs ss) (kf : ¬ y ≤ x → AW Z μ d k0 mc ms Q (pc + 3) L S h k cs ss) : AW Z μ d k0 mc ms Q pc L (.int y :: .int x :: S) h k cs ss := by
  intro l D cT p e s m args below meth c ad0 ad A H locs ls hC ha hk hS hw hl hs
  exact lv_icmp_ge hC.2.1 hC.2.2.1 hd ht (fun q => kt q l D cT p e s m args below meth c ad0 ad A H locs ls hC ha hk hS hw hl (aw_ok_tail (aw_ok_tail hs))) (fun q => kf q l D cT p e s m args below meth c ad0 ad A H locs ls hC ha hk hS hw hl (aw_ok_tail (aw_ok_tail hs)))
theorem AW.if_gt {x : Int32} {off : Int} {tgt : Nat} (hd : decode μ.2.1 pc = .ok (.ifCond .gt off, 3)) (ht : (pc : Int) + off = (tgt : Int)) (kt : 0 < x → AW Z μ d k0 mc ms Q tgt L S h k cs ss) (kf : ¬ 0 < x → AW Z μ d k0 mc ms Q (pc + 3) L S h k cs ss) : AW Z μ d k0 mc ms Q pc L (.int x :: S) h k cs ss := by
  intro l D cT p e s m args below meth c ad0 ad A H locs ls hC ha hk hS hw hl hs
  exact lv_if_gt hC.2.1 hC.2.2.1 hd ht (fun q => kt q l D cT p e s m args below meth c ad0 ad A H locs ls hC ha hk hS hw hl (aw_ok_tail hs)) (fun q => kf q l D cT p e s m args below meth c ad0 ad A H locs ls hC ha hk hS hw hl (aw_ok_tail hs))
theorem AW.icmp_gt {x y : Int32} {off : Int} {tgt : Nat} (hd : decode μ.2.1 pc = .ok (.if_icmp .gt off, 3)) (ht : (pc : Int) + off = (tgt : Int)) (kt : y < x → AW Z μ d k0 mc ms Q tgt L S h k cs ss) (kf : ¬ y < x → AW Z μ d k0 mc ms Q (pc + 3) L S h k cs ss) : AW Z μ d k0 mc ms Q pc L (.int y :: .int x :: S) h k cs ss := by
  intro l D cT p e s m args below meth c ad0 ad A H locs ls hC ha hk hS hw hl hs
  exact lv_icmp_gt hC.2.1 hC.2.2.1 hd ht (fun q => kt q l D cT p e s m args below meth c ad0 ad A H locs ls hC ha hk hS hw hl (aw_ok_tail (aw_ok_tail hs))) (fun q => kf q l D cT p e s m args below meth c ad0 ad A H locs ls hC ha hk hS hw hl (aw_ok_tail (aw_ok_tail hs)))
theorem AW.if_le {x : Int32} {off : Int} {tgt : Nat} (hd : decode μ.2.1 pc = .ok (.ifCond .le off, 3)) (ht : (pc : Int) + off = (tgt : Int)) (kt : x ≤ 0 → AW Z μ d k0 mc ms Q tgt L S h k cs ss) (kf : ¬ x ≤ 0 → AW Z μ d k0 mc ms Q (pc + 3) L S h k cs ss) : AW Z μ d k0 mc ms Q pc L (.int x :: S) h k cs ss := by
  intro l D cT p e s m args below meth c ad0 ad A H locs ls hC ha hk hS hw hl hs
  exact lv_if_le hC.2.1 hC.2.2.1 hd ht (fun q => kt q l D cT p e s m args below meth c ad0 ad A H locs ls hC ha hk hS hw hl (aw_ok_tail hs)) (fun q => kf q l D cT p e s m args below meth c ad0 ad A H locs ls hC ha hk hS hw hl (aw_ok_tail hs))
theorem AW.icmp_le {x y : Int32} {off : Int} {tgt : Nat} (hd : decode μ.2.1 pc = .ok (.if_icmp .le off, 3)) (ht : (pc : Int) + off = (tgt : Int)) (kt : x ≤ y → AW Z μ d k0 mc ms Q tgt L S h k cs ss) (kf : ¬ x ≤ y → AW Z μ d k0 mc ms Q (pc + 3) L S h k cs ss) : AW Z μ d k0 mc ms Q pc L (.int y :: .int x :: S) h k cs ss := by
  intro l D cT p e s m args below meth c ad0 ad A H locs ls hC ha hk hS hw hl hs
  exact lv_icmp_le hC.2.1 hC.2.2.1 hd ht (fun q => kt q l D cT p e s m args below meth c ad0 ad A H locs ls hC ha hk hS hw hl (aw_ok_tail (aw_ok_tail hs))) (fun q => kf q l D cT p e s m args below meth c ad0 ad A H locs ls hC ha hk hS hw hl (aw_ok_tail (aw_ok_tail hs)))
theorem AW.tableIn {dflt lo hi : Int} {offs : Array Int} {len : Nat} {x : Int32} {off : Int} {tgt : Nat} (hd : decode μ.2.1 pc = .ok (.tableswitch dflt lo hi offs, len)) (h1 : ¬ x.toInt < lo) (h2 : ¬ hi < x.toInt) (ho : offs[(x.toInt - lo).toNat]? = some off) (ht : (pc : Int) + off = (tgt : Int)) (K : AW Z μ d k0 mc ms Q tgt L S h k cs ss) : AW Z μ d k0 mc ms Q pc L (.int x :: S) h k cs ss :=
  AW.pure (fun h _ => aw_ok_tail h) (fun _ _ _ _ _ _ _ _ _ _ _ _ _ _ ad hx hb _ _ _ q => lv_tableIn hx hb hd h1 h2 ho ht q) K
theorem AW.tableOut {dflt lo hi : Int} {offs : Array Int} {len : Nat} {x : Int32} {tgt : Nat} (hd : decode μ.2.1 pc = .ok (.tableswitch dflt lo hi offs, len)) (h1 : x.toInt < lo ∨ hi < x.toInt) (ht : (pc : Int) + dflt = (tgt : Int)) (K : AW Z μ d k0 mc ms Q tgt L S h k cs ss) : AW Z μ d k0 mc ms Q pc L (.int x :: S) h k cs ss :=
  AW.pure (fun h _ => aw_ok_tail h) (fun _ _ _ _ _ _ _ _ _ _ _ _ _ _ ad hx hb _ _ _ q => lv_tableOut hx hb hd h1 ht q) K
theorem AW.ldc {index : Nat} {v : Int32} (hd : decode μ.2.1 pc = .ok (.ldc index, 2)) (hc : Cond.constant μ.1.cls index v ∈ lw_tbl) (K : AW Z μ d k0 mc ms Q (pc + 2) L (.int v :: S) h k cs ss) : AW Z μ d k0 mc ms Q pc L S h k cs ss :=
  AW.pure (fun h _ => aw_ok_cons aw_okI h) (fun _ _ _ _ _ _ _ _ _ _ _ _ _ _ ad hx hb ho ht _ q => lv_ldc hx hb ho (ht _ hc rfl) hd q) K
theorem AW.ldc2 {index : Nat} {v : Int64} (hd : decode μ.2.1 pc = .ok (.ldc2_w index, 3)) (hc : Cond.constantLong μ.1.cls index v ∈ lw_tbl) (K : AW Z μ d k0 mc ms Q (pc + 3) L (.long v :: S) h k cs ss) : AW Z μ d k0 mc ms Q pc L S h k cs ss :=
  AW.pure (fun h _ => aw_ok_cons aw_okJ h) (fun _ _ _ _ _ _ _ _ _ _ _ _ _ _ ad hx hb ho ht _ q => lv_ldc2 hx hb ho (ht _ hc rfl) hd q) K
theorem AW.i2d {x : Int32} (hd : decode μ.2.1 pc = .ok (.i2d, 1)) (K : AW Z μ d k0 mc ms Q (pc + 1) L (.double (FP.i2d x) :: S) h k cs ss) : AW Z μ d k0 mc ms Q pc L (.int x :: S) h k cs ss :=
  AW.pure (fun h _ => aw_ok_cons aw_okD (aw_ok_tail h)) (fun _ _ _ _ _ _ _ _ _ _ _ _ _ _ _ hx hb _ _ _ q => lv_i2d hx hb hd q) K
theorem AW.ddiv {x y : UInt64} (hd : decode μ.2.1 pc = .ok (.ddiv, 1)) (hn : vf_n64 (FP.ddiv x y)) (K : AW Z μ d k0 mc ms Q (pc + 1) L (.double (FP.ddiv x y) :: S) h k cs ss) : AW Z μ d k0 mc ms Q pc L (.double y :: .double x :: S) h k cs ss :=
  AW.pure (fun h _ => aw_ok_cons aw_okD (aw_ok_tail (aw_ok_tail h))) (fun _ _ _ _ _ _ _ _ _ _ _ _ _ _ _ hx hb _ _ _ q => lv_ddiv hx hb hd hn q) K
theorem AW.dconst0 (hd : decode μ.2.1 pc = .ok (.dconst 0, 1)) (K : AW Z μ d k0 mc ms Q (pc + 1) L (.double FP.dconst0 :: S) h k cs ss) : AW Z μ d k0 mc ms Q pc L S h k cs ss :=
  AW.pure (fun h _ => aw_ok_cons aw_okD h) (fun _ _ _ _ _ _ _ _ _ _ _ _ _ _ _ hx hb _ _ _ q => lv_dconst0 hx hb hd q) K
theorem AW.dcmp {x y : UInt64} {op : CmpOp} (hd : decode μ.2.1 pc = .ok (.dcmp op, 1)) (K : AW Z μ d k0 mc ms Q (pc + 1) L (.int (Op.cmpValue (FP.dcmp x y) op) :: S) h k cs ss) : AW Z μ d k0 mc ms Q pc L (.double y :: .double x :: S) h k cs ss :=
  AW.pure (fun h _ => aw_ok_cons aw_okI (aw_ok_tail (aw_ok_tail h))) (fun _ _ _ _ _ _ _ _ _ _ _ _ _ _ _ hx hb _ _ _ q => lv_dcmp hx hb hd q) K
/-! stores into the locals -/
def aw_set (L : List Value) (i : Nat) (v : Value) : List Value := L.set i v
/-- no long or double begins right below i -/
def aw_low (L : List Value) (i : Nat) : Bool := match i with
  | 0 => true
  | j + 1 => match L[j]? with
    | some w => w.category == 1
    | none => true
def aw_pairs (ad : Nat → Nat) (L : List Value) : List (Nat × Value) := (List.range L.length).filterMap fun i => match (L[i]? : Option Value) with
  | some Value.null => none
  | some v => some (i, aw_cv ad v)
  | none => none
theorem aw_pairs_in {ad : Nat → Nat} {L : List Value} {i : Nat} {v : Value} (hi : L[i]? = some v) (hv : v ≠ .null) : (i, aw_cv ad v) ∈ aw_pairs ad L := by
  refine List.mem_filterMap.mpr ⟨i, List.mem_range.mpr (List.getElem?_eq_some_iff.mp hi).1, ?_⟩
  rw [hi]
  cases v <;> first | exact absurd rfl hv | rfl
theorem aw_Lv.has {nL : Nat} {ad : Nat → Nat} {k : Nat} {ls : Array Slot} {L : List Value} (h : aw_Lv nL ad k ls L) : lv_has ls nL (aw_pairs ad L) := by
  refine ⟨h.1, h.2.1, fun q hq => ?_⟩
  obtain ⟨i, -, hi⟩ := List.mem_filterMap.mp hq
  cases hL : L[i]? with
  | none => rw [hL] at hi; cases hi
  | some v =>
    rw [hL] at hi
    have hv : v ≠ .null := by intro e; rw [e] at hi; cases hi
    have he : q = (i, aw_cv ad v) := by cases v <;> first | exact absurd rfl hv | exact (Option.some.inj hi).symm
    rw [he]
    exact (h.2.2 i v hL hv).1
theorem aw_store1 {nL : Nat} {ad : Nat → Nat} {k : Nat} {ls ls' : Array Slot} {L L' : List Value} {i : Nat} {v : Value} (h : aw_Lv nL ad k ls L) (hok : aw_ok k v) (hlow : aw_low L i = true) (hL : L.set i v = L')
    (h' : lv_has ls' nL ((i, aw_cv ad v) :: (aw_pairs ad L).filter (fun q => !(q.1 == i) && !(q.1 + 1 == i && q.2.category == 2)))) : aw_Lv nL ad k ls' L' := by
  subst hL
  refine ⟨h'.1, h'.2.1, fun j w hj hw => ?_⟩
  by_cases hji : j = i
  · subst hji
    rw [List.getElem?_set_self (by
      have := (List.getElem?_eq_some_iff.mp hj).1
      rwa [List.length_set] at this)] at hj
    cases hj
    exact ⟨h'.2.2 _ List.mem_cons_self, hok⟩
  · rw [List.getElem?_set_ne (Ne.symm hji)] at hj
    refine ⟨h'.2.2 (j, aw_cv ad w) (List.mem_cons_of_mem _ (List.mem_filter.mpr ⟨aw_pairs_in hj hw, ?_⟩)), (h.2.2 j w hj hw).2⟩
    have e1 : (j == i) = false := by simp [hji]
    have e2 : (j + 1 == i && (aw_cv ad w).category == 2) = false := by
      by_cases e : j + 1 = i
      · subst e
        simp only [aw_low, hj] at hlow
        rw [aw_cat]
        have : w.category = 1 := by simpa using hlow
        simp [this]
      · simp [e]
    simp [e1, e2]
theorem aw_store2 {nL : Nat} {ad : Nat → Nat} {k : Nat} {ls ls' : Array Slot} {L L' : List Value} {i : Nat} {v : Value} (h : aw_Lv nL ad k ls L) (hok : aw_ok k v) (hlow : aw_low L i = true) (hL : (L.set i v).set (i + 1) .null = L')
    (h' : lv_has ls' nL ((i, aw_cv ad v) :: (aw_pairs ad L).filter (fun q => !(q.1 == i) && (!(q.1 == i + 1) && !(q.1 + 1 == i && q.2.category == 2))))) : aw_Lv nL ad k ls' L' := by
  subst hL
  refine ⟨h'.1, h'.2.1, fun j w hj hw => ?_⟩
  by_cases hj2 : j = i + 1
  · subst hj2
    rw [List.getElem?_set_self (by
      have := (List.getElem?_eq_some_iff.mp hj).1
      rwa [List.length_set] at this)] at hj
    cases hj
    exact absurd rfl hw
  · rw [List.getElem?_set_ne (Ne.symm hj2)] at hj
    by_cases hji : j = i
    · subst hji
      rw [List.getElem?_set_self (by
        have := (List.getElem?_eq_some_iff.mp hj).1
        rwa [List.length_set] at this)] at hj
      cases hj
      exact ⟨h'.2.2 _ List.mem_cons_self, hok⟩
    · rw [List.getElem?_set_ne (Ne.symm hji)] at hj
      refine ⟨h'.2.2 (j, aw_cv ad w) (List.mem_cons_of_mem _ (List.mem_filter.mpr ⟨aw_pairs_in hj hw, ?_⟩)), (h.2.2 j w hj hw).2⟩
      have e1 : (j == i) = false := by simp [hji]
      have e3 : (j == i + 1) = false := by simp [hj2]
      have e2 : (j + 1 == i && (aw_cv ad w).category == 2) = false := by
        by_cases e : j + 1 = i
        · subst e
          simp only [aw_low, hj] at hlow
          rw [aw_cat]
          have : w.category = 1 := by simpa using hlow
          simp [this]
        · simp [e]
      simp [e1, e2, e3]

theorem AW.istore_n {x : Fin 4} {i : Nat} {v : Int32} {L' : List Value} (hd : decode μ.2.1 pc = .ok (.istore_n x, 1)) (hi : (x : Nat) = i) (hn : i < μ.2.2.1) (hlow : aw_low L i = true) (hL : L.set i (.int v) = L') (K : AW Z μ d k0 mc ms Q (pc + 1) L' S h k cs ss) : AW Z μ d k0 mc ms Q pc L (.int v :: S) h k cs ss := by
  intro l D cT p e s m args below meth c ad0 ad A H locs ls hC ha hk hS hw hl hs
  refine lv_istore_n (nL := μ.2.2.1) (lv := aw_pairs ad L) hC.2.1 hC.2.2.1 hd hi hl.has hn rfl (fun ls' h' => ?_)
  exact K l D cT p e s m args below meth c ad0 ad A H locs ls' hC ha hk hS hw (aw_store1 hl (aw_okI) hlow hL h') (aw_ok_tail hs)
theorem AW.istore {i : Nat} {v : Int32} {L' : List Value} (hd : decode μ.2.1 pc = .ok (.istore i, 2)) (hn : i < μ.2.2.1) (hlow : aw_low L i = true) (hL : L.set i (.int v) = L') (K : AW Z μ d k0 mc ms Q (pc + 2) L' S h k cs ss) : AW Z μ d k0 mc ms Q pc L (.int v :: S) h k cs ss := by
  intro l D cT p e s m args below meth c ad0 ad A H locs ls hC ha hk hS hw hl hs
  refine lv_istore (nL := μ.2.2.1) (lv := aw_pairs ad L) hC.2.1 hC.2.2.1 hd hl.has hn rfl (fun ls' h' => ?_)
  exact K l D cT p e s m args below meth c ad0 ad A H locs ls' hC ha hk hS hw (aw_store1 hl (aw_okI) hlow hL h') (aw_ok_tail hs)
theorem AW.astore_n {x : Fin 4} {i : Nat} {v : Nat} {L' : List Value} (hd : decode μ.2.1 pc = .ok (.astore_n x, 1)) (hi : (x : Nat) = i) (hn : i < μ.2.2.1) (hlow : aw_low L i = true) (hL : L.set i (.ref v) = L') (K : AW Z μ d k0 mc ms Q (pc + 1) L' S h k cs ss) : AW Z μ d k0 mc ms Q pc L (.ref v :: S) h k cs ss := by
  intro l D cT p e s m args below meth c ad0 ad A H locs ls hC ha hk hS hw hl hs
  refine lv_astore_n (nL := μ.2.2.1) (lv := aw_pairs ad L) hC.2.1 hC.2.2.1 hd hi hl.has hn rfl (fun ls' h' => ?_)
  exact K l D cT p e s m args below meth c ad0 ad A H locs ls' hC ha hk hS hw (aw_store1 hl (hs _ List.mem_cons_self) hlow hL h') (aw_ok_tail hs)
theorem AW.astore {i : Nat} {v : Nat} {L' : List Value} (hd : decode μ.2.1 pc = .ok (.astore i, 2)) (hn : i < μ.2.2.1) (hlow : aw_low L i = true) (hL : L.set i (.ref v) = L') (K : AW Z μ d k0 mc ms Q (pc + 2) L' S h k cs ss) : AW Z μ d k0 mc ms Q pc L (.ref v :: S) h k cs ss := by
  intro l D cT p e s m args below meth c ad0 ad A H locs ls hC ha hk hS hw hl hs
  refine lv_astore (nL := μ.2.2.1) (lv := aw_pairs ad L) hC.2.1 hC.2.2.1 hd hl.has hn rfl (fun ls' h' => ?_)
  exact K l D cT p e s m args below meth c ad0 ad A H locs ls' hC ha hk hS hw (aw_store1 hl (hs _ List.mem_cons_self) hlow hL h') (aw_ok_tail hs)
theorem AW.lstore_n {x : Fin 4} {i : Nat} {v : Int64} {L' : List Value} (hd : decode μ.2.1 pc = .ok (.lstore_n x, 1)) (hi : (x : Nat) = i) (hn : i + 1 < μ.2.2.1) (hlow : aw_low L i = true) (hL : (L.set i (.long v)).set (i + 1) .null = L') (K : AW Z μ d k0 mc ms Q (pc + 1) L' S h k cs ss) : AW Z μ d k0 mc ms Q pc L (.long v :: S) h k cs ss := by
  intro l D cT p e s m args below meth c ad0 ad A H locs ls hC ha hk hS hw hl hs
  refine lv_lstore_n (nL := μ.2.2.1) (lv := aw_pairs ad L) hC.2.1 hC.2.2.1 hd hi hl.has hn rfl (fun ls' h' => ?_)
  exact K l D cT p e s m args below meth c ad0 ad A H locs ls' hC ha hk hS hw (aw_store2 hl (aw_okJ) hlow hL h') (aw_ok_tail hs)
theorem AW.dstore {i : Nat} {v : UInt64} {L' : List Value} (hd : decode μ.2.1 pc = .ok (.dstore i, 2)) (hn : i + 1 < μ.2.2.1) (hlow : aw_low L i = true) (hL : (L.set i (.double v)).set (i + 1) .null = L') (K : AW Z μ d k0 mc ms Q (pc + 2) L' S h k cs ss) : AW Z μ d k0 mc ms Q pc L (.double v :: S) h k cs ss := by
  intro l D cT p e s m args below meth c ad0 ad A H locs ls hC ha hk hS hw hl hs
  refine lv_dstore (nL := μ.2.2.1) (lv := aw_pairs ad L) hC.2.1 hC.2.2.1 hd hl.has hn rfl (fun ls' h' => ?_)
  exact K l D cT p e s m args below meth c ad0 ad A H locs ls' hC ha hk hS hw (aw_store2 hl (aw_okD) hlow hL h') (aw_ok_tail hs)
theorem AW.iinc {i : Nat} {n : Int} {x v : Int32} {L' : List Value} (hd : decode μ.2.1 pc = .ok (.iinc i n, 3)) (hx : L[i]? = some (.int x)) (hv : x + Int32.ofInt n = v) (hn : i < μ.2.2.1) (hlow : aw_low L i = true) (hL : L.set i (.int v) = L') (K : AW Z μ d k0 mc ms Q (pc + 3) L' S h k cs ss) : AW Z μ d k0 mc ms Q pc L S h k cs ss := by
  intro l D cT p e s m args below meth c ad0 ad A H locs ls hC ha hk hS hw hl hs
  obtain ⟨j, hj⟩ := List.getElem?_of_mem (aw_pairs_in (ad := ad) hx (fun e => nomatch e))
  refine lv_iinc (nL := μ.2.2.1) (lv := aw_pairs ad L) hC.2.1 hC.2.2.1 hd hl.has (k := j) hj hv hn rfl (fun ls' h' => ?_)
  exact K l D cT p e s m args below meth c ad0 ad A H locs ls' hC ha hk hS hw (aw_store1 hl aw_okI hlow hL h') hs
/-! ends -/
theorem AW.iret {v : Int32} {ty : FieldType} (hd : decode μ.2.1 pc = .ok (.ireturn, 1)) (hr : μ.2.2.2.1 = some ty) (hn : narrow ty (.int v) = .int v) (hc : cs ≤ mc) (hs2 : ss ≤ ms) (q : Q (.inl (some (.int v))) h k) : AW Z μ d k0 mc ms Q pc L [.int v] h k cs ss := by
  intro l D cT p e s m args below meth c ad0 ad A H locs ls hC ha hk hS hw hl hs
  obtain ⟨h1, hx, hb, h4, h5, h6, h7, h8, h9, h10, h11, h12⟩ := hC
  refine vx_ret (W.widen hc hs2 (W.zret hx hb (h5.trans hr) hn (fun t ht hW => ⟨⟨some (.int v), h, k, ad, rfl, q, ha, hk, fun w e => by cases e; trivial, ?_⟩, hS.F ht⟩) hS.2.2 hd h6))
  rw [ht]
  exact ⟨hw.1, hw.2.1, hw.2.2.1.moved hW.alike, hw.2.2.2⟩
theorem AW.lret {v : Int64} (hd : decode μ.2.1 pc = .ok (.lreturn, 1)) (hr : μ.2.2.2.1 = some .long) (hc : cs ≤ mc) (hs2 : ss ≤ ms) (q : Q (.inl (some (.long v))) h k) : AW Z μ d k0 mc ms Q pc L [.long v] h k cs ss := by
  intro l D cT p e s m args below meth c ad0 ad A H locs ls hC ha hk hS hw hl hs
  obtain ⟨h1, hx, hb, h4, h5, h6, h7, h8, h9, h10, h11, h12⟩ := hC
  refine vx_ret (W.widen hc hs2 (W.lret hx hb (h5.trans hr) (fun t ht hW => ⟨⟨some (.long v), h, k, ad, rfl, q, ha, hk, fun w e => by cases e; trivial, ?_⟩, hS.F ht⟩) hS.2.2 hd h6))
  rw [ht]
  exact ⟨hw.1, hw.2.1, hw.2.2.1.moved hW.alike, hw.2.2.2⟩
theorem AW.dret {v : UInt64} (hd : decode μ.2.1 pc = .ok (.dreturn, 1)) (hr : μ.2.2.2.1 = some .double) (hc : cs ≤ mc) (hs2 : ss ≤ ms) (q : Q (.inl (some (.double v))) h k) : AW Z μ d k0 mc ms Q pc L [.double v] h k cs ss := by
  intro l D cT p e s m args below meth c ad0 ad A H locs ls hC ha hk hS hw hl hs
  obtain ⟨h1, hx, hb, h4, h5, h6, h7, h8, h9, h10, h11, h12⟩ := hC
  refine vx_ret (W.widen hc hs2 (W.dret hx hb (h5.trans hr) (fun t ht hW => ⟨⟨some (.double v), h, k, ad, rfl, q, ha, hk, fun w e => by cases e; trivial, ?_⟩, hS.F ht⟩) hS.2.2 hd h6))
  rw [ht]
  exact ⟨hw.1, hw.2.1, hw.2.2.1.moved hW.alike, hw.2.2.2⟩
theorem AW.aret {v : Nat} {ty : FieldType} (hd : decode μ.2.1 pc = .ok (.areturn, 1)) (hr : μ.2.2.2.1 = some (.array ty)) (hc : cs ≤ mc) (hs2 : ss ≤ ms) (q : Q (.inl (some (.ref v))) h k) : AW Z μ d k0 mc ms Q pc L [.ref v] h k cs ss := by
  intro l D cT p e s m args below meth c ad0 ad A H locs ls hC ha hk hS hw hl hs
  obtain ⟨h1, hx, hb, h4, h5, h6, h7, h8, h9, h10, h11, h12⟩ := hC
  refine vx_ret (W.widen hc hs2 (W.aret hx hb (h5.trans hr) (Or.inr ⟨_, rfl⟩) (Or.inr ⟨_, rfl⟩) (fun t ht hW => ⟨⟨some (.ref v), h, k, ad, rfl, q, ha, hk, fun w e => by cases e; exact hs _ List.mem_cons_self, ?_⟩, hS.F ht⟩) hS.2.2 hd h6))
  rw [ht]
  exact ⟨hw.1, hw.2.1, hw.2.2.1.moved hW.alike, hw.2.2.2⟩
theorem AW.vret (hd : decode μ.2.1 pc = .ok (.return_, 1)) (hr : μ.2.2.2.1 = none) (hc : cs ≤ mc) (hs2 : ss ≤ ms) (q : Q (.inl none) h k) : AW Z μ d k0 mc ms Q pc L [] h k cs ss := by
  intro l D cT p e s m args below meth c ad0 ad A H locs ls hC ha hk hS hw hl hs
  obtain ⟨h1, hx, hb, h4, h5, h6, h7, h8, h9, h10, h11, h12⟩ := hC
  refine vx_ret (W.widen hc hs2 (W.vret hx hb (h5.trans hr) (fun t ht hW => ⟨⟨none, h, k, ad, rfl, q, ha, hk, (fun w e => nomatch e), ?_⟩, hS.F ht⟩) hS.2.2 hd h6))
  rw [ht]
  exact ⟨hw.1, hw.2.1, hw.2.2.1.moved hW.alike, hw.2.2.2⟩
theorem AW.widen {cs' ss' : Nat} (h1 : cs ≤ cs') (h2 : ss ≤ ss') (K : AW Z μ d k0 mc ms Q pc L S h k cs' ss') : AW Z μ d k0 mc ms Q pc L S h k cs ss := by
  intro l D cT p e s m args below meth c ad0 ad A H locs ls hC ha hk hS hw hl hs
  exact W.widen h1 h2 (K l D cT p e s m args below meth c ad0 ad A H locs ls hC ha hk hS hw hl hs)
/-- fewer locals known -/
theorem AW.locals {L' : List Value} (hL : ∀ (i : Nat) (v : Value), L'[i]? = some v → v ≠ .null → L[i]? = some v) (K : AW Z μ d k0 mc ms Q pc L' S h k cs ss) : AW Z μ d k0 mc ms Q pc L S h k cs ss := by
  intro l D cT p e s m args below meth c ad0 ad A H locs ls hC ha hk hS hw hl hs
  exact K l D cT p e s m args below meth c ad0 ad A H locs ls hC ha hk hS hw ⟨hl.1, hl.2.1, fun i v h1 h2 => hl.2.2 i v (hL i v h1 h2) h2⟩ hs
end Rows2

