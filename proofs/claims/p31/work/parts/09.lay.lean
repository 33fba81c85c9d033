/-! the layout: the class's cells (ids 1 to 46), the reference's (47 to 59; its row at t), the law's row of one long (61) -/
abbrev Mem : Type := Nat → Nat → Int32
def up2 (m : Mem) (i j : Nat) (v : Int32) : Mem := va_up m i (upd (m i) j v)
def sh (t : Nat) (ex : Hp) (o : Nat → Int64) (i : Nat) (g : Nat → Int32) : Ce := match i with
  | 1 => .inr (4, [.ref 2, .ref 14, .ref 19, .ref 21, .ref 23, .ref 35, .int (g 6)])
  | 2 => .inr (1, [.ref 3, .ref 4, .ref 5, .ref 6, .ref 7, .ref 8, .ref 9, .ref 10, .ref 11, .ref 12, .ref 13, .int (g 11)])
  | 3 => .inl (.int, 30, .inl g)
  | 4 => .inl (.int, 30, .inl g)
  | 5 => .inl (.int, 30, .inl g)
  | 6 => .inl (.int, 30, .inl g)
  | 7 => .inl (.int, 30, .inl g)
  | 8 => .inl (.int, 30, .inl g)
  | 9 => .inl (.int, 30, .inl g)
  | 10 => .inl (.int, 30, .inl g)
  | 11 => .inl (.int, 24, .inl g)
  | 12 => .inl (.int, 24, .inl g)
  | 13 => .inl (.int, 24, .inl g)
  | 14 => .inr (2, [.ref 15, .ref 16, .ref 17, .ref 18, .int (g 4), .int (g 5)])
  | 15 => .inl (.int, 54, .inl g)
  | 16 => .inl (.int, 54, .inl g)
  | 17 => .inl (.boolean, 30, .inl g)
  | 18 => .inl (.int, 24, .inl g)
  | 19 => .inr (0, [.ref 20])
  | 20 => .inl (.int, 24, .inl g)
  | 21 => .inr (0, [.ref 22])
  | 22 => .inl (.int, 24, .inl g)
  | 23 => .inr (3, [.ref 2, .ref 24, .ref 25, .ref 26, .ref 27, .ref 28, .ref 29, .ref 30, .ref 31, .ref 32, .ref 33, .ref 34, .int (g 12), .int (g 13), .int (g 14), .int (g 15), .int (g 16), .int (g 17)])
  | 24 => .inl (.int, 24, .inl g)
  | 25 => .inl (.int, 24, .inl g)
  | 26 => .inl (.int, 24, .inl g)
  | 27 => .inl (.int, 24, .inl g)
  | 28 => .inl (.int, 30, .inl g)
  | 29 => .inl (.int, 30, .inl g)
  | 30 => .inl (.int, 30, .inl g)
  | 31 => .inl (.int, 30, .inl g)
  | 32 => .inl (.int, 40, .inl g)
  | 33 => .inl (.int, 40, .inl g)
  | 34 => .inl (.int, 40, .inl g)
  | 35 => .inr (3, [.ref 2, .ref 36, .ref 37, .ref 38, .ref 39, .ref 40, .ref 41, .ref 42, .ref 43, .ref 44, .ref 45, .ref 46, .int (g 12), .int (g 13), .int (g 14), .int (g 15), .int (g 16), .int (g 17)])
  | 36 => .inl (.int, 24, .inl g)
  | 37 => .inl (.int, 24, .inl g)
  | 38 => .inl (.int, 24, .inl g)
  | 39 => .inl (.int, 24, .inl g)
  | 40 => .inl (.int, 30, .inl g)
  | 41 => .inl (.int, 30, .inl g)
  | 42 => .inl (.int, 30, .inl g)
  | 43 => .inl (.int, 30, .inl g)
  | 44 => .inl (.int, 40, .inl g)
  | 45 => .inl (.int, 40, .inl g)
  | 46 => .inl (.int, 40, .inl g)
  | 47 => .inr (5, [.int (g 0), .int (g 1), .ref 48, .ref 49, .ref 50, .ref 51, .ref 52, .ref 53, .ref 54, .ref 55, .ref t, .int (g 11), .int (g 12), .ref 57, .ref 58, .ref 59])
  | 48 => .inl (.int, 30, .inl g)
  | 49 => .inl (.int, 30, .inl g)
  | 50 => .inl (.int, 30, .inl g)
  | 51 => .inl (.int, 30, .inl g)
  | 52 => .inl (.int, 30, .inl g)
  | 53 => .inl (.int, 30, .inl g)
  | 54 => .inl (.int, 30, .inl g)
  | 55 => .inl (.int, 30, .inl g)
  | 57 => .inl (.int, 108, .inl g)
  | 58 => .inl (.int, 24, .inl g)
  | 59 => .inl (.boolean, 24, .inl g)
  | 61 => .inl (.long, 1, .inr (.inl o))
  | j => ex j
def lay (t : Nat) (ex : Hp) (o : Nat → Int64) (m : Mem) : Hp := fun i => if i = t then .inl (.int, 342, .inl (m 60)) else sh t ex o i (m i)
/-- where the reference's row may lie -/
def tok (t : Nat) : Prop := t = 60 ∨ 62 ≤ t
def fixid (i : Nat) : Bool := decide (0 < i) && (decide (i < 60) || decide (i = 61)) && !decide (i = 56)
theorem fix_ne {t i : Nat} (ht : tok t) (hi : fixid i = true) : i ≠ t := by
  simp only [fixid, Bool.and_eq_true, Bool.or_eq_true, decide_eq_true_eq] at hi
  rcases ht with ht | ht <;> omega
theorem fix_pos {i : Nat} (hi : fixid i = true) : 0 < i := by
  simp only [fixid, Bool.and_eq_true, decide_eq_true_eq] at hi
  exact hi.1.1
theorem lay_at {t : Nat} {ex : Hp} {o : Nat → Int64} {m : Mem} {i : Nat} (ht : tok t) (hi : fixid i = true) : lay t ex o m i = sh t ex o i (m i) := by
  simp only [lay, if_neg (fix_ne ht hi)]
theorem lay_t {t : Nat} {ex : Hp} {o : Nat → Int64} {m : Mem} : lay t ex o m t = .inl (.int, 342, .inl (m 60)) := by simp [lay]
theorem lay_up {t : Nat} {ex : Hp} {o : Nat → Int64} {m : Mem} {i : Nat} {g : Nat → Int32} (ht : tok t) (hi : fixid i = true) : va_up (lay t ex o m) i (sh t ex o i g) = lay t ex o (va_up m i g) := by
  have h1 := fix_ne ht hi
  funext j
  by_cases hj : j = i
  · subst hj
    simp [va_up, lay, h1]
  · by_cases hjt : j = t
    · subst hjt
      have h60 : ¬ (60 = i) := by intro e; subst e; simp [fixid] at hi
      simp [va_up, lay, hj, h60]
    · simp [va_up, lay, hj, hjt]
theorem lay_upt {t : Nat} {ex : Hp} {o : Nat → Int64} {m : Mem} {g : Nat → Int32} (ht : tok t) (h60 : ∀ f, sh t ex o 60 f = sh t ex o 60 (m 60) := by intro f; rfl) : va_up (lay t ex o m) t (.inl (.int, 342, .inl g)) = lay t ex o (va_up m 60 g) := by
  funext j
  by_cases hjt : j = t
  · subst hjt
    simp [va_up, lay]
  · by_cases hj : j = 60
    · subst hj
      simp only [va_up, lay, if_neg hjt, if_true]
      exact (h60 g).symm
    · simp [va_up, lay, hj, hjt]
section LW
variable {Z : Gz} {μ : Mt} {d k0 mc ms : Nat} {Q : Po} {pc : Nat} {L S : List Value} {k cs ss t : Nat} {ex : Hp} {o : Nat → Int64} {m : Mem}
/-- a field of an object of the layout -/
theorem LW.get {i ci index f N : Nat} {C : String} {T : u_T} {fs : List Value} {v : Value} (ht : tok t) (hi : fixid i = true) (hs : sh t ex o i (m i) = .inr (ci, fs)) (hd : decode μ.2.1 pc = .ok (.getfield index, 3)) (hw : Cond.fieldLink μ.1.cls index (T f).1 (T f).2.1 (T f).2.2.1 ∈ lw_tbl) (hc : aw_cl[ci]? = some (C, T, N)) (hf : f < N)
    (hv : fs[f]? = some v) (K : AW Z μ d k0 mc ms Q (pc + 3) L (v :: S) (lay t ex o m) k cs ss) : AW Z μ d k0 mc ms Q pc L (.ref i :: S) (lay t ex o m) k cs ss :=
  AW.get hd hw hc hf rfl (fix_pos hi) ((lay_at ht hi).trans hs) hv K
theorem LW.getN {i ci index f N : Nat} {C host : String} {T : u_T} {fs : List Value} {v : Value} (ht : tok t) (hi : fixid i = true) (hs : sh t ex o i (m i) = .inr (ci, fs)) (hd : decode μ.2.1 pc = .ok (.getfield index, 3)) (hw : Cond.fieldLinkNest μ.1.cls index (T f).1 (T f).2.1 (T f).2.2.1 host ∈ lw_tbl) (hc : aw_cl[ci]? = some (C, T, N)) (hf : f < N)
    (hv : fs[f]? = some v) (K : AW Z μ d k0 mc ms Q (pc + 3) L (v :: S) (lay t ex o m) k cs ss) : AW Z μ d k0 mc ms Q pc L (.ref i :: S) (lay t ex o m) k cs ss :=
  AW.getN hd hw hc hf rfl (fix_pos hi) ((lay_at ht hi).trans hs) hv K
/-- an int or boolean field is written -/
theorem LW.put {i ci index f N : Nat} {C : String} {T : u_T} {fs : List Value} {v : Int32} (ht : tok t) (hi : fixid i = true) (hs : sh t ex o i (m i) = .inr (ci, fs)) (hs2 : .inr (ci, fs.set f (.int v)) = sh t ex o i (upd (m i) f v)) (hd : decode μ.2.1 pc = .ok (.putfield index, 3)) (hw : Cond.fieldLink μ.1.cls index (T f).1 (T f).2.1 (T f).2.2.1 ∈ lw_tbl) (hc : aw_cl[ci]? = some (C, T, N)) (hf : f < N)
    (hl : f < fs.length) (hfin : (T f).2.2.2 = false) (hn : narrow (aw_ty ci f) (.int v) = .int v ∧ fits (aw_ty ci f) (.int v) = true) (K : AW Z μ d k0 mc ms Q (pc + 3) L S (lay t ex o (up2 m i f v)) k cs ss) : AW Z μ d k0 mc ms Q pc L (.int v :: .ref i :: S) (lay t ex o m) k cs ss := by
  refine AW.put hd hw hc hf rfl (fix_pos hi) ((lay_at ht hi).trans hs) hl hfin (fun _ => hn) rfl ?_
  rw [hs2, lay_up ht hi]
  exact K
theorem LW.putN {i ci index f N : Nat} {C host : String} {T : u_T} {fs : List Value} {v : Int32} (ht : tok t) (hi : fixid i = true) (hs : sh t ex o i (m i) = .inr (ci, fs)) (hs2 : .inr (ci, fs.set f (.int v)) = sh t ex o i (upd (m i) f v)) (hd : decode μ.2.1 pc = .ok (.putfield index, 3)) (hw : Cond.fieldLinkNest μ.1.cls index (T f).1 (T f).2.1 (T f).2.2.1 host ∈ lw_tbl) (hc : aw_cl[ci]? = some (C, T, N)) (hf : f < N)
    (hl : f < fs.length) (hfin : (T f).2.2.2 = false) (hn : narrow (aw_ty ci f) (.int v) = .int v ∧ fits (aw_ty ci f) (.int v) = true) (K : AW Z μ d k0 mc ms Q (pc + 3) L S (lay t ex o (up2 m i f v)) k cs ss) : AW Z μ d k0 mc ms Q pc L (.int v :: .ref i :: S) (lay t ex o m) k cs ss := by
  refine AW.putN hd hw hc hf rfl (fix_pos hi) ((lay_at ht hi).trans hs) hl hfin (fun _ => hn) rfl ?_
  rw [hs2, lay_up ht hi]
  exact K
theorem LW.iald {i n j : Nat} {x : Int32} (ht : tok t) (hi : fixid i = true) (hs : sh t ex o i (m i) = .inl (.int, n, .inl (m i))) (hd : decode μ.2.1 pc = .ok (.iaload, 1)) (hin : vp_in x n) (hj : x.toNatClampNeg = j) (K : AW Z μ d k0 mc ms Q (pc + 1) L (.int (m i j) :: S) (lay t ex o m) k cs ss) : AW Z μ d k0 mc ms Q pc L (.int x :: .ref i :: S) (lay t ex o m) k cs ss := by
  subst hj
  exact AW.iald hd (fix_pos hi) ((lay_at ht hi).trans hs) hin K
theorem LW.zald {i n j : Nat} {x : Int32} (ht : tok t) (hi : fixid i = true) (hs : sh t ex o i (m i) = .inl (.boolean, n, .inl (m i))) (hd : decode μ.2.1 pc = .ok (.baload, 1)) (hin : vp_in x n) (hj : x.toNatClampNeg = j) (K : AW Z μ d k0 mc ms Q (pc + 1) L (.int (m i j) :: S) (lay t ex o m) k cs ss) : AW Z μ d k0 mc ms Q pc L (.int x :: .ref i :: S) (lay t ex o m) k cs ss := by
  subst hj
  exact AW.zald hd (fix_pos hi) ((lay_at ht hi).trans hs) hin K
theorem LW.iast {i n j : Nat} {x y : Int32} (ht : tok t) (hi : fixid i = true) (hs : ∀ g, sh t ex o i g = .inl (.int, n, .inl g)) (hd : decode μ.2.1 pc = .ok (.iastore, 1)) (hin : vp_in x n) (hj : x.toNatClampNeg = j) (K : AW Z μ d k0 mc ms Q (pc + 1) L S (lay t ex o (up2 m i j y)) k cs ss) : AW Z μ d k0 mc ms Q pc L (.int y :: .int x :: .ref i :: S) (lay t ex o m) k cs ss := by
  subst hj
  refine AW.iast hd (fix_pos hi) ((lay_at ht hi).trans (hs _)) hin ?_
  rw [← hs, lay_up ht hi]
  exact K
theorem LW.zast {i n j : Nat} {x y : Int32} (ht : tok t) (hi : fixid i = true) (hs : ∀ g, sh t ex o i g = .inl (.boolean, n, .inl g)) (hd : decode μ.2.1 pc = .ok (.bastore, 1)) (hin : vp_in x n) (hy : vp_nar .boolean y = y) (hj : x.toNatClampNeg = j) (K : AW Z μ d k0 mc ms Q (pc + 1) L S (lay t ex o (up2 m i j y)) k cs ss) : AW Z μ d k0 mc ms Q pc L (.int y :: .int x :: .ref i :: S) (lay t ex o m) k cs ss := by
  subst hj
  refine AW.zast hd (fix_pos hi) ((lay_at ht hi).trans (hs _)) hin hy ?_
  rw [← hs, lay_up ht hi]
  exact K
/-- the reference's row -/
theorem LW.ialdt {j : Nat} {x : Int32} (ht : tok t) (hd : decode μ.2.1 pc = .ok (.iaload, 1)) (hin : vp_in x 342) (hj : x.toNatClampNeg = j) (K : AW Z μ d k0 mc ms Q (pc + 1) L (.int (m 60 j) :: S) (lay t ex o m) k cs ss) : AW Z μ d k0 mc ms Q pc L (.int x :: .ref t :: S) (lay t ex o m) k cs ss := by
  subst hj
  exact AW.iald hd (by rcases ht with h | h <;> omega) lay_t hin K
theorem LW.iastt {j : Nat} {x y : Int32} (ht : tok t) (hd : decode μ.2.1 pc = .ok (.iastore, 1)) (hin : vp_in x 342) (hj : x.toNatClampNeg = j) (K : AW Z μ d k0 mc ms Q (pc + 1) L S (lay t ex o (up2 m 60 j y)) k cs ss) : AW Z μ d k0 mc ms Q pc L (.int y :: .int x :: .ref t :: S) (lay t ex o m) k cs ss := by
  subst hj
  refine AW.iast hd (by rcases ht with h | h <;> omega) lay_t hin ?_
  rw [lay_upt ht]
  exact K
theorem LW.copyi {i j n0 n1 index : Nat} {sp dp n : Int32} (ht : tok t) (hi : fixid i = true) (hj : fixid j = true) (hsi : sh t ex o i (m i) = .inl (.int, n0, .inl (m i))) (hsj : ∀ g, sh t ex o j g = .inl (.int, n1, .inl g)) (hd : decode μ.2.1 pc = .ok (.invokestatic index, 3)) (hlink : Cond.methodLink μ.1.cls index arraycopyName ∈ lw_tbl) (hnat : Cond.native arraycopyName ∈ lw_tbl) (hst : Cond.static arraycopyName ∈ lw_tbl) (hini : Cond.initialized "java/lang/System" ∈ lw_tbl)
    (h1 : ¬ sp < 0) (h2 : ¬ dp < 0) (h3 : ¬ n < 0) (h4 : sp.toNatClampNeg + n.toNatClampNeg ≤ n0) (h5 : dp.toNatClampNeg + n.toNatClampNeg ≤ n1) (hcat : (S.map fun v => v.category).sum ≤ 8)
    (K : AW Z μ d k0 mc ms Q (pc + 3) L S (lay t ex o (va_up m j (va_cpy (m i) (m j) sp.toNatClampNeg dp.toNatClampNeg n.toNatClampNeg))) k cs ss) : AW Z μ d k0 mc ms Q pc L (.int n :: .int dp :: .ref j :: .int sp :: .ref i :: S) (lay t ex o m) k cs ss := by
  refine AW.copyi hd hlink hnat hst hini (fix_pos hi) (fix_pos hj) ((lay_at ht hi).trans hsi) ((lay_at ht hj).trans (hsj _)) h1 h2 h3 h4 h5 hcat ?_
  rw [← hsj, lay_up ht hj]
  exact K
end LW
