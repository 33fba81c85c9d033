/-! cases that set an input, or would -/
/-- the first line that drives w is an input -/
def S_inp (g : Mem) (n w : Nat) : Prop := ¬ S_drv g n w = -1 ∧ g 48 (cl (S_drv g n w)) = -1
theorem CL.inp {m g : Mem} {l : Nat} (h : CL m g l) : m 3 l = 8 ↔ g 48 l = -1 := by
  obtain ⟨-, -, -, -, -, hk⟩ := h
  rcases hk with ⟨e1, e2, -⟩ | ⟨e1, e2, -⟩ | ⟨k, hk, e1, e2, -⟩
  · exact ⟨fun _ => e1, fun _ => e2⟩
  · exact ⟨fun e => absurd (e2.symm.trans e) (by decide), fun e => absurd (e1.symm.trans e) (by decide)⟩
  · exact ⟨fun e => absurd ((nI_eq (b := 8) (by omega) (by decide)).mp (e2.symm.trans e)) (by omega), fun e => absurd (e1.symm.trans e) (nI_m1 (by omega))⟩
theorem MC.fr {m m' g : Mem} {n r : Nat} (hc : MC m g n) (hr : r + 11 < 47) (f : FR r m m') : MC m' g n := by
  unfold MC at hc ⊢
  rw [f 47 (by omega), f 48 (by omega), f 49 (by omega), f 50 (by omega), f 51 (by omega), f 52 (by omega), f 53 (by omega), f 54 (by omega), f 55 (by omega)]
  exact hc
theorem MC.thr {m g : Mem} {n : Nat} {v : Int32} (hc : MC m g n) : MC (up2 m 47 0 v) g n := by
  unfold MC at hc ⊢
  rw [SM.thrown.2.1, up47_ne (by omega), up47_ne (by omega), up47_ne (by omega), up47_ne (by omega), up47_ne (by omega), up47_ne (by omega), up47_ne (by omega), up47_ne (by omega)]
  exact hc
theorem RW.set {g : Mem} {n w : Nat} {v : Int32} {ρ : Rw} (hn : n ≤ 30) (hwf : ∀ l, l < n → WFl g l) (h : RW g n ρ) (hw : w < 24) (hv : isV v) : RW g n (S_set g n w v ρ) := by
  unfold S_set
  split
  · exact h.begin
  · exact h.begin.change hn hwf hw hv
theorem isV01 {v : Int32} (h : v = 0 ∨ v = 1) : isV v := h.imp id Or.inl
section CASES10
variable {j : Nat} {m g : Mem} {n : Nat} {o : Nat → Int64}
theorem s_N_checkSetting {w : Nat} {p2 : Int32} {K : Mem → Prop} {X : String → Mem → Prop} (hcc : CC m g n) (hw : w < 24) (h1 : S_inp g n w → (p2 = 0 ∨ p2 = 1) → K m) (h0 : ¬ (S_inp g n w ∧ (p2 = 0 ∨ p2 = 1)) → X "java/lang/IllegalArgumentException" m) : w_N_checkSetting (nI w) p2 m K X := by
  have hn := hcc.1
  unfold w_N_checkSetting w_C_isFirstDrivenBy
  refine s_C_firstLineOf hcc hw ⟨fun e => ⟨fun ne => absurd rfl ne, fun _ => h0 fun hh => hh.1.1 e⟩, fun ne => ?_⟩
  rcases S_drv_spec (g := g) (n := n) (w := w) with ⟨e, -⟩ | ⟨q, hq, e, -, -⟩
  · exact absurd e ne
  · have hi := (hcc.2.2.1 q hq).inp
    have hs : S_inp g n w ↔ g 48 q = -1 := by
      unfold S_inp
      rw [e, cl_nI (by omega)]
      exact ⟨fun hh => hh.2, fun hh => ⟨nI_m1 (by omega), hh⟩⟩
    rw [e, nI_clamp (by omega)]
    exact ⟨vp_in_nI (by omega) (by decide), fun n8 => ⟨fun ne => absurd rfl ne, fun _ => h0 fun hh => n8 (hi.mpr (hs.mp hh.1))⟩, fun e8 => ⟨fun _ => ⟨fun e0 => h1 (hs.mpr (hi.mp e8)) (Or.inl e0), fun n0 => ⟨fun e1 => h1 (hs.mpr (hi.mp e8)) (Or.inr e1), fun n1 => h0 fun hh => hh.2.elim n0 n1⟩⟩, fun e => absurd e (by decide)⟩⟩
theorem nI_inj24 {a b : Nat} (ha : a < 24) (hb : b < 24) (h : nI a = nI b) : a = b := (nI_eq (by omega) (by omega)).mp h
/-- an exception, of what is asked for an input -/
theorem end_thr {c : Int32} {A : Mem → Prop} (h : Iv j m g n) (hc : ¬ c = 0) : ∀ m3 : Mem, m3 = up2 m 47 0 c → ((¬ (m3 47 0 = 0) → ((m3 47 0 = c → ((¬ (c = 0) → Inv (j + 1) m3) ∧ (c = 0 → ((lg_cmp (o 0) (0 : Int32).toInt64 = 0 → Inv (j + 1) m3) ∧ (¬ (lg_cmp (o 0) (0 : Int32).toInt64 = 0) → False))))) ∧ (¬ (m3 47 0 = c) → False))) ∧ (m3 47 0 = 0 → A m3)) := by
  intro m3 e3
  have t : m3 47 0 = c := by rw [e3]; exact up47_0
  exact ⟨fun _ => fin_no t hc ⟨g, n, h.same (by omega) (by rw [e3]; exact SM.thrown)⟩, fun e => absurd (t.symm.trans e) hc⟩
theorem end_thr' {c : Int32} {A : Mem → Prop} (h : Iv j m g n) (hc : ¬ c = 0) : ∀ m3 : Mem, m3 = up2 m 47 0 c → ((m3 47 0 = 0 → A m3) ∧ (¬ (m3 47 0 = 0) → ((m3 47 0 = c → ((¬ (c = 0) → Inv (j + 1) m3) ∧ (c = 0 → ((lg_cmp (o 0) (0 : Int32).toInt64 = 0 → Inv (j + 1) m3) ∧ (¬ (lg_cmp (o 0) (0 : Int32).toInt64 = 0) → False))))) ∧ (¬ (m3 47 0 = c) → False)))) := fun m3 e3 => ⟨(end_thr (o := o) (A := A) h hc m3 e3).2, (end_thr (o := o) (A := A) h hc m3 e3).1⟩
end CASES10
section CASES10b
variable {j : Nat} {m : Mem} {o : Nat → Int64}
end CASES10b
