/-! the bench starts: changes, the clearing, the start itself -/
def mprs : List (Int32 × Int32) := [(0, 0), (1, 1), (2, 2), (2, 0)]
theorem work_mono0 : ∀ q ∈ List.range 8, ∀ a ∈ mprs, ∀ b ∈ mprs, ∀ c ∈ mprs, ¬ S_work (nI q) a.1 b.1 c.1 = 2 → S_work (nI q) a.2 b.2 c.2 = S_work (nI q) a.1 b.1 c.1 := by decide +kernel
theorem mprs_of {a a' : Int32} (ha : isV a) (h : a' = a ∨ (a = 2 ∧ a' = 0)) : (a, a') ∈ mprs := by
  rcases h with rfl | ⟨rfl, rfl⟩
  · rcases ha with rfl | rfl | rfl <;> decide
  · decide
theorem upd_pair {V : Nat → Int32} {w j : Nat} (hw : V w = 2) : upd V w 0 j = V j ∨ (V j = 2 ∧ upd V w 0 j = 0) := by
  by_cases e : j = w
  · subst e; exact Or.inr ⟨hw, upd_same⟩
  · exact Or.inl (upd_ne e)
theorem gT.gate {T : Nat → Nat → Int32} {n l : Nat} (hT : gT T n) (hl : l < n) (hg : ¬ T l 0 < 0) : 4 ≤ l ∧ (∃ q : Nat, q < 8 ∧ T l 0 = nI q) ∧ ∃ a : Nat, a < l ∧ T l 2 = nI a := by
  rcases (hT.2 l hl).2.2.2 with h | ⟨h4, -, h2, h | ⟨q, hq, e, -⟩⟩
  · exact absurd (show T l 0 < 0 by rw [h.2.1]; decide) hg
  · exact absurd (show T l 0 < 0 by rw [h.1]; decide) hg
  · exact ⟨h4, ⟨q, hq, e⟩, h2⟩
theorem pin_isV {T : Nat → Nat → Int32} {n l k : Nat} {V : Nat → Int32} (hT : gT T n) (hl : l < n) (hk : k = 2 ∨ k = 3 ∨ k = 4) (hV : ∀ w, w < 24 → isV (V w)) : isV (V (cl (T l k))) := by
  have h17 := hT.1
  rcases hT.pin hl hk with h | ⟨a, ha, h⟩
  · rw [h]; exact hV 0 (by decide)
  · rw [h, cl_nI (by omega)]; exact hV a (by omega)
theorem wkb_mono {T : Nat → Nat → Int32} {n l w : Nat} {V : Nat → Int32} (hT : gT T n) (hl : l < n) (hg : ¬ T l 0 < 0) (hV : ∀ w, w < 24 → isV (V w)) (hw : V w = 2) (h : ¬ wkb T V l = 2) : wkb T (upd V w 0) l = wkb T V l := by
  obtain ⟨-, ⟨q, hq, e⟩, -⟩ := hT.gate hl hg
  unfold wkb at h ⊢
  rw [e] at h ⊢
  have p1 : ∀ k, k = 2 ∨ k = 3 ∨ k = 4 → (V (cl (T l k)), upd V w 0 (cl (T l k))) ∈ mprs := fun k hk => mprs_of (pin_isV hT hl hk hV) (upd_pair hw)
  have p2 : ∀ k, k = 2 ∨ k = 3 ∨ k = 4 → ((if T l k < 0 then 2 else V (cl (T l k))), (if T l k < 0 then 2 else upd V w 0 (cl (T l k)))) ∈ mprs := fun k hk => by
    by_cases s : T l k < 0
    · rw [if_pos s, if_pos s]; decide
    · rw [if_neg s, if_neg s]; exact p1 k hk
  exact work_mono0 q (List.mem_range.mpr hq) _ (p1 2 (Or.inl rfl)) _ (p2 3 (Or.inr (Or.inl rfl))) _ (p2 4 (Or.inr (Or.inr rfl))) h
theorem wkb_same {T : Nat → Nat → Int32} {n l w : Nat} {V : Nat → Int32} {v : Int32} (hT : gT T n) (hl : l < n) (hg : ¬ T l 0 < 0) (hu : ¬ (T l 2 = nI w ∨ T l 3 = nI w ∨ T l 4 = nI w)) : wkb T (upd V w v) l = wkb T V l := by
  have h17 := hT.1
  obtain ⟨-, -, a, ha, e2⟩ := hT.gate hl hg
  have p1 : ∀ k a, a < l → T l k = nI a → ¬ T l k = nI w → upd V w v (cl (T l k)) = V (cl (T l k)) := fun k a ha e hn => by
    rw [e, cl_nI (by omega)]
    exact upd_ne fun q => hn (by rw [e, q])
  have p2 : ∀ k, k = 2 ∨ k = 3 ∨ k = 4 → ¬ T l k = nI w → (if T l k < 0 then 2 else upd V w v (cl (T l k))) = (if T l k < 0 then 2 else V (cl (T l k))) := fun k hk hn => by
    rcases hT.pin hl hk with h | ⟨b, hb, h⟩
    · rw [h]; rfl
    · rw [p1 k b hb h hn]
  unfold wkb
  rw [p1 2 a ha e2 (fun q => hu (Or.inl q)), p2 3 (Or.inr (Or.inl rfl)) (fun q => hu (Or.inr (Or.inl q))), p2 4 (Or.inr (Or.inr rfl)) (fun q => hu (Or.inr (Or.inr q)))]
theorem wkb_2 {T : Nat → Nat → Int32} {n l : Nat} (hT : gT T n) (hl : l < n) (hg : ¬ T l 0 < 0) : wkb T (fun _ => 2) l = 2 := by
  obtain ⟨-, ⟨q, hq, e⟩, -⟩ := hT.gate hl hg
  have : ∀ q ∈ List.range 8, S_work (nI q) 2 2 2 = 2 := by decide +kernel
  unfold wkb
  rw [e, ite_self, ite_self]
  exact this q (List.mem_range.mpr hq)
theorem pmf_2 {T : Nat → Nat → Int32} {n l : Nat} (hT : gT T n) (hl : l < n) : pmf T (fun _ => 2) l = -1 := by
  unfold pmf
  by_cases hg : T l 0 < 0
  · rw [if_pos hg]
  · rw [if_neg hg, if_pos (wkb_2 hT hl hg)]
theorem SP.wire {h : Hp} {k : Nat} {x : Nat → Int32} {pe hz n c w : Nat} {T : Nat → Nat → Int32} {V pm r : Nat → Int32} {v y : Int32} (hS : SP h k x pe hz n T c V pm) (hw : w < 24) (hr : r 0 = v) : SP (va_up (va_up h (c + w) (irow 4 r)) 1 (.inr (5, bf (upd x 9 y) 49 pe hz))) k (upd x 9 y) pe hz n T c (upd V w v) pm := by
  obtain ⟨hB, hW, ⟨np, f, p1, p2, p3, p4⟩, ⟨r5, hr5, hr6⟩, h6, hi⟩ := hS
  have hn := hB.2.1.2
  have ev : ∀ i, i ≠ 1 → i ≠ c + w → (va_up (va_up h (c + w) (irow 4 r)) 1 (.inr (5, bf (upd x 9 y) 49 pe hz))) i = h i := fun i i1 i2 => by rw [up_ne i1, up_ne i2]
  refine ⟨⟨up_same, hB.2.1, (ev 48 (by omega) (by omega)).trans hB.2.2.1, fun l hl => (ev (79 + l) (by omega) (by omega)).trans (hB.2.2.2 l hl)⟩, ⟨(ev 49 (by omega) (by omega)).trans hW.1, fun j hj => ?_⟩, ⟨np, f, (ev pe (by omega) (by omega)).trans p1, p2, fun i hi2 => ?_, fun l hl hp => ?_⟩, ⟨r5, (ev 51 (by omega) (by omega)).trans hr5, hr6⟩, h6, hi⟩
  · by_cases q : j = w
    · subst q
      exact ⟨r, by rw [up_ne (by omega), up_same], by rw [hr, upd_same]⟩
    · obtain ⟨r2, a1, a2⟩ := hW.2 j hj
      exact ⟨r2, (ev (c + j) (by omega) (by omega)).trans a1, by rw [upd_ne q]; exact a2⟩
  · obtain ⟨b, u, l, q1, q2, q3, q4⟩ := p3 i hi2
    exact ⟨b, u, l, q1, q2, (ev b (by omega) (by omega)).trans q3, q4⟩
  · obtain ⟨i, b, u, q1, q2, q3, q4⟩ := p4 l hl hp
    obtain ⟨b2, u2, l2, g1, g2, -⟩ := p3 i q1
    cases q2.symm.trans g1
    exact ⟨i, b, u, q1, q2, (ev b (by omega) (by omega)).trans q3, q4⟩
theorem cntB_cg {p q : Nat → Bool} : ∀ n, (∀ l, l < n → p l = q l) → cntB p n = cntB q n
  | 0, _ => rfl
  | n + 1, h => by unfold cntB; rw [cntB_cg n fun l hl => h l (by omega), h n (Nat.lt_succ_self n)]
theorem cntB_no : ∀ n, cntB (fun _ => decide (¬ (-1 : Int32) = -1)) n = 0
  | 0 => rfl
  | n + 1 => by unfold cntB; rw [cntB_no n]; rfl
abbrev mX5_change : Mt := (yX5_change, cX5_change, 5, none, [])
set_option maxRecDepth 20000 in
theorem ok_X5_change : aw_mok mX5_change 2 := ⟨rfl, tw_828, tw_1, ⟨by decide, by decide⟩, by decide +kernel, by decide⟩
set_option maxRecDepth 100000 in
set_option maxHeartbeats 4000000 in
theorem c_B_change {h : Hp} {x : Nat → Int32} {pe hz n c : Nat} {T : Nat → Nat → Int32} {V pm : Nat → Int32} {d k : Nat} {w : Nat} (hd : 5 ≤ d) (hT : gT T n) (hS : SP h k x pe hz n T c V pm) (hw : w < 4) (hVw : V w = 2) (hVV : ∀ w, w < 24 → isV (V w)) (hVg : ∀ l, l < n → ¬ T l 0 < 0 → V l = 2) (hpm : ∀ l, l < n → pm l = pmf T V l) : AM mX5_change d [.ref 1, .int (nI w), .int 0] h k 40 700 (fun oc h' k' => oc = .inl none ∧ k ≤ k' ∧ (∀ i, 0 < i → i < k → i ≠ 1 → i ≠ c + w → h' i = h i) ∧ ∃ (x' : Nat → Int32) (pe' : Nat) (pm' : Nat → Int32), (∀ j, j ≠ 9 → x' j = x j) ∧ SP h' k' x' pe' hz n T c (upd V w 0) pm' ∧ ∀ l, l < n → pm' l = pmf T (upd V w 0) l) := by
  refine AM.intro (n := 2) (by decide) rfl rfl rfl ?_
  have hB := hS.1
  have hW := hS.2.1
  have hn := hB.2.1.2
  have hn17 := hT.1
  obtain ⟨g1, g2, g3, g4, g5⟩ := hS.2.2.2.2.2
  obtain ⟨r, hr, e0⟩ := hW.2 w (by omega)
  have hV2 : ∀ l, l < n → ¬ T l 0 < 0 → upd V w 0 l = 2 := fun l hl hg => by rw [upd_ne (by have := (hT.gate hl hg).1; omega)]; exact hVg l hl hg
  have hVV2 : ∀ j, j < 24 → isV (upd V w 0 j) := fun j hj => by by_cases q : j = w; (rw [q, upd_same]; exact isV0); (rw [upd_ne q]; exact hVV j hj)
  refine AW.aload_n (pc := 0) dX5_change_0 rfl rfl ?_
  refine AW.get (pc := 1) (i := 1) (ci := 5) (f := 10) (N := 14) (C := RX5) (T := TX5) dX5_change_1 tw_661 rfl (by decide) rfl (by decide) (hB.1) rfl ?_
  refine AW.iload_n (pc := 4) dX5_change_4 rfl rfl ?_
  refine AW.aald (pc := 5) (n := 24) (f := wf c) (j := c + w) dX5_change_5 (by decide) (hW.1) (vp_in_nI (by omega) (by decide)) (wf_at (by omega)) ?_
  refine AW.iconst (v := 0) (pc := 6) dX5_change_6 (by decide) ?_
  refine AW.iald2 (pc := 7) (n := 4) (g := r) (j := 0) dX5_change_7 (by omega) (hr) (vp_lit (by decide)) (by decide) ?_
  rw [e0, hVw]
  refine AW.istore_n (L' := [.ref 1, .int (nI w), .int 0, .int 2, .null]) (pc := 8) dX5_change_8 rfl (by decide) rfl rfl ?_
  refine AW.aload_n (pc := 9) dX5_change_9 rfl rfl ?_
  refine AW.get (pc := 10) (i := 1) (ci := 5) (f := 10) (N := 14) (C := RX5) (T := TX5) dX5_change_10 tw_661 rfl (by decide) rfl (by decide) (hB.1) rfl ?_
  refine AW.iload_n (pc := 13) dX5_change_13 rfl rfl ?_
  refine AW.aald (pc := 14) (n := 24) (f := wf c) (j := c + w) dX5_change_14 (by decide) (hW.1) (vp_in_nI (by omega) (by decide)) (wf_at (by omega)) ?_
  refine AW.iconst (v := 0) (pc := 15) dX5_change_15 (by decide) ?_
  refine AW.iload_n (pc := 16) dX5_change_16 rfl rfl ?_
  refine AW.iast2 (pc := 17) (n := 4) (g := r) (j := 0) dX5_change_17 (by omega) (hr) (vp_lit (by decide)) (by decide) ?_
  have hB15 := hB.up (q := c + w) (c := irow 4 (upd r 0 0)) (by omega) (by omega) (fun l hl => by omega)
  show AW _ _ _ _ _ _ _ 18 [.ref 1, .int (nI w), .int 0, .int 2, .null] [] (va_up h (c + w) (irow 4 (upd r 0 0))) k 0 0
  refine AW.aload_n (pc := 18) dX5_change_18 rfl rfl ?_
  refine AW.get (pc := 19) (i := 1) (ci := 5) (f := 10) (N := 14) (C := RX5) (T := TX5) dX5_change_19 tw_661 rfl (by decide) rfl (by decide) (hB15.1) rfl ?_
  refine AW.iload_n (pc := 22) dX5_change_22 rfl rfl ?_
  refine AW.aald (pc := 23) (n := 24) (f := wf c) (j := c + w) dX5_change_23 (by decide) ((up_ne (by omega)).trans hW.1) (vp_in_nI (by omega) (by decide)) (wf_at (by omega)) ?_
  refine AW.iconst (v := 1) (pc := 24) dX5_change_24 (by decide) ?_
  refine AW.aload_n (pc := 25) dX5_change_25 rfl rfl ?_
  refine AW.get (pc := 26) (i := 1) (ci := 5) (f := 6) (N := 14) (C := RX5) (T := TX5) dX5_change_26 tw_657 rfl (by decide) rfl (by decide) (hB15.1) rfl ?_
  refine AW.iast2 (pc := 29) (n := 4) (g := (upd r 0 0)) (j := 1) dX5_change_29 (by omega) (up_same) (vp_lit (by decide)) (by decide) ?_
  rw [up_up]
  have hB26 := hB.up (q := c + w) (c := irow 4 (upd (upd r 0 0) 1 (x 6))) (by omega) (by omega) (fun l hl => by omega)
  show AW _ _ _ _ _ _ _ 30 [.ref 1, .int (nI w), .int 0, .int 2, .null] [] (va_up h (c + w) (irow 4 (upd (upd r 0 0) 1 (x 6)))) k 0 0
  refine AW.aload_n (pc := 30) dX5_change_30 rfl rfl ?_
  refine AW.get (pc := 31) (i := 1) (ci := 5) (f := 10) (N := 14) (C := RX5) (T := TX5) dX5_change_31 tw_661 rfl (by decide) rfl (by decide) (hB26.1) rfl ?_
  refine AW.iload_n (pc := 34) dX5_change_34 rfl rfl ?_
  refine AW.aald (pc := 35) (n := 24) (f := wf c) (j := c + w) dX5_change_35 (by decide) ((up_ne (by omega)).trans hW.1) (vp_in_nI (by omega) (by decide)) (wf_at (by omega)) ?_
  refine AW.iconst (v := 2) (pc := 36) dX5_change_36 (by decide) ?_
  refine AW.dup2 (pc := 37) dX5_change_37 rfl rfl ?_
  refine AW.iald2 (pc := 38) (n := 4) (g := (upd (upd r 0 0) 1 (x 6))) (j := 2) dX5_change_38 (by omega) (up_same) (vp_lit (by decide)) (by decide) ?_
  refine AW.iconst (v := 1) (pc := 39) dX5_change_39 (by decide) ?_
  refine AW.iadd (pc := 40) dX5_change_40 ?_
  refine AW.iast2 (pc := 41) (n := 4) (g := (upd (upd r 0 0) 1 (x 6))) (j := 2) dX5_change_41 (by omega) (up_same) (vp_lit (by decide)) (by decide) ?_
  rw [up_up]
  have hB39 := hB.up (q := c + w) (c := irow 4 (upd (upd (upd r 0 0) 1 (x 6)) 2 (((upd (upd r 0 0) 1 (x 6)) 2) + (1 : Int32)))) (by omega) (by omega) (fun l hl => by omega)
  show AW _ _ _ _ _ _ _ 42 [.ref 1, .int (nI w), .int 0, .int 2, .null] [] (va_up h (c + w) (irow 4 (upd (upd (upd r 0 0) 1 (x 6)) 2 (((upd (upd r 0 0) 1 (x 6)) 2) + (1 : Int32))))) k 0 0
  refine AW.aload_n (pc := 42) dX5_change_42 rfl rfl ?_
  refine AW.dup (pc := 43) dX5_change_43 rfl ?_
  refine AW.get (pc := 44) (i := 1) (ci := 5) (f := 9) (N := 14) (C := RX5) (T := TX5) dX5_change_44 tw_660 rfl (by decide) rfl (by decide) (hB39.1) rfl ?_
  refine AW.iconst (v := 1) (pc := 47) dX5_change_47 (by decide) ?_
  refine AW.iadd (pc := 48) dX5_change_48 ?_
  refine AW.put (pc := 49) (i := 1) (ci := 5) (f := 9) (N := 14) (C := RX5) (T := TX5) (fs' := bf (upd x 9 ((x 9) + (1 : Int32))) 49 pe hz) dX5_change_49 tw_660 rfl (by decide) rfl (by decide) (hB39.1) (Nat.le_of_ble_eq_true rfl) rfl (fun _ => ⟨rfl, rfl⟩) rfl ?_
  show AW _ _ _ _ _ _ _ 52 [.ref 1, .int (nI w), .int 0, .int 2, .null] [] (va_up (va_up h (c + w) (irow 4 (upd (upd (upd r 0 0) 1 (x 6)) 2 (((upd (upd r 0 0) 1 (x 6)) 2) + (1 : Int32))))) 1 (.inr (5, bf (upd x 9 ((x 9) + (1 : Int32))) 49 pe hz))) k 0 0
  have hS1 := hS.wire (w := w) (r := (upd (upd (upd r 0 0) 1 (x 6)) 2 (((upd (upd r 0 0) 1 (x 6)) 2) + (1 : Int32)))) (v := 0) (y := ((x 9) + (1 : Int32))) (by omega) rfl
  have hF1 : ∀ i, 0 < i → i < k → i ≠ 1 → i ≠ c + w → (va_up (va_up h (c + w) (irow 4 (upd (upd (upd r 0 0) 1 (x 6)) 2 (((upd (upd r 0 0) 1 (x 6)) 2) + (1 : Int32))))) 1 (.inr (5, bf (upd x 9 ((x 9) + (1 : Int32))) 49 pe hz))) i = h i := fun i i0 ik i1 i2 => by rw [up_ne i1, up_ne i2]
  generalize hh1 : (va_up (va_up h (c + w) (irow 4 (upd (upd (upd r 0 0) 1 (x 6)) 2 (((upd (upd r 0 0) 1 (x 6)) 2) + (1 : Int32))))) 1 (.inr (5, bf (upd x 9 ((x 9) + (1 : Int32))) 49 pe hz))) = h1 at hS1 hF1 ⊢
  have key : ∀ (r j : Nat) (y : Int32) (h2 : Hp) (k2 pe2 cs2 ss2 : Nat) (pm2 : Nat → Int32), j + r = n → y = nI j → k ≤ k2 → FS k h1 h2 → SP h2 k2 (upd x 9 ((x 9) + (1 : Int32))) pe2 hz n T c (upd V w 0) pm2 → (∀ l, l < n → pm2 l = (if l < j then pmf T (upd V w 0) l else pmf T V l)) → cs2 + 2 * r ≤ 40 → ss2 + 34 * r ≤ 700 → AW aw_Z0 mX5_change d k 40 700 (fun oc h' k' => oc = .inl none ∧ k ≤ k' ∧ (∀ i, 0 < i → i < k → i ≠ 1 → i ≠ c + w → h' i = h i) ∧ ∃ (x' : Nat → Int32) (pe' : Nat) (pm' : Nat → Int32), (∀ j, j ≠ 9 → x' j = x j) ∧ SP h' k' x' pe' hz n T c (upd V w 0) pm' ∧ ∀ l, l < n → pm' l = pmf T (upd V w 0) l)  55 [.ref 1, .int (nI w), .int 0, .int 2, .int y] [] h2 k2 cs2 ss2 := by
    intro r
    induction r with
    | zero =>
      intro j y h2 k2 pe2 cs2 ss2 pm2 hj hy hk2 hF hS2 hpm2 b1 b2
      subst hy
      have : j = n := by omega
      subst this
      have hB2 := hS2.1
      refine AW.iload (pc := 55) dX5_change_55 rfl ?_
      refine AW.aload_n (pc := 57) dX5_change_57 rfl rfl ?_
      refine AW.get (pc := 58) (i := 1) (ci := 5) (f := 3) (N := 14) (C := RX5) (T := TX5) dX5_change_58 tw_653 rfl (by decide) rfl (by decide) (hB2.1) rfl ?_
      rw [hB2.2.1.1]
      refine AW.icmp_ge (pc := 61) (tgt := 88) dX5_change_61 (by decide) (fun _ => ?_) (fun c => absurd (nI_le (Nat.le_refl _) (by omega)) c)
      exact AW.vret (pc := 88) dX5_change_88 rfl (by omega) (by omega) (⟨rfl, hk2, fun i i0 ik i1 i2 => (hF i i0 ik i1).trans (hF1 i i0 ik i1 i2), _, pe2, pm2, fun j hj => upd_ne hj, hS2, fun l hl => by rw [hpm2 l hl, if_pos hl]⟩)
    | succ r ih =>
      intro j y h2 k2 pe2 cs2 ss2 pm2 hj hy hk2 hF hS2 hpm2 b1 b2
      subst hy
      have hl : j < n := by omega
      have hB2 := hS2.1
      have hpj : pm2 j = pmf T V j := by rw [hpm2 j hl, if_neg (Nat.lt_irrefl j)]
      refine AW.iload (pc := 55) dX5_change_55 rfl ?_
      refine AW.aload_n (pc := 57) dX5_change_57 rfl rfl ?_
      refine AW.get (pc := 58) (i := 1) (ci := 5) (f := 3) (N := 14) (C := RX5) (T := TX5) dX5_change_58 tw_653 rfl (by decide) rfl (by decide) (hB2.1) rfl ?_
      rw [hB2.2.1.1]
      refine AW.icmp_ge (pc := 61) (tgt := 88) dX5_change_61 (by decide) (fun c => absurd c (nI_ge hl (by omega))) (fun _ => ?_)
      refine AW.aload_n (pc := 64) dX5_change_64 rfl rfl ?_
      refine AW.iload (pc := 65) dX5_change_65 rfl ?_
      refine AW.iload_n (pc := 67) dX5_change_67 rfl rfl ?_
      refine AW.callV (pc := 68) (S' := []) dX5_change_68 (c_B_uses (d := d - 1) hB2 hl) ok_X5_uses tw_777 tw_778 tw_810 (by decide) (hB2.1) (show aw_cl[5]? = some _ from rfl) rfl rfl (by omega) rfl (Nat.le_of_ble_eq_true rfl) (by omega) (by omega) ?_ (fun E h' k' hq => by obtain ⟨hx9, -⟩ := hq; try cases hx9)
      intro v h' k' hq
      obtain ⟨hx9, rfl, rfl⟩ := hq
      cases hx9
      show AW _ _ _ _ _ _ _ 71 [.ref 1, .int (nI w), .int 0, .int 2, .int (nI j)] [.int (if T j 2 = nI w ∨ T j 3 = nI w ∨ T j 4 = nI w then 1 else 0)] h2 k2 cs2 ss2
      by_cases hu : T j 2 = nI w ∨ T j 3 = nI w ∨ T j 4 = nI w
      · rw [if_pos hu]
        refine AW.if_eq (pc := 71) (tgt := 82) dX5_change_71 (by decide) (fun c => absurd c (by decide)) (fun _ => ?_)
        refine AW.aload_n (pc := 74) dX5_change_74 rfl rfl ?_
        refine AW.iload (pc := 75) dX5_change_75 rfl ?_
        refine AW.iload_n (pc := 77) dX5_change_77 rfl rfl ?_
        refine AW.iload_n (pc := 78) dX5_change_78 rfl rfl ?_
        refine AW.callV (pc := 79) (S' := []) dX5_change_79 (c_B_ask (d := d - 1) (by omega) hT hS2 hl (by omega) upd_same hVV2 (hV2 j hl) (fun hg => by rw [hpj, pmf, if_pos hg]) (fun hg => by rw [hpj, pmf, if_neg hg]; by_cases q : wkb T V j = 2; (rw [if_pos q]; exact Or.inl rfl); (have e := wkb_mono hT hl hg hVV hVw q; rw [if_neg q, e]; exact Or.inr ⟨rfl, q⟩))) ok_X5_ask tw_831 ts_36 tw_829 (by decide) (hB2.1) (show aw_cl[5]? = some _ from rfl) rfl rfl (by omega) rfl (Nat.le_of_ble_eq_true rfl) (by omega) (by omega) ?_ (fun E h' k' hq => by obtain ⟨hx9, -⟩ := hq; try cases hx9)
        intro v h' k' hq
        obtain ⟨hx9, hk3, hF3, pe3, pm3, hS3, hp3, hp4⟩ := hq
        cases hx9
        show AW _ _ _ _ _ _ _ 82 [.ref 1, .int (nI w), .int 0, .int 2, .int (nI j)] [] h' k' (cs2 + 2) (ss2 + 34)
        refine AW.iinc (v := ((nI j) + 1)) (L' := [.ref 1, .int (nI w), .int 0, .int 2, .int ((nI j) + 1)]) (pc := 82) dX5_change_82 rfl rfl (by decide) rfl rfl ?_
        refine AW.goto (pc := 85) (tgt := 55) dX5_change_85 (by decide) ?_
        exact ih (j + 1) _ _ _ _ _ _ pm3 (by omega) (nI_1 j) (by omega) (hF.trans hF3 hk2) hS3 (fun l hl2 => by by_cases q : l = j; (subst q; rw [hp4, if_pos (Nat.lt_succ_self l)]); (rw [hp3 l q, hpm2 l hl2]; by_cases q2 : l < j; rw [if_pos q2, if_pos (by omega)]; rw [if_neg q2, if_neg (by omega)])) (by omega) (by omega)
      · rw [if_neg hu]
        refine AW.if_eq (pc := 71) (tgt := 82) dX5_change_71 (by decide) (fun _ => ?_) (fun c => absurd (rfl) c)
        refine AW.iinc (v := ((nI j) + 1)) (L' := [.ref 1, .int (nI w), .int 0, .int 2, .int ((nI j) + 1)]) (pc := 82) dX5_change_82 rfl rfl (by decide) rfl rfl ?_
        refine AW.goto (pc := 85) (tgt := 55) dX5_change_85 (by decide) ?_
        exact ih (j + 1) _ _ _ _ _ _ pm2 (by omega) (nI_1 j) hk2 hF hS2 (fun l hl2 => by by_cases q : l = j; (subst q; rw [hpj, if_pos (Nat.lt_succ_self l), pmf, pmf]; by_cases hg : T l 0 < 0; rw [if_pos hg, if_pos hg]; rw [if_neg hg, if_neg hg, wkb_same hT hl2 hg hu]); (rw [hpm2 l hl2]; by_cases q2 : l < j; rw [if_pos q2, if_pos (by omega)]; rw [if_neg q2, if_neg (by omega)])) (by omega) (by omega)
  refine AW.iconst (v := 0) (pc := 52) dX5_change_52 (by decide) ?_
  refine AW.istore (L' := [.ref 1, .int (nI w), .int 0, .int 2, .int (0 : Int32)]) (pc := 53) dX5_change_53 (by decide) rfl rfl ?_
  exact key n 0 _ _ _ _ _ _ pm (by omega) rfl (Nat.le_refl k) (FS.refl k h1) hS1 (fun l hl => by rw [if_neg (Nat.not_lt_zero l)]; exact hpm l hl) (by omega) (by omega)
