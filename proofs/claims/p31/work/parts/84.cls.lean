/-! the class's cells in the bench's world (ids 2 to 47), and calls of its methods -/
def layC (m : Mem) : Hp := lay 60 (fun _ => .inr (0, [])) (fun _ => 0) m
def CLS (h : Hp) (m : Mem) : Prop := ∀ i, 0 < i → i < 47 → h (1 + i) = rnc (fun r => 1 + r) (layC m i)
/-- a call of the class that comes back: its answer, and the numbers behind -/
def CE (P : Option Value → Mem → Prop) : Po := fun oc h' k' => k' = 47 ∧ ∃ (v : Option Value) (m' : Mem), oc = .inl v ∧ (∀ i, 0 < i → i < 47 → h' i = layC m' i) ∧ (∀ w, v = some w → aw_ok 0 w) ∧ P v m'
theorem rnc_congr {k : Nat} {f g : Nat → Nat} {c : Ce} (h : aw_okc k c) (e : ∀ i, i < k → f i = g i) : rnc f c = rnc g c := by
  rcases c with c | c
  · show Sum.inl (c.1, aw_ca f c.2) = Sum.inl (c.1, aw_ca g c.2)
    rw [aw_ca_congr h e]
  · show Sum.inr _ = Sum.inr _
    rw [List.map_congr_left fun v hv => aw_cv_congr (h v hv) e]
theorem aw_ok0 {f : Nat → Nat} {v : Value} (h : aw_ok 0 v) : aw_cv f v = v := by
  cases v <;> first | rfl | exact absurd h (Nat.not_lt_zero _)
theorem aw_ok0_le {k : Nat} {v : Value} (h : aw_ok 0 v) : aw_ok k v := aw_ok_le h (Nat.zero_le k)
theorem lay_ok (m : Mem) : ∀ i, 0 < i → i < 47 → aw_okc 47 (layC m i)
  | 0, h, _ => absurd h (Nat.lt_irrefl 0)
  | 1, _, _ => by
    show ∀ v ∈ (_ : List Value), aw_ok 47 v
    simp [aw_ok]
  | 2, _, _ => by
    show ∀ v ∈ (_ : List Value), aw_ok 47 v
    simp [aw_ok]
  | 3, _, _ => trivial
  | 4, _, _ => trivial
  | 5, _, _ => trivial
  | 6, _, _ => trivial
  | 7, _, _ => trivial
  | 8, _, _ => trivial
  | 9, _, _ => trivial
  | 10, _, _ => trivial
  | 11, _, _ => trivial
  | 12, _, _ => trivial
  | 13, _, _ => trivial
  | 14, _, _ => by
    show ∀ v ∈ (_ : List Value), aw_ok 47 v
    simp [aw_ok]
  | 15, _, _ => trivial
  | 16, _, _ => trivial
  | 17, _, _ => trivial
  | 18, _, _ => trivial
  | 19, _, _ => by
    show ∀ v ∈ (_ : List Value), aw_ok 47 v
    simp [aw_ok]
  | 20, _, _ => trivial
  | 21, _, _ => by
    show ∀ v ∈ (_ : List Value), aw_ok 47 v
    simp [aw_ok]
  | 22, _, _ => trivial
  | 23, _, _ => by
    show ∀ v ∈ (_ : List Value), aw_ok 47 v
    simp [aw_ok]
  | 24, _, _ => trivial
  | 25, _, _ => trivial
  | 26, _, _ => trivial
  | 27, _, _ => trivial
  | 28, _, _ => trivial
  | 29, _, _ => trivial
  | 30, _, _ => trivial
  | 31, _, _ => trivial
  | 32, _, _ => trivial
  | 33, _, _ => trivial
  | 34, _, _ => trivial
  | 35, _, _ => by
    show ∀ v ∈ (_ : List Value), aw_ok 47 v
    simp [aw_ok]
  | 36, _, _ => trivial
  | 37, _, _ => trivial
  | 38, _, _ => trivial
  | 39, _, _ => trivial
  | 40, _, _ => trivial
  | 41, _, _ => trivial
  | 42, _, _ => trivial
  | 43, _, _ => trivial
  | 44, _, _ => trivial
  | 45, _, _ => trivial
  | 46, _, _ => trivial
  | i + 47, _, h => absurd h (by omega)
theorem CLS.obj {h : Hp} {m : Mem} (hc : CLS h m) : ∃ fs, h 2 = .inr (4, fs) := ⟨_, hc 1 (by decide) (by decide)⟩
theorem CLS.same {h h' : Hp} {m : Mem} (hc : CLS h m) (hh : ∀ i, 2 ≤ i → i < 48 → h' i = h i) : CLS h' m := fun i i0 ik => (hh (1 + i) (by omega) (by omega)).trans (hc i i0 ik)
theorem CLS.mem {h : Hp} {m m' : Mem} (hc : CLS h m) (hm : ∀ i, 0 < i → i < 47 → m' i = m i) : CLS h m' := fun i i0 ik => by
  rw [hc i i0 ik]
  have e : layC m i = layC m' i := by
    unfold layC lay
    rw [if_neg (by omega), if_neg (by omega), hm i i0 ik]
  rw [e]
set_option maxHeartbeats 4000000 in
theorem AW.callC {Z : Gz} {μ μ' : Mt} {d k0 mc ms : Nat} {Q : Po} {pc : Nat} {L S as S' : List Value} {h : Hp} {k cs ss d' mc' ms' index n : Nat} {m : Mem} {P : Option Value → Mem → Prop} (hd : decode μ.2.1 pc = .ok (.invokevirtual index, 3)) (hM : AM μ' d' (.ref 1 :: as) (layC m) 47 mc' ms' (CE P)) (hcls : CLS h m) (hk : 48 ≤ k) (hnr : ∀ v ∈ as, aw_ok 0 v)
    (hm : aw_mok μ' n) (hin : Cond.instanceMethod μ'.1 ∈ lw_tbl) (hsel : Cond.selects μ'.1.cls μ'.1 μ'.1 ∈ lw_tbl) (hlink : Cond.methodLink μ.1.cls index μ'.1 ∈ lw_tbl) (hq : RX4 = μ'.1.cls) (hn : as.length = n) (hd' : d' + 1 ≤ d) (hS2 : S = as.reverse ++ .ref 2 :: S') (hcat : (S'.map fun v => v.category).sum ≤ 8) (hcs : cs + mc' ≤ mc) (hss : ss + ms' ≤ ms)
    (K : ∀ (v : Option Value) (m' : Mem) (h' : Hp), P v m' → CLS h' m' → (∀ i, 0 < i → i < k → (i ≤ 1 ∨ 48 ≤ i) → h' i = h i) → AW Z μ d k0 mc ms Q (pc + 3) L (v.toList ++ S') h' k (cs + mc') (ss + ms')) : AW Z μ d k0 mc ms Q pc L S h k cs ss := by
  obtain ⟨fs, hfs⟩ := hcls.obj
  have has : (Value.ref 1 :: as).map (aw_cv (emb 1 47 k)) = .ref 2 :: as := by
    show Value.ref (emb 1 47 k 1) :: as.map (aw_cv (emb 1 47 k)) = .ref 2 :: as
    rw [emb_lo (by omega), show as.map (aw_cv (emb 1 47 k)) = as.map id from List.map_congr_left fun v hv => aw_ok0 (hnr v hv), List.map_id]
  have hF := AM.frame (H := h) (K := k) (b := 1) hM (by decide) (by omega) (fun i i0 ik => by rw [hcls i i0 ik]; exact rnc_congr (lay_ok m i i0 ik) fun j hj => (emb_lo hj).symm) (lay_ok m) (fun v hv => by
    rcases List.mem_cons.mp hv with rfl | hv
    · show 1 < 47; decide
    · exact aw_ok0_le (hnr v hv)) has
  refine AW.callV (q := (RX4, TX4, 7)) hd hF hm hin hsel hlink (by decide) hfs rfl hq hn hd' hS2 hcat hcs hss (fun v h' k' hq2 => ?_) (fun E h' k' hq2 => ?_)
  · obtain ⟨oc, h2, k2, ⟨rfl, v2, m', rfl, hl, hv2, hP⟩, -, hk', hoc, g1, g2⟩ := hq2
    have hk' : k' = k := by omega
    subst hk'
    have hv : v = v2 := by
      have h9 : v = v2.map (aw_cv (emb 1 47 k')) := Sum.inl.inj hoc
      rw [h9]
      cases v2 with
      | none => rfl
      | some w => exact congrArg some (aw_ok0 (hv2 w rfl))
    subst hv
    refine K v m' h' hP (fun i i0 ik => ?_) (fun j j0 jk hj => g2 j j0 jk (by omega))
    have := g1 i i0 ik
    rw [emb_lo ik] at this
    rw [this, hl i i0 ik]
    exact rnc_congr (lay_ok m' i i0 ik) fun j hj => emb_lo hj
  · obtain ⟨oc, h2, k2, ⟨rfl, v2, m', rfl, -⟩, -, -, hoc, -⟩ := hq2
    cases hoc
