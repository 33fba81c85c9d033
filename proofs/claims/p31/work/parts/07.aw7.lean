/-! AW: a contract in a larger world, a world renamed, the script at id 0 -/
def rnc (f : Nat → Nat) (c : Ce) : Ce := match c with
  | .inl x => .inl (x.1, aw_ca f x.2)
  | .inr o => .inr (o.1, o.2.map (aw_cv f))
def rno (f : Nat → Nat) (o : Out) : Out := match o with
  | .inl v => .inl (v.map (aw_cv f))
  | .inr E => .inr E
theorem rn_cv (ad f : Nat → Nat) (v : Value) : aw_cv ad (aw_cv f v) = aw_cv (fun i => ad (f i)) v := by cases v <;> rfl
theorem rn_ca (ad f : Nat → Nat) (a : vp_A) : aw_ca ad (aw_ca f a) = aw_ca (fun i => ad (f i)) a := by
  obtain ⟨n, a⟩ := a
  rcases a with g | g | g | g | g
  · rfl
  · rfl
  · rfl
  · rfl
  · show ((n, .inr (.inr (.inr (.inr fun j => ((g j).map f).map ad)))) : vp_A) = (n, .inr (.inr (.inr (.inr fun j => (g j).map fun i => ad (f i)))))
    have : (fun j => ((g j).map f).map ad) = fun j => (g j).map fun i => ad (f i) := by
      funext j
      cases g j <;> rfl
    rw [this]
theorem rn_ce (cT : FieldType → ClassId) (ad f : Nat → Nat) (c : Ce) : aw_ce cT ad (rnc f c) = aw_ce cT (fun i => ad (f i)) c := by
  rcases c with c | c
  · show Sum.inl (cT c.1, aw_ca ad (aw_ca f c.2)) = Sum.inl (cT c.1, _)
    rw [rn_ca]
  · show Sum.inr (c.1, (c.2.map (aw_cv f)).map (aw_cv ad)) = Sum.inr (c.1, c.2.map _)
    rw [List.map_map]
    congr 2
    exact List.map_congr_left fun v _ => rn_cv ad f v
theorem rn_okv {f : Nat → Nat} {k k' : Nat} {v : Value} (h : aw_ok k v) (hf : ∀ i, i < k → f i < k') : aw_ok k' (aw_cv f v) := by
  cases v <;> first | trivial | exact hf _ h
theorem rn_okc {f : Nat → Nat} {k k' : Nat} {c : Ce} (h : aw_okc k c) (hf : ∀ i, i < k → f i < k') : aw_okc k' (rnc f c) := by
  rcases c with ⟨ty, n, a⟩ | c
  · rcases a with g | g | g | g | g
    · trivial
    · trivial
    · trivial
    · trivial
    · show ∀ j i, (g j).map f = some i → i < k'
      intro j i e
      cases hg : g j with
      | none => rw [hg] at e; cases e
      | some q => rw [hg] at e; cases e; exact hf _ (h j q hg)
  · intro v hv
    obtain ⟨w, hw, rfl⟩ := List.mem_map.mp hv
    exact rn_okv (h w hw) hf
/-- where the ids of a small world lie in a larger one: those that are there behind b, those that are made behind all -/
def emb (b k K : Nat) (i : Nat) : Nat := if i < k then b + i else K + (i - k)
theorem emb_lo {b k K i : Nat} (h : i < k) : emb b k K i = b + i := by simp [emb, h]
theorem emb_hi {b k K i : Nat} (h : k ≤ i) : emb b k K i = K + (i - k) := by simp [emb, Nat.not_lt.mpr h]
theorem aw_at_ws {cT : FieldType → ClassId} {ad : Nat → Nat} {h : Hp} {k i : Nat} {q : Nat × va_E} (h0 : 0 < i) (hi : i < k) (hq : q = (ad i, aw_ce cT ad (h i))) : (aw_ws cT ad h k)[i - 1]? = some q := by rw [hq]; exact aw_ws_at cT ad h h0 hi
set_option maxHeartbeats 4000000 in
theorem frame_pre {D : va_G} {cT : FieldType → ClassId} {ad : Nat → Nat} {h H : Hp} {k K b sz : Nat} {U : State} (hk : 0 < k) (hK : b + k ≤ K) (hH : ∀ i, 0 < i → i < k → H (b + i) = rnc (emb b k K) (h i)) (hok : ∀ i, 0 < i → i < k → aw_okc k (h i))
    (hw : aw_Wo D cT (va_A (aw_ws cT ad H K) sz) ad H K U.heap U) : (∀ q, va_A (aw_ws cT (fun i => ad (b + i)) h k) sz q → va_A (aw_ws cT ad H K) sz q) ∧ aw_Wo D cT (va_A (aw_ws cT (fun i => ad (b + i)) h k) sz) (fun i => ad (b + i)) h k U.heap U := by
  have hin : ∀ i, 0 < i → i < k → (aw_ws cT ad H K)[b + i - 1]? = some (ad (b + i), aw_ce cT (fun i => ad (b + i)) (h i)) := fun i i0 ik => by
    refine aw_at_ws (by omega) (by omega) ?_
    rw [hH i i0 ik, rn_ce, aw_ce_congr (hok i i0 ik) (ad := fun i => ad (b + i)) (ad' := fun i => ad (emb b k K i))]
    intro j hj
    show ad (emb b k K j) = ad (b + j)
    rw [emb_lo hj]
  have hsub : ∀ q, va_A (aw_ws cT (fun i => ad (b + i)) h k) sz q → va_A (aw_ws cT ad H K) sz q := fun q hq => by
    rcases hq with ⟨j, e, hj⟩ | hq
    · obtain ⟨h1, h2⟩ := aw_ws_out hj
      cases h2
      exact Or.inl ⟨_, _, hin (j + 1) (Nat.succ_pos j) h1⟩
    · exact Or.inr hq
  refine ⟨hsub, fun j q hq => ?_, ⟨fun i j p q hp hq e => ?_, fun j q hq => Or.inl ⟨j, q.2, hq⟩⟩, hw.2.2.1, hk, hok⟩
  · obtain ⟨h1, h2⟩ := aw_ws_out hq
    rw [h2]
    exact hw.1 _ _ (hin (j + 1) (Nat.succ_pos j) h1)
  · obtain ⟨h1, h2⟩ := aw_ws_out hp
    obtain ⟨h3, h4⟩ := aw_ws_out hq
    rw [h2, h4] at e
    have := hw.2.1.1 _ _ _ _ (hin (i + 1) (Nat.succ_pos i) h1) (hin (j + 1) (Nat.succ_pos j) h3) e
    omega
/-- the larger world behind -/
def fr_ad (ad ad' : Nat → Nat) (k K : Nat) (j : Nat) : Nat := if j < K then ad j else ad' (k + (j - K))
def fr_h (H h' : Hp) (b k K : Nat) (j : Nat) : Ce := if j < K then (if b < j ∧ j < b + k then rnc (emb b k K) (h' (j - b)) else H j) else rnc (emb b k K) (h' (k + (j - K)))
set_option maxHeartbeats 4000000 in
theorem frame_post {D : va_G} {cT : FieldType → ClassId} {ad ad' : Nat → Nat} {h h' H : Hp} {k k' K b : Nat} {U t : State} (hk : 0 < k) (hK : b + k ≤ K) (hk' : k ≤ k')
    (hw : aw_Wo D cT (va_A (aw_ws cT ad H K) U.heap.size) ad H K U.heap U) (hH : ∀ i, 0 < i → i < k → H (b + i) = rnc (emb b k K) (h i)) (hok : ∀ i, 0 < i → i < k → aw_okc k (h i)) (he : ∀ i, i < k → ad' i = ad (b + i))
    (hw' : aw_Wo D cT (va_A (aw_ws cT (fun i => ad (b + i)) h k) U.heap.size) ad' h' k' t.heap t) (hF : va_F (va_A (aw_ws cT (fun i => ad (b + i)) h k) U.heap.size) U t) :
    (∀ i, i < k' → fr_ad ad ad' k K (emb b k K i) = ad' i) ∧ (∀ i, 0 < i → i < k' → fr_h H h' b k K (emb b k K i) = rnc (emb b k K) (h' i)) ∧ (∀ j, 0 < j → j < K → (j ≤ b ∨ b + k ≤ j) → fr_h H h' b k K j = H j) ∧ (∀ i, i < K → fr_ad ad ad' k K i = ad i) ∧
    aw_Wo D cT (va_A (aw_ws cT ad H K) U.heap.size) (fr_ad ad ad' k K) (fr_h H h' b k K) (K + (k' - k)) t.heap t := by
  obtain ⟨hsub, -⟩ := frame_pre (U := U) (sz := U.heap.size) hk hK hH hok hw
  have a1 : ∀ i, i < k' → fr_ad ad ad' k K (emb b k K i) = ad' i := fun i hi => by
    by_cases q : i < k
    · rw [emb_lo q, fr_ad, if_pos (by omega), he i q]
    · rw [emb_hi (by omega), fr_ad, if_neg (by omega)]
      congr 1
      omega
  have a2 : ∀ i, 0 < i → i < k' → fr_h H h' b k K (emb b k K i) = rnc (emb b k K) (h' i) := fun i i0 hi => by
    by_cases q : i < k
    · rw [emb_lo q, fr_h, if_pos (by omega), if_pos (by omega), Nat.add_sub_cancel_left]
    · rw [emb_hi (by omega), fr_h, if_neg (by omega), show k + (K + (i - k) - K) = i by omega]
  have a3 : ∀ j, 0 < j → j < K → (j ≤ b ∨ b + k ≤ j) → fr_h H h' b k K j = H j := fun j j0 jK hj => by
    rw [fr_h, if_pos jK, if_neg (by omega)]
  have a4 : ∀ i, i < K → fr_ad ad ad' k K i = ad i := fun i hi => by rw [fr_ad, if_pos hi]
  refine ⟨a1, a2, a3, a4, ?_⟩
  have cls : ∀ id, 0 < id → id < K + (k' - k) → (∃ i, 0 < i ∧ i < k' ∧ emb b k K i = id) ∨ (id < K ∧ (id ≤ b ∨ b + k ≤ id)) := fun id i0 hid => by
    by_cases q : id < K
    · by_cases q2 : b < id ∧ id < b + k
      · exact Or.inl ⟨id - b, by omega, by omega, by rw [emb_lo (by omega)]; omega⟩
      · exact Or.inr ⟨q, by omega⟩
    · exact Or.inl ⟨k + (id - K), by omega, by omega, by rw [emb_hi (by omega)]; omega⟩
  have inn : ∀ i, 0 < i → i < k' → (fr_ad ad ad' k K (emb b k K i), aw_ce cT (fr_ad ad ad' k K) (fr_h H h' b k K (emb b k K i))) = (ad' i, aw_ce cT ad' (h' i)) := fun i i0 hi => by
    rw [a1 i hi, a2 i i0 hi, rn_ce, aw_ce_congr (hw'.2.2.2.2 i i0 hi) (ad := ad') (ad' := fun i => fr_ad ad ad' k K (emb b k K i)) a1]
  have out : ∀ id, 0 < id → id < K → (id ≤ b ∨ b + k ≤ id) → (fr_ad ad ad' k K id, aw_ce cT (fr_ad ad ad' k K) (fr_h H h' b k K id)) = (ad id, aw_ce cT ad (H id)) := fun id i0 hid ho => by
    rw [a4 id hid, a3 id i0 hid ho, aw_ce_congr (hw.2.2.2.2 id i0 hid) a4]
  have outA : ∀ id, 0 < id → id < K → (id ≤ b ∨ b + k ≤ id) → ¬ va_A (aw_ws cT (fun i => ad (b + i)) h k) U.heap.size (ad id) ∧ ad id < U.heap.size := fun id i0 hid ho => by
    have hl : ad id < U.heap.size := (hw.1 (id - 1) _ (aw_ws_at cT ad H i0 hid)).lt
    refine ⟨fun hq => ?_, hl⟩
    rcases hq with ⟨j, e, hj⟩ | hq
    · obtain ⟨h1, h2⟩ := aw_ws_out hj
      have e2 : ad id = ad (b + (j + 1)) := congrArg Prod.fst h2
      have := hw.2.1.1 _ _ _ _ (aw_ws_at cT ad H i0 hid) (aw_ws_at cT ad H (i := b + (j + 1)) (by omega) (by omega)) e2
      omega
    · omega
  refine ⟨fun j q hq => ?_, ⟨fun i j p q hp hq e => ?_, fun j q hq => ?_⟩, hw'.2.2.1, by omega, fun id i0 hid => ?_⟩
  · obtain ⟨h1, h2⟩ := aw_ws_out hq
    rw [h2]
    rcases cls (j + 1) (Nat.succ_pos j) h1 with ⟨i, i0, ik, hi⟩ | ⟨hid, ho⟩
    · rw [← hi, inn i i0 ik]
      exact hw'.1 (i - 1) _ (aw_ws_at cT ad' h' i0 ik)
    · rw [out _ (Nat.succ_pos j) hid ho]
      obtain ⟨o1, o2⟩ := outA _ (Nat.succ_pos j) hid ho
      exact (hw.1 j _ (aw_ws_at cT ad H (i := j + 1) (Nat.succ_pos j) hid)).kept (hF.2 _ o2 o1)
  · obtain ⟨h1, h2⟩ := aw_ws_out hp
    obtain ⟨h3, h4⟩ := aw_ws_out hq
    rw [h2, h4] at e
    have e : fr_ad ad ad' k K (i + 1) = fr_ad ad ad' k K (j + 1) := e
    rcases cls (i + 1) (Nat.succ_pos i) h1 with ⟨x, x0, xk, hx⟩ | ⟨hx, ho⟩ <;> rcases cls (j + 1) (Nat.succ_pos j) h3 with ⟨y, y0, yk, hy⟩ | ⟨hy, ho2⟩
    · rw [← hx, ← hy, a1 x xk, a1 y yk] at e
      have := hw'.2.1.1 _ _ _ _ (aw_ws_at cT ad' h' x0 xk) (aw_ws_at cT ad' h' y0 yk) e
      have : x = y := by omega
      subst this
      omega
    · rw [← hx, a1 x xk, a4 _ hy] at e
      have hm := hw'.2.1.2 _ _ (aw_ws_at cT ad' h' x0 xk)
      have hm : va_A (aw_ws cT (fun i => ad (b + i)) h k) U.heap.size (ad' x) := hm
      rw [e] at hm
      exact absurd hm (outA _ (Nat.succ_pos j) hy ho2).1
    · rw [← hy, a1 y yk, a4 _ hx] at e
      have hm := hw'.2.1.2 _ _ (aw_ws_at cT ad' h' y0 yk)
      have hm : va_A (aw_ws cT (fun i => ad (b + i)) h k) U.heap.size (ad' y) := hm
      rw [← e] at hm
      exact absurd hm (outA _ (Nat.succ_pos i) hx ho).1
    · rw [a4 _ hx, a4 _ hy] at e
      have := hw.2.1.1 _ _ _ _ (aw_ws_at cT ad H (i := i + 1) (Nat.succ_pos i) hx) (aw_ws_at cT ad H (i := j + 1) (Nat.succ_pos j) hy) e
      omega
  · obtain ⟨h1, h2⟩ := aw_ws_out hq
    rw [h2]
    rcases cls (j + 1) (Nat.succ_pos j) h1 with ⟨i, i0, ik, hi⟩ | ⟨hid, ho⟩
    · show va_A _ _ (fr_ad ad ad' k K (j + 1))
      rw [← hi, a1 i ik]
      exact hsub _ (hw'.2.1.2 _ _ (aw_ws_at cT ad' h' i0 ik))
    · show va_A _ _ (fr_ad ad ad' k K (j + 1))
      rw [a4 _ hid]
      exact Or.inl ⟨_, _, aw_ws_at cT ad H (i := j + 1) (Nat.succ_pos j) hid⟩
  · rcases cls id i0 hid with ⟨i, q0, qk, hi⟩ | ⟨hid, ho⟩
    · rw [← hi, a2 i q0 qk]
      refine rn_okc (hw'.2.2.2.2 i q0 qk) fun r hr => ?_
      by_cases q : r < k
      · rw [emb_lo q]; omega
      · rw [emb_hi (by omega)]; omega
    · rw [a3 id i0 hid ho]
      exact aw_okc_le (hw.2.2.2.2 id i0 hid) (by omega)
/-- what a contract of a small world says of the larger one -/
def FQ (b k K : Nat) (H : Hp) (Q : Po) : Po := fun oc' H' K' => ∃ (oc : Out) (h' : Hp) (k' : Nat), Q oc h' k' ∧ k ≤ k' ∧ K' = K + (k' - k) ∧ oc' = rno (emb b k K) oc ∧ (∀ i, 0 < i → i < k' → H' (emb b k K i) = rnc (emb b k K) (h' i)) ∧ (∀ j, 0 < j → j < K → (j ≤ b ∨ b + k ≤ j) → H' j = H j)
set_option maxHeartbeats 4000000 in
theorem AM.frame {μ : Mt} {d : Nat} {as as' : List Value} {h H : Hp} {k K b mc ms : Nat} {Q : Po} (hM : AM μ d as h k mc ms Q) (hk : 0 < k) (hK : b + k ≤ K) (hH : ∀ i, 0 < i → i < k → H (b + i) = rnc (emb b k K) (h i)) (hok : ∀ i, 0 < i → i < k → aw_okc k (h i)) (hoa : ∀ v ∈ as, aw_ok k v) (has : as.map (aw_cv (emb b k K)) = as') :
    AM μ d as' H K mc ms (FQ b k K H Q) := by
  subst has
  intro l D cT ad sz hl
  intro p e ha hc hkk s m args below hf happ hP hK2
  obtain ⟨hP0, hP1, hP2, hP3, hP4⟩ := hP
  subst hP1
  obtain ⟨hsub, hw⟩ := frame_pre (U := s) (sz := s.heap.size) hk hK hH hok hP3
  have eargs : (as.map (aw_cv (emb b k K))).map (aw_cv ad) = as.map (aw_cv fun i => ad (b + i)) := by
    rw [List.map_map]
    refine List.map_congr_left fun v hv => ?_
    show aw_cv ad (aw_cv (emb b k K) v) = _
    rw [rn_cv]
    exact aw_cv_congr (hoa v hv) fun i hi => by show ad (emb b k K i) = ad (b + i); rw [emb_lo hi]
  obtain ⟨n, o, g1, g2, g3, g4⟩ := hM l D cT (fun i => ad (b + i)) s.heap.size hl p e ha hc hkk s m args below hf happ ⟨by rw [hP0, eargs], rfl, hoa, hw, hP4.moved (State.WarmedH.refl s) (fun _ _ _ => rfl) hsub⟩ hK2
  refine ⟨n, o, g1, g2, g3, ?_⟩
  rcases g4 with ⟨⟨⟨v, h', k', ad', rfl, hq, c1, c2, c3, c4⟩, hF⟩, L, f1, f2⟩ | ⟨q, rfl, E, ce, L, ⟨⟨h', k', ad', hq, c1, c2, c4⟩, hF⟩, t1, t2, t3, t4, t5, t6⟩
  · obtain ⟨b1, b2, b3, b4, b5⟩ := frame_post hk hK c2 hP3 hH hok c1 c4 hF
    refine Or.inl ⟨⟨⟨v.map (aw_cv (emb b k K)), fr_h H h' b k K, K + (k' - k), fr_ad ad ad' k K, ?_, ⟨.inl v, h', k', hq, c2, rfl, rfl, b2, b3⟩, b4, by omega, fun w hw9 => ?_, b5⟩, hF.1, fun q h1 h2 => hF.2 q h1 (fun z => h2 (hsub q z))⟩, L, f1, fun q hq => hsub _ (f2 q hq)⟩
    · congr 1
      cases v with
      | none => rfl
      | some v =>
        show some (aw_cv ad' v) = some (aw_cv (fr_ad ad ad' k K) (aw_cv (emb b k K) v))
        rw [rn_cv]
        congr 1
        exact (aw_cv_congr (c3 v rfl) b1).symm
    · cases v with
      | none => cases hw9
      | some v =>
        cases hw9
        refine rn_okv (c3 v rfl) fun r hr => ?_
        by_cases q : r < k
        · rw [emb_lo q]; omega
        · rw [emb_hi (by omega)]; omega
  · obtain ⟨b1, b2, b3, b4, b5⟩ := frame_post hk hK c2 hP3 hH hok c1 c4 hF
    exact Or.inr ⟨q, rfl, E, ce, L, ⟨⟨fr_h H h' b k K, K + (k' - k), fr_ad ad ad' k K, ⟨.inr E, h', k', hq, c2, rfl, rfl, b2, b3⟩, b4, by omega, b5⟩, hF.1, fun q h1 h2 => hF.2 q h1 (fun z => h2 (hsub q z))⟩, t1, t2, t3, t4, t5, fun z hz => hsub _ (t6 z hz)⟩
/-- a weaker end -/
theorem AM.weaken {μ : Mt} {d : Nat} {as : List Value} {h : Hp} {k mc ms : Nat} {Q Q' : Po} (hM : AM μ d as h k mc ms Q) (hQ : ∀ o h' k', Q o h' k' → Q' o h' k') : AM μ d as h k mc ms Q' := by
  intro l D cT ad sz hl p e ha hc hkk s m args below hf happ hP hK2
  obtain ⟨n, o, g1, g2, g3, g4⟩ := hM l D cT ad sz hl p e ha hc hkk s m args below hf happ hP hK2
  refine ⟨n, o, g1, g2, g3, ?_⟩
  rcases g4 with ⟨⟨⟨v, h', k', ad', rfl, hq, c⟩, hF⟩, r⟩ | ⟨q, rfl, E, ce, L, ⟨⟨h', k', ad', hq, c⟩, hF⟩, r⟩
  · exact Or.inl ⟨⟨⟨v, h', k', ad', rfl, hQ _ _ _ hq, c⟩, hF⟩, r⟩
  · exact Or.inr ⟨q, rfl, E, ce, L, ⟨⟨h', k', ad', hQ _ _ _ hq, c⟩, hF⟩, r⟩
section Ren
variable {Z : Gz} {μ : Mt} {d k0 mc ms : Nat} {Q : Po} {pc : Nat} {L S L' S' : List Value} {h h' : Hp} {k k' cs ss : Nat}
theorem aw_ws_congr {cT : FieldType → ClassId} {ad : Nat → Nat} {h h' : Hp} {k : Nat} (hj : ∀ i, 0 < i → i < k → h i = h' i) : aw_ws cT ad h k = aw_ws cT ad h' k := by
  unfold aw_ws
  refine List.map_congr_left fun i hi => ?_
  rw [hj (i + 1) (Nat.succ_pos i) (by have := List.mem_range.mp hi; omega)]
/-- what lies at no id of the world may be taken to be anything -/
theorem AW.junk (hj : ∀ i, 0 < i → i < k → h i = h' i) (K : AW Z μ d k0 mc ms Q pc L S h' k cs ss) : AW Z μ d k0 mc ms Q pc L S h k cs ss := by
  intro l D cT p e s m args below meth c ad0 ad A H locs ls hC ha hk hS hw hl hs
  refine K l D cT p e s m args below meth c ad0 ad A H locs ls hC ha hk hS ?_ hl hs
  obtain ⟨h1, h2, h3, h4, h5⟩ := hw
  rw [aw_ws_congr hj] at h1 h2
  exact ⟨h1, h2, h3, h4, fun i h0 hi => hj i h0 hi ▸ h5 i h0 hi⟩
theorem AM.junk {as : List Value} (hj : ∀ i, 0 < i → i < k → h i = h' i) (hM : AM μ d as h' k mc ms Q) : AM μ d as h k mc ms Q := by
  intro l D cT ad sz hl
  have := hM l D cT ad sz hl
  rw [← aw_ws_congr (cT := cT) (ad := ad) hj] at this
  intro p e ha hc hkk s m args below hf happ hP hK2
  refine this p e ha hc hkk s m args below hf happ ⟨hP.1, hP.2.1, hP.2.2.1, ?_, hP.2.2.2.2⟩ hK2
  obtain ⟨h1, h2, h3, h4, h5⟩ := hP.2.2.2.1
  have e2 := aw_ws_congr (cT := cT) (ad := ad) hj
  exact ⟨by rw [← e2]; exact h1, by rw [← e2]; exact h2, h3, h4, fun i h0 hi => hj i h0 hi ▸ h5 i h0 hi⟩
/-- all ids from k0 on are forgotten -/
theorem AW.forget (hk0 : 0 < k0) (hkk : k0 ≤ k) (hS : S = []) (hL : ∀ (i : Nat) (v : Value), L'[i]? = some v → v ≠ .null → L[i]? = some v ∧ aw_ok k0 v) (hokc : ∀ i, 0 < i → i < k0 → aw_okc k0 (h i)) (K : AW Z μ d k0 mc ms Q pc L' [] h k0 cs ss) : AW Z μ d k0 mc ms Q pc L S h k cs ss := by
  subst hS
  intro l D cT p e s m args below meth c ad0 ad A H locs ls hC ha hk hS2 hw hl hs
  have hin : ∀ j q, (aw_ws cT ad h k0)[j]? = some q → (aw_ws cT ad h k)[j]? = some q := fun j q hq => by
    obtain ⟨h1, h2⟩ := aw_ws_out hq
    rw [h2]
    exact aw_ws_at cT ad h (i := j + 1) (Nat.succ_pos j) (by omega)
  refine K l D cT p e s m args below meth c ad0 ad A H locs ls hC ha (Nat.le_refl _) hS2 ⟨fun j q hq => hw.1 j q (hin j q hq), ⟨fun i j p q hp hq e => hw.2.1.1 i j p q (hin i p hp) (hin j q hq) e, fun j q hq => hw.2.1.2 j q (hin j q hq)⟩, hw.2.2.1, hk0, hokc⟩ ⟨hl.1, hl.2.1, fun i v h1 h2 => ⟨(hl.2.2 i v (hL i v h1 h2).1 h2).1, (hL i v h1 h2).2⟩⟩ (fun v hv => nomatch hv)
end Ren
/-! the script, at id 0 -/
def aw_ZL (L : Nat) (xs : Nat → Int32) : Gz := fun s A ad0 => va_X (ad0 0) L xs s s.heap ∧ ad0 0 < s.heap.size ∧ ¬ A (ad0 0)
/-- a contract of a method that reads the script -/
def AMz (n : Nat) (xs : Nat → Int32) (μ : Mt) (d : Nat) (as : List Value) (h : Hp) (k mc ms : Nat) (Q : Po) : Prop :=
  ∀ (l : Launch) (D : va_G) (cT : FieldType → ClassId) (ad : Nat → Nat) (sz : Nat), l.stackTraces = false →
    vx_Met l μ.1 [aw_cw μ] (aw_R d mc ms) (va_Pc (as.map (aw_cv ad)) (fun U => (U.heap.size = sz ∧ (∀ v ∈ as, aw_ok k v) ∧ aw_Wo D cT (va_A (aw_ws cT ad h k) sz) ad h k U.heap U ∧ aw_GF (va_A (aw_ws cT ad h k) sz) U) ∧ aw_ZL n xs U (va_A (aw_ws cT ad h k) sz) ad))
      (aw_Qc D cT (va_A (aw_ws cT ad h k) sz) ad k Q) (aw_Xc D cT (va_A (aw_ws cT ad h k) sz) ad k Q) mc ms (va_A (aw_ws cT ad h k) sz)
set_option maxHeartbeats 4000000 in
theorem AMz.intro {N : Nat} {xs : Nat → Int32} {μ : Mt} {d n : Nat} {as L : List Value} {h : Hp} {k mc ms : Nat} {Q : Po} (hy : plainName μ.1.cls = true) (hh : μ.2.2.2.2 = []) (hn : (aw_loc as).length + n = μ.2.2.1) (hL : aw_loc as ++ List.replicate n .null = L)
    (K : AW (aw_ZL N xs) μ d k mc ms Q 0 L [] h k 0 0) : AMz N xs μ d as h k mc ms Q := by
  intro l D cT ad sz hl
  have hcw : aw_cw μ = .code μ.1 μ.2.1 μ.2.2.1 μ.2.2.2.1 := by unfold aw_cw; rw [hh]
  refine vx_ofW (cc := μ.2.1) (maxL := μ.2.2.1) (ret := μ.2.2.2.1) (ws' := []) hy (by rw [hcw]) ?_
  intro p e s m args below meth c s₁ B hml ht hv
  obtain ⟨rfl, ⟨hsz, hok, hw, hg⟩, hz⟩ := hv
  subst hsz
  have hnm := (name_of_methodNamed B.named B.method).1
  rw [lg_entry_eq]
  refine K l D cT p e s m _ below meth c ad ad _ s.heap [] _ ⟨hl, B.exec, B.bytes, hml, B.returns, B.notSynchronized, hnm, findClass_of_methodNamed B.named, ?_, hg, fun q hq => Or.inr hq, hz⟩ (fun _ _ => rfl) (Nat.le_refl _) va_S.rf hw (aw_entry hn hL hok) (fun v hv => nomatch hv)
  rw [hh]
  cases he : c.exceptionTable.toList with
  | nil => rfl
  | cons x y => exact absurd (ht x (by rw [he]; exact List.mem_cons_self)) id
theorem aw_blindz {N : Nat} {xs : Nat → Int32} {D : va_G} {cT : FieldType → ClassId} {ad : Nat → Nat} {as : List Value} {h : Hp} {k sz : Nat} : FrameBlind (va_Pc (as.map (aw_cv ad)) (fun U => (U.heap.size = sz ∧ (∀ v ∈ as, aw_ok k v) ∧ aw_Wo D cT (va_A (aw_ws cT ad h k) sz) ad h k U.heap U ∧ aw_GF (va_A (aw_ws cT ad h k) sz) U) ∧ aw_ZL N xs U (va_A (aw_ws cT ad h k) sz) ad)) := by
  intro a U g mk q
  obtain ⟨q0, ⟨q1, q2, q3, q4⟩, q5, q6, q7⟩ := q
  have hb := aw_blind (D := D) (cT := cT) (ad := ad) (as := as) (h := h) (k := k) (sz := sz) a U g mk ⟨q0, q1, q2, q3, q4⟩
  exact ⟨hb.1, hb.2, va_X.moved (u := U) (U := U.calling g mk a) (Vm.Alike.refl U.vm) q5, q6, q7⟩
theorem aw_prez {N : Nat} {xs : Nat → Int32} {D : va_G} {cT : FieldType → ClassId} {A : Nat → Prop} {ad ad0 : Nat → Nat} {as : List Value} {h : Hp} {k : Nat} {H : Heap} {s : State} {locs : List Loc} (hw : aw_Wo D cT A ad h k H s) (hS : va_S A s.heap H locs) (hA : ∀ q, s.heap.size ≤ q → A q) (hg : aw_GF A s) (hok : ∀ v ∈ as, aw_ok k v) (hz : aw_ZL N xs s A ad0) (h0 : ad 0 = ad0 0) :
    ∀ U : State, U.heap = H → s.WarmedH U.vm → va_Pc (as.map (aw_cv ad)) (fun U => (U.heap.size = H.size ∧ (∀ v ∈ as, aw_ok k v) ∧ aw_Wo D cT (va_A (aw_ws cT ad h k) H.size) ad h k U.heap U ∧ aw_GF (va_A (aw_ws cT ad h k) H.size) U) ∧ aw_ZL N xs U (va_A (aw_ws cT ad h k) H.size) ad) (as.map (aw_cv ad)).toArray U := by
  intro U hU hW
  have hp := aw_pre hw hS hA hg hok U hU hW
  have hF := aw_free hw hS hA
  subst hU
  refine ⟨hp.1, hp.2, ?_⟩
  unfold aw_ZL at hz ⊢
  rw [h0]
  exact ⟨(hz.1.kept (hS.2.1 _ hz.2.1 hz.2.2)).moved hW.alike, Nat.lt_of_lt_of_le hz.2.1 hS.1, fun q => hz.2.2 (hF _ q)⟩
section Scr
variable {N : Nat} {xs : Nat → Int32} {μ : Mt} {d k0 mc ms : Nat} {Q : Po} {pc : Nat} {L S : List Value} {h : Hp} {k cs ss : Nat}
theorem AW.sld {i v : Int32} (hd : decode μ.2.1 pc = .ok (.iaload, 1)) (hk0 : 0 < k0) (hin : vp_in i N) (hv : xs i.toNatClampNeg = v) (K : AW (aw_ZL N xs) μ d k0 mc ms Q (pc + 1) L (.int v :: S) h k cs ss) : AW (aw_ZL N xs) μ d k0 mc ms Q pc L (.int i :: .ref 0 :: S) h k cs ss := by
  subst hv
  intro l D cT p e s m args below meth c ad0 ad A H locs ls hC ha hk hS hw hl hs
  have hZ : aw_ZL N xs s A ad0 := hC.2.2.2.2.2.2.2.2.2.2.2
  have e0 : aw_cv ad (.ref 0) = .ref (ad0 0) := by
    show Value.ref (ad 0) = _
    rw [ha 0 hk0]
  rw [List.map_cons, List.map_cons, e0]
  exact va_sld hC.2.1 hC.2.2.1 hZ.1 hZ.2.1 hZ.2.2 hS hin hd (K l D cT p e s m args below meth c ad0 ad A H locs ls hC ha hk hS hw hl (aw_ok_cons aw_okI (aw_ok_tail (aw_ok_tail hs))))
theorem AW.slen (hd : decode μ.2.1 pc = .ok (.arraylength, 1)) (hk0 : 0 < k0) (K : AW (aw_ZL N xs) μ d k0 mc ms Q (pc + 1) L (.int (Int32.ofNat N) :: S) h k cs ss) : AW (aw_ZL N xs) μ d k0 mc ms Q pc L (.ref 0 :: S) h k cs ss := by
  intro l D cT p e s m args below meth c ad0 ad A H locs ls hC ha hk hS hw hl hs
  have hZ : aw_ZL N xs s A ad0 := hC.2.2.2.2.2.2.2.2.2.2.2
  have e0 : aw_cv ad (.ref 0) = .ref (ad0 0) := by
    show Value.ref (ad 0) = _
    rw [ha 0 hk0]
  rw [List.map_cons, e0]
  exact va_slen hC.2.1 hC.2.2.1 hZ.1 hZ.2.1 hZ.2.2 hS hd (K l D cT p e s m args below meth c ad0 ad A H locs ls hC ha hk hS hw hl (aw_ok_cons aw_okI (aw_ok_tail hs)))
theorem AW.callVz {μ' : Mt} {d' mc' ms' index n i ci : Nat} {q : vw_C} {fs as S' : List Value} {R : Po} (hd : decode μ.2.1 pc = .ok (.invokevirtual index, 3)) (hM : AMz N xs μ' d' (.ref i :: as) h k mc' ms' R) (hk0 : 0 < k0) (hm : aw_mok μ' n) (hin : Cond.instanceMethod μ'.1 ∈ lw_tbl) (hsel : Cond.selects μ'.1.cls μ'.1 μ'.1 ∈ lw_tbl) (hlink : Cond.methodLink μ.1.cls index μ'.1 ∈ lw_tbl)
    (h0 : 0 < i) (hh : h i = .inr (ci, fs)) (hc : aw_cl[ci]? = some q) (hq : q.1 = μ'.1.cls) (hn : as.length = n) (hd' : d' + 1 ≤ d) (hS2 : S = as.reverse ++ .ref i :: S') (hcat : (S'.map fun v => v.category).sum ≤ 8) (hcs : cs + mc' ≤ mc) (hss : ss + ms' ≤ ms)
    (K : ∀ (v : Option Value) (h' : Hp) (k' : Nat), R (.inl v) h' k' → AW (aw_ZL N xs) μ d k0 mc ms Q (pc + 3) L (v.toList ++ S') h' k' (cs + mc') (ss + ms'))
    (KX : ∀ (E : String) (h' : Hp) (k' : Nat), R (.inr E) h' k' → AX (aw_ZL N xs) μ d k0 mc ms Q E pc L h' k' (cs + mc') (ss + ms')) : AW (aw_ZL N xs) μ d k0 mc ms Q pc L S h k cs ss := by
  intro l D cT p e s m args below meth c ad0 ad A H locs ls hC ha hk hS hw hl hs
  have hg := hC.2.2.2.2.2.2.2.2.2.1
  have hik : i < k := hs (.ref i) (by rw [hS2]; exact List.mem_append_right _ List.mem_cons_self)
  have hok : ∀ v ∈ Value.ref i :: as, aw_ok k v := fun v hv => by
    rcases List.mem_cons.mp hv with rfl | hv
    · exact hik
    · exact hs v (by rw [hS2]; exact List.mem_append_left _ (List.mem_reverse.mpr hv))
  have hok2 : ∀ v ∈ S', aw_ok k v := fun v hv => hs v (by rw [hS2]; exact List.mem_append_right _ (List.mem_cons_of_mem _ hv))
  have hr := vx_runV (e := e) (below := below) (meth := meth) (As := as.map (aw_cv ad)) (rest := S'.map (aw_cv ad)) (b := ad i) (C := μ'.1.cls) (Ts := []) (locs := locs) (cells := cs) (slots := ss) (g := F0 m pc ls (S.map (aw_cv ad))) (nL := μ.2.2.1) ⟨hC.2.1, hC.2.2.1, hC.2.2.2.1, hC.2.2.2.2.2.2.2.1, fun w h => nomatch h⟩ (hM l D cT ad H.size hC.1) ⟨aw_callB (μ := μ) (d := d) (mc := mc) (ms := ms) (d' := d') (mc' := mc') (ms' := ms') hm hg hd' (aw_hts hg hlink rfl), aw_hts (args := args) hg hin rfl, aw_hts hg hsel rfl⟩
    ⟨aw_blindz, by rw [← hq]; exact va_recv hw.2.2.1 hw.1 hc (aw_at_obj h0 hik hh), aw_prez hw hS hC.2.2.2.2.2.2.2.2.2.2.1 hg hok hC.2.2.2.2.2.2.2.2.2.2.2 (ha 0 hk0)⟩
    rfl (by rw [List.length_map]; exact hn) hl.1 (by show S.map _ = _; rw [hS2, List.map_append, List.map_reverse]; rfl) (aw_stW hcat) hd ⟨hcs, hss⟩
  exact aw_run hr hC ha hk hS hw hl hok2 K KX
theorem AW.callSNz {μ' : Mt} {d' mc' ms' index n : Nat} {host : String} {as S' : List Value} {R : Po} (hd : decode μ.2.1 pc = .ok (.invokestatic index, 3)) (hM : AMz N xs μ' d' as h k mc' ms' R) (hk0 : 0 < k0) (hm : aw_mok μ' n) (hst : Cond.static μ'.1 ∈ lw_tbl) (hlink : Cond.methodLinkNest μ.1.cls index μ'.1 host ∈ lw_tbl) (hn : as.length = n) (hd' : d' + 1 ≤ d) (hS2 : S = as.reverse ++ S') (hcat : (S'.map fun v => v.category).sum ≤ 8) (hcs : cs + mc' ≤ mc) (hss : ss + ms' ≤ ms) (hX : ∀ E h' k', ¬ R (.inr E) h' k')
    (K : ∀ (v : Option Value) (h' : Hp) (k' : Nat), R (.inl v) h' k' → AW (aw_ZL N xs) μ d k0 mc ms Q (pc + 3) L (v.toList ++ S') h' k' (cs + mc') (ss + ms')) : AW (aw_ZL N xs) μ d k0 mc ms Q pc L S h k cs ss := by
  intro l D cT p e s m args below meth c ad0 ad A H locs ls hC ha hk hS hw hl hs
  have hg := hC.2.2.2.2.2.2.2.2.2.1
  have hok : ∀ v ∈ as, aw_ok k v := fun v hv => hs v (by rw [hS2]; exact List.mem_append_left _ (List.mem_reverse.mpr hv))
  have hok2 : ∀ v ∈ S', aw_ok k v := fun v hv => hs v (by rw [hS2]; exact List.mem_append_right _ hv)
  have hMM := aw_met (hM l D cT ad H.size hC.1) (fun E st t hx => by obtain ⟨⟨h', k', ad', hx, -⟩, -⟩ := hx; exact hX _ _ _ hx)
  have hr := va_runSN (e := e) (below := below) (meth := meth) (As := as.map (aw_cv ad)) (rest := S'.map (aw_cv ad)) (Ts := []) (locs := locs) (cells := cs) (slots := ss) (g := F0 m pc ls (S.map (aw_cv ad))) (nL := μ.2.2.1) ⟨hC.2.1, hC.2.2.1, hC.2.2.2.1, hC.2.2.2.2.2.2.2.1, fun w h => nomatch h⟩ hMM ⟨aw_callN (μ := μ) (d := d) (mc := mc) (ms := ms) (d' := d') (mc' := mc') (ms' := ms') hm hg hd' (aw_hts (args := args) hg hlink rfl), aw_hts (args := args) hg hst rfl, trivial⟩ ⟨aw_blindz, aw_prez hw hS hC.2.2.2.2.2.2.2.2.2.2.1 hg hok hC.2.2.2.2.2.2.2.2.2.2.2 (ha 0 hk0)⟩
    rfl (by rw [List.length_map]; exact hn) hl.1 (aw_rev hS2) (aw_stW hcat) hd ⟨hcs, hss⟩
  exact aw_run (aw_unrun hr) hC ha hk hS hw hl hok2 K (fun E h' k' hx => absurd hx (hX _ _ _))
end Scr
