/-! the reference's arrivals, told -/
section MT2
variable {g : Mem} {n : Nat}
theorem okA_B {x : Int32} (h : okA 24 x) : okB x := h.imp id fun ⟨k, h1, h2⟩ => ⟨k, by omega, h2⟩
theorem comb_eq {d A Bv Cv x51 x52 b0 c0 B' C' : Int32} (hA : okA 24 A) (hB : okA 24 B') (hC : okA 24 C') (eB : if x51 = -1 then (B' = A ∧ Bv = 999 ∧ b0 = 0) else (Bv = B' ∧ b0 = B')) (eC : if x52 = -1 then (C' = A ∧ Cv = 999 ∧ c0 = 0) else (Cv = C' ∧ c0 = C')) :
    ((jmin A (jmin Bv Cv) = -1) → comb d A B' C' = -1) ∧ (¬ jmin A (jmin Bv Cv) = -1 → comb d A B' C' = d + jmax A (jmax b0 c0)) := by
  have n9 : ¬ (999 : Int32) = -1 := by decide
  have oB : okB Bv := by
    by_cases h : x51 = -1
    · rw [if_pos h] at eB; rw [eB.2.1]; exact Or.inr ⟨999, by omega, rfl⟩
    · rw [if_neg h] at eB; rw [eB.1]; exact okA_B hB
  have oC : okB Cv := by
    by_cases h : x52 = -1
    · rw [if_pos h] at eC; rw [eC.2.1]; exact Or.inr ⟨999, by omega, rfl⟩
    · rw [if_neg h] at eC; rw [eC.1]; exact okA_B hC
  have q1 := okB_min oB oC
  have q2 := okB_min (okA_B hA) q1.1
  have hiff : jmin A (jmin Bv Cv) = -1 ↔ (A = -1 ∨ B' = -1 ∨ C' = -1) := by
    rw [q2.2, q1.2]
    by_cases h : x51 = -1
    · rw [if_pos h] at eB
      rw [eB.2.1, eB.1]
      by_cases h' : x52 = -1
      · rw [if_pos h'] at eC
        rw [eC.2.1, eC.1]
        exact ⟨fun h => h.elim Or.inl (fun h => h.elim (fun h => absurd h n9) (fun h => absurd h n9)), fun h => Or.inl (h.elim id (fun h => h.elim id id))⟩
      · rw [if_neg h'] at eC
        rw [eC.1]
        exact ⟨fun h => h.elim Or.inl (fun h => h.elim (fun h => absurd h n9) (fun h => Or.inr (Or.inr h))), fun h => h.elim Or.inl (fun h => h.elim Or.inl (fun h => Or.inr (Or.inr h)))⟩
    · rw [if_neg h] at eB
      rw [eB.1]
      by_cases h' : x52 = -1
      · rw [if_pos h'] at eC
        rw [eC.2.1, eC.1]
        exact ⟨fun h => h.elim Or.inl (fun h => h.elim (fun h => Or.inr (Or.inl h)) (fun h => absurd h n9)), fun h => h.elim Or.inl (fun h => h.elim (fun h => Or.inr (Or.inl h)) Or.inl)⟩
      · rw [if_neg h'] at eC
        rw [eC.1]
  unfold comb
  refine ⟨fun h => if_pos (hiff.mp h), fun h => ?_⟩
  have hno : ¬ (A = -1 ∨ B' = -1 ∨ C' = -1) := fun hh => h (hiff.mpr hh)
  rw [if_neg hno]
  obtain ⟨ka, a1, a2⟩ := hA.resolve_left (fun e => hno (Or.inl e))
  obtain ⟨kb, b1, b2⟩ := hB.resolve_left (fun e => hno (Or.inr (Or.inl e)))
  obtain ⟨kc, c1, c2⟩ := hC.resolve_left (fun e => hno (Or.inr (Or.inr e)))
  have z : (0 : Int32) = nI 0 := rfl
  have hb0 : ∃ j : Nat, b0 = nI j ∧ j ≤ 480 ∧ (x51 = -1 → j = 0 ∧ kb = ka) ∧ (¬ x51 = -1 → j = kb) := by
    by_cases h : x51 = -1
    · rw [if_pos h] at eB
      refine ⟨0, eB.2.2, by omega, fun _ => ⟨rfl, ?_⟩, fun hh => absurd h hh⟩
      exact (nI_eq (by omega) (by omega)).mp (b2.symm.trans (eB.1.trans a2))
    · rw [if_neg h] at eB
      exact ⟨kb, eB.2.trans b2, by omega, fun hh => absurd hh h, fun _ => rfl⟩
  have hc0 : ∃ j : Nat, c0 = nI j ∧ j ≤ 480 ∧ (x52 = -1 → j = 0 ∧ kc = ka) ∧ (¬ x52 = -1 → j = kc) := by
    by_cases h : x52 = -1
    · rw [if_pos h] at eC
      refine ⟨0, eC.2.2, by omega, fun _ => ⟨rfl, ?_⟩, fun hh => absurd h hh⟩
      exact (nI_eq (by omega) (by omega)).mp (c2.symm.trans (eC.1.trans a2))
    · rw [if_neg h] at eC
      exact ⟨kc, eC.2.trans c2, by omega, fun hh => absurd hh h, fun _ => rfl⟩
  obtain ⟨jb, e1, e2, e3, e4⟩ := hb0
  obtain ⟨jc, f1, f2, f3, f4⟩ := hc0
  rw [a2, b2, c2, e1, f1, jmax_nI (by omega) (by omega), jmax_nI (by omega) (by omega), jmax_nI (by omega) (by omega), jmax_nI (by omega) (by omega)]
  congr 2
  by_cases h : x51 = -1 <;> by_cases h' : x52 = -1
  · have := e3 h; have := f3 h'; omega
  · have := e3 h; have := f4 h'; omega
  · have := e4 h; have := f3 h'; omega
  · have := e4 h; have := f4 h'; omega
theorem p_M_tellArrival (hwf : ∀ l, l < n → WFl g l) (hn : n ≤ 30) (hd : ∀ l, l < n → ∃ d : Nat, d ≤ 20 ∧ g 53 l = nI d) : ∀ (f w : Nat) (m : Mem), w < 24 → rk g n w < f → MC m g n → TI m g n →
    ∃ (m' : Mem) (c0 : Nat), TR g n w m m' c0 ∧ m' 59 w = 1 ∧ ∀ (c : Nat) (K : Int32 → Mem → Prop), c0 ≤ c → K (AR g n (g 53) w) m' → w_M_tellArrival f (nI w) m c K := by
  intro f
  induction f with
  | zero => intro w m hw h; omega
  | succ f ih =>
    intro w m hw hrk hc ht
    have hin : vp_in (nI w) 24 := vp_in_nI hw (by decide)
    by_cases h0 : m 59 w = 0
    · have eAR := AR_eq (dl := g 53) hwf hn hw
      -- what stands behind the reckoning
      have fin : ∀ (v : Int32) (m12 : Mem) (K : Int32 → Mem → Prop), v = AR g n (g 53) w → K (AR g n (g 53) w) (up2 (up2 m12 59 w 1) 58 w (AR g n (g 53) w)) →
          (vp_in (nI w) 24 ∧ ∀ m67 : Mem, m67 = up2 m12 59 ((nI w).toNatClampNeg) (1 : Int32) → vp_in (nI w) 24 ∧ ∀ m68 : Mem, m68 = up2 m67 58 ((nI w).toNatClampNeg) v → K v m68) := by
        intro v m12 K ev hK
        rw [nI_clamp (by omega)]
        refine ⟨hin, ?_⟩
        intro m67 e67
        refine ⟨hin, ?_⟩
        intro m68 e68
        subst e67 e68 ev
        exact hK
      rcases S_drv_spec (g := g) (n := n) (w := w) with ⟨e, -⟩ | ⟨q, hq, e, ew, -⟩
      · rw [e, if_pos rfl] at eAR
        obtain ⟨s1, s2⟩ := TR.set hw (TR.refl (w := w) ht) h0
        refine ⟨_, _, s1, s2, fun c K hcK hK => ?_⟩
        unfold w_M_tellArrival
        refine ⟨hin, fun _ => p_M_driver hc ?_, fun ne => absurd (by rw [nI_clamp (by omega)]; exact h0) ne⟩
        rw [e]
        intro J hJ
        refine ⟨fun h => absurd rfl h, fun _ => hJ _ _ ?_⟩
        unfold w_M_isGate
        refine ⟨fun _ => ?_, fun h => absurd rfl h⟩
        intro J13 hJ13
        exact ⟨fun _ => hJ13 _ _ _ (fin _ _ _ eAR.symm hK), fun h => absurd rfl h⟩
      · rw [e, if_neg (nI_m1 (by omega)), cl_nI (by omega)] at eAR
        have hin30 : vp_in (nI q) 30 := vp_in_nI (by omega) (by decide)
        have hwq := hwf q hq
        have e53 : m 53 = g 53 := hc.2.2.2.2.2.2.2.1
        by_cases hk : g 48 q < 0
        · have ev : g 53 q = AR g n (g 53) w := by
            rcases hwq.2 with hh | hh | ⟨k, hk8, ek, -⟩
            · rw [if_pos hh.1] at eAR; rw [eAR]; exact hh.2.2.2.2
            · rw [if_neg (by rw [hh.1]; decide), if_pos hh.1] at eAR; exact eAR.symm
            · rw [ek] at hk; exact absurd hk (nI_pos (by omega))
          obtain ⟨s1, s2⟩ := TR.set hw (TR.refl (w := w) ht) h0
          refine ⟨_, _, s1, s2, fun c K hcK hK => ?_⟩
          unfold w_M_tellArrival
          refine ⟨hin, fun _ => p_M_driver hc ?_, fun ne => absurd (by rw [nI_clamp (by omega)]; exact h0) ne⟩
          rw [e]
          intro J hJ
          refine ⟨fun _ => ⟨hin30, hJ _ _ ?_⟩, fun h => absurd h (nI_m1 (by omega))⟩
          refine p_M_isGate hc (by omega) (fun h => absurd hk h) (fun _ => ?_)
          intro J13 hJ13
          refine ⟨fun _ => hJ13 _ _ _ (fin _ _ _ ?_ hK), fun h => absurd rfl h⟩
          rw [nI_clamp (by omega), e53]; exact ev
        · have k1 : ¬ g 48 q = -1 := fun k => hk (by rw [k]; decide)
          have k2 : ¬ g 48 q = -2 := fun k => hk (by rw [k]; decide)
          rw [if_neg k1, if_neg k2] at eAR
          cases hr : ringB g n q
          · -- a gate in no ring
            rw [if_neg (by rw [hr]; decide)] at eAR
            have hr' : ¬ ringB g n q = true := by rw [hr]; decide
            obtain ⟨⟨a1, a2, a3⟩, b1, b2, b3⟩ := hwq.pins hk
            have r1 := rk_lt hq hk hr' hw ew a1.cl.2 b1
            have r2 := rk_lt hq hk hr' hw ew a2.cl.2 b2
            have r3 := rk_lt hq hk hr' hw ew a3.cl.2 b3
            obtain ⟨w50, w51, w52⟩ := hwq.w0
            have opt : ∀ (x : Int32) (mm : Mem) (cc0 : Nat), isW0 x → (¬ x = -1 → rk g n (cl x) < rk g n w) → TB g n w m mm cc0 → ∃ (m' : Mem) (c1 : Nat) (v : Int32), TB g n w m m' (cc0 + c1) ∧ (∀ y, y < 24 → mm 59 y = 1 → m' 59 y = 1) ∧
                ((x = -1 ∧ v = 999 ∧ m' = mm ∧ c1 = 0) ∨ (¬ x = -1 ∧ v = AR g n (g 53) (cl x) ∧ m' 59 (cl x) = 1 ∧ ∀ (c : Nat) (K : Int32 → Mem → Prop), c1 ≤ c → K v m' → w_M_tellArrival f x mm c K)) := by
              intro x mm cc0 hx hrx hB
              by_cases e1 : x = -1
              · exact ⟨mm, 0, 999, hB, fun _ _ h => h, Or.inl ⟨e1, rfl, rfl, rfl⟩⟩
              · obtain ⟨hx1, hx2⟩ := (hx.resolve_left e1).cl
                obtain ⟨m', c1, t1, t2, t3⟩ := ih (cl x) mm hx2 (by have := hrx e1; omega) (hc.ft hB.1) hB.2.1
                refine ⟨m', c1, _, hB.seq t1 (hrx e1), t1.2.2.1, Or.inr ⟨e1, rfl, t2, fun c K h1 h2 => ?_⟩⟩
                rw [hx1]; exact t3 c K h1 h2
            obtain ⟨ma, ca, va, TA, monA, oA⟩ := opt (g 50 q) m 0 w50 (fun _ => r1) (TB.refl ht)
            have n50 : ¬ g 50 q = -1 := by obtain ⟨z, hz, ez⟩ := a1; rw [ez]; exact nI_m1 (by omega)
            obtain ⟨-, eva, toldA, goA⟩ := oA.resolve_left (fun h => n50 h.1)
            have rp51 : ¬ g 51 q = -1 → rk g n (cl (g 51 q)) < rk g n w := fun h => by unfold pinB at r2; rw [if_neg h] at r2; exact r2
            have rp52 : ¬ g 52 q = -1 → rk g n (cl (g 52 q)) < rk g n w := fun h => by unfold pinC at r3; rw [if_neg h] at r3; exact r3
            obtain ⟨mb, cb, vb, TBb, monB, oB⟩ := opt (g 51 q) ma (0 + ca) w51 rp51 TA
            obtain ⟨mc, cc, vc, TC, monC, oC⟩ := opt (g 52 q) mb (0 + ca + cb) w52 rp52 TBb
            have un : mc 59 w = 0 := (TC.2.2.2.1 w hw (Nat.le_refl _)).trans h0
            obtain ⟨s1, s2⟩ := TR.set hw TC.tr un
            refine ⟨_, _, s1, s2, fun c K hcK hK => ?_⟩
            have hca := hc.ft TA.1
            have hcb := hc.ft TBb.1
            have hcc := hc.ft TC.1
            have rd : ∀ x, x < 24 → mc 59 x = 1 → mc 58 x = AR g n (g 53) x := fun x hx h1 => by
              rcases TC.2.1 x hx with h | h
              · rw [h] at h1; exact absurd h1 (by decide)
              · exact h.2
            have rdA : mc 58 (cl (g 50 q)) = AR g n (g 53) (cl (g 50 q)) := rd _ a1.cl.2 (monC _ a1.cl.2 (monB _ a1.cl.2 toldA))
            have okk := fun x => AR_ok (g := g) (dl := g 53) hd hn x
            have ce := comb_eq (d := g 53 q) (A := AR g n (g 53) (cl (g 50 q))) (Bv := vb) (Cv := vc) (x51 := g 51 q) (x52 := g 52 q) (b0 := if g 51 q = -1 then 0 else mc 58 (cl (g 51 q))) (c0 := if g 52 q = -1 then 0 else mc 58 (cl (g 52 q))) (B' := AR g n (g 53) (cl (pinB g q))) (C' := AR g n (g 53) (cl (pinC g q))) (okk _) (okk _) (okk _)
              (by
                by_cases h : g 51 q = -1
                · rw [if_pos h, if_pos h]
                  obtain ⟨-, ev, -, -⟩ := oB.resolve_right (fun hh => hh.1 h)
                  unfold pinB; rw [if_pos h]; exact ⟨rfl, ev, rfl⟩
                · rw [if_neg h, if_neg h]
                  obtain ⟨-, ev, tl, -⟩ := oB.resolve_left (fun hh => h hh.1)
                  have hx2 := (w51.resolve_left h).cl.2
                  unfold pinB; rw [if_neg h]; exact ⟨ev, rd _ hx2 (monC _ hx2 tl)⟩)
              (by
                by_cases h : g 52 q = -1
                · rw [if_pos h, if_pos h]
                  obtain ⟨-, ev, -, -⟩ := oC.resolve_right (fun hh => hh.1 h)
                  unfold pinC; rw [if_pos h]; exact ⟨rfl, ev, rfl⟩
                · rw [if_neg h, if_neg h]
                  obtain ⟨-, ev, tl, -⟩ := oC.resolve_left (fun hh => h hh.1)
                  have hx2 := (w52.resolve_left h).cl.2
                  unfold pinC; rw [if_neg h]; exact ⟨ev, rd _ hx2 tl⟩)
            unfold w_M_tellArrival
            refine ⟨hin, fun _ => p_M_driver hc ?_, fun ne => absurd (by rw [nI_clamp (by omega)]; exact h0) ne⟩
            rw [e]
            intro J hJ
            refine ⟨fun _ => ⟨hin30, hJ _ _ ?_⟩, fun h => absurd h (nI_m1 (by omega))⟩
            refine p_M_isGate hc (by omega) (fun _ => ?_) (fun h => absurd h hk)
            intro J13 hJ13
            refine ⟨fun h => absurd h (by decide), fun _ => ⟨by omega, p_M_isInRing hc hwf hq (fun h => absurd h hr') (fun _ => ?_)⟩⟩
            intro J26 hJ26
            refine ⟨fun _ => ⟨hin30, ca, by omega, ?_⟩, fun h => absurd rfl h⟩
            rw [nI_clamp (by omega), hc.2.2.2.2.1]
            refine goA ca _ (Nat.le_refl _) ⟨hin30, ?_⟩
            rw [hca.2.2.2.2.2.1]
            intro J40 hJ40
            have k40 : ∀ s38 : Nat, s38 = 0 + 1 + ca + cb → J40 vb s38 mb := by
              intro s38 hs
              refine hJ40 _ _ _ ⟨hin30, ?_⟩
              rw [hcb.2.2.2.2.2.2.1]
              intro J54 hJ54
              have k54 : ∀ s52 : Nat, s52 = 0 + 1 + ca + cb + cc → J54 vc s52 mc := by
                intro s52 hs2
                refine hJ54 _ _ _ ?_
                rw [eva]
                refine p_M_behind hcc (by omega) a1 w51 w52 (fun hl => ?_) (fun hl => ?_)
                · exact hJ26 _ _ _ (hJ13 _ _ _ (fin _ _ _ ((ce.1 hl).symm.trans eAR.symm) hK))
                · refine hJ26 _ _ _ (hJ13 _ _ _ (fin _ _ _ ?_ hK))
                  rw [rdA]
                  exact (ce.2 hl).symm.trans eAR.symm
              refine ⟨fun n52 => ?_, fun e52 => ?_⟩
              · obtain ⟨-, -, -, goC⟩ := oC.resolve_left (fun hh => n52 hh.1)
                exact ⟨hin30, cc, by omega, goC cc _ (Nat.le_refl _) (k54 _ (by omega))⟩
              · obtain ⟨-, ev, em, ec⟩ := oC.resolve_right (fun hh => hh.1 e52)
                have := k54 s38 (by omega)
                rw [ev, em] at this; exact this
            refine ⟨fun n51 => ?_, fun e51 => ?_⟩
            · obtain ⟨-, -, -, goB⟩ := oB.resolve_left (fun hh => n51 hh.1)
              exact ⟨hin30, cb, by omega, goB cb _ (Nat.le_refl _) (k40 _ rfl)⟩
            · obtain ⟨-, ev, em, ec⟩ := oB.resolve_right (fun hh => hh.1 e51)
              have := k40 (0 + 1 + ca) (by omega)
              rw [ev, em] at this; exact this
          · -- a gate in a ring
            rw [if_pos hr] at eAR
            obtain ⟨s1, s2⟩ := TR.set hw (TR.refl (w := w) ht) h0
            refine ⟨_, _, s1, s2, fun c K hcK hK => ?_⟩
            unfold w_M_tellArrival
            refine ⟨hin, fun _ => p_M_driver hc ?_, fun ne => absurd (by rw [nI_clamp (by omega)]; exact h0) ne⟩
            rw [e]
            intro J hJ
            refine ⟨fun _ => ⟨hin30, hJ _ _ ?_⟩, fun h => absurd h (nI_m1 (by omega))⟩
            refine p_M_isGate hc (by omega) (fun _ => ?_) (fun h => absurd h hk)
            intro J13 hJ13
            refine ⟨fun h => absurd h (by decide), fun _ => ⟨by omega, p_M_isInRing hc hwf hq (fun _ => ?_) (fun h => by rw [hr] at h; cases h)⟩⟩
            intro J26 hJ26
            exact ⟨fun h => absurd h (by decide), fun _ => hJ26 _ _ _ (hJ13 _ _ _ (fin _ _ _ eAR.symm hK))⟩
    · have ht1 := (ht w hw).resolve_left h0
      refine ⟨m, 0, TR.refl ht, ht1.1, fun c K _ hK => ?_⟩
      unfold w_M_tellArrival
      rw [nI_clamp (by omega)]
      refine ⟨hin, fun h => absurd h h0, fun _ => ⟨hin, ?_⟩⟩
      rw [ht1.2]; exact hK
end MT2
