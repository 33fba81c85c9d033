/-! what a call of the class answers, and what stands behind -/
theorem lw47 : layC = lay 60 (fun _ => .inr (0, [])) (fun _ => 0) := rfl
theorem CE_th {μ : Mt} {d mc ms : Nat} {as : List Value} {m : Mem} {K : Int32 → Mem → Prop} (hM : AM μ d as (lay 60 (fun _ => .inr (0, [])) (fun _ => 0) m) 47 mc ms (fun oc h' k' => 47 = k' ∧ ∃ (m' : Mem), h' = lay 60 (fun _ => .inr (0, [])) (fun _ => 0) m' ∧ ((∃ r : Int32, oc = .inl (some (.int r)) ∧ K r m') ∨ ∃ E : String, oc = .inr E ∧ (fun _ _ => False : String → Mem → Prop) E m'))) : AM μ d as (layC m) 47 mc ms (CE (fun v m' => ∃ r : Int32, v = some (.int r) ∧ K r m')) := by
  refine AM.weaken hM fun oc h' k' hq => ?_
  obtain ⟨hk, m', hh, ⟨r, ho, hK⟩ | ⟨E, ho, hK⟩⟩ := hq
  · exact ⟨hk.symm, some (.int r), m', ho, fun i _ _ => by rw [hh]; rfl, fun w e => by cases e; trivial, r, rfl, hK⟩
  · exact hK.elim
theorem CE_tl {μ : Mt} {d mc ms : Nat} {as : List Value} {m : Mem} {K : Int64 → Mem → Prop} (hM : AM μ d as (lay 60 (fun _ => .inr (0, [])) (fun _ => 0) m) 47 mc ms (fun oc h' k' => 47 = k' ∧ ∃ (m' : Mem), h' = lay 60 (fun _ => .inr (0, [])) (fun _ => 0) m' ∧ ((∃ r : Int64, oc = .inl (some (.long r)) ∧ K r m') ∨ ∃ E : String, oc = .inr E ∧ (fun _ _ => False : String → Mem → Prop) E m'))) : AM μ d as (layC m) 47 mc ms (CE (fun v m' => ∃ r : Int64, v = some (.long r) ∧ K r m')) := by
  refine AM.weaken hM fun oc h' k' hq => ?_
  obtain ⟨hk, m', hh, ⟨r, ho, hK⟩ | ⟨E, ho, hK⟩⟩ := hq
  · exact ⟨hk.symm, some (.long r), m', ho, fun i _ _ => by rw [hh]; rfl, fun w e => by cases e; trivial, r, rfl, hK⟩
  · exact hK.elim
theorem CE_nt {μ : Mt} {d mc ms : Nat} {as : List Value} {m : Mem} {K : Int32 → Mem → Prop} (hM : AM μ d as (lay 60 (fun _ => .inr (0, [])) (fun _ => 0) m) 47 mc ms (fun oc h' k' => 47 = k' ∧ ∃ (r : Int32) (m' : Mem), oc = .inl (some (.int r)) ∧ h' = lay 60 (fun _ => .inr (0, [])) (fun _ => 0) m' ∧ K r m')) : AM μ d as (layC m) 47 mc ms (CE (fun v m' => ∃ r : Int32, v = some (.int r) ∧ K r m')) := by
  refine AM.weaken hM fun oc h' k' hq => ?_
  obtain ⟨hk, r, m', ho, hh, hK⟩ := hq
  exact ⟨hk.symm, some (.int r), m', ho, fun i _ _ => by rw [hh]; rfl, fun w e => by cases e; trivial, r, rfl, hK⟩
/-- the answer r, all else as it was; or but for what serves trials; or with the run at the row ρ -/
def RD (r : Int32) (m : Mem) : Option Value → Mem → Prop := fun v m' => ∃ x : Int32, v = some (.int x) ∧ (x = r ∧ m' = m)
def TR_ (r : Int32) (m : Mem) : Option Value → Mem → Prop := fun v m' => ∃ x : Int32, v = some (.int x) ∧ (x = r ∧ SM m m')
def TL (r : Int64) (m : Mem) : Option Value → Mem → Prop := fun v m' => ∃ x : Int64, v = some (.long x) ∧ (x = r ∧ SM m m')
def RN (r : Int32) (m : Mem) (ρ : Rw) : Option Value → Mem → Prop := fun v m' => ∃ x : Int32, v = some (.int x) ∧ (x = r ∧ FR 23 m m' ∧ RR 23 m' ρ)
section KLS
variable {j d n : Nat} {m g : Mem}
theorem k_arrival {w : Nat} (h : Iv j m g n) (hd : 4 ≤ d) (hw : w < 24) : AM mX4_arrival d [.ref 1, .int (nI w)] (layC m) 47 1 6 (CE (RD (AR g n (g 53) w) m)) := by
  refine CE_th (c_N_arrival (Or.inl rfl) hd ?_)
  unfold w_N_arrival
  refine s_N_checkWire (fun w' hw' e => ⟨by rw [e]; exact vp_in_nI hw' (by decide), ?_⟩) (fun no => absurd ⟨w, hw, rfl⟩ no)
  rw [nI_clamp (by omega)]
  exact ⟨h.2.2.2.2.2.2.2.2.2.2.2.1 w hw, rfl⟩
theorem k_longest (h : Iv j m g n) (hd : 4 ≤ d) : AM mX4_longest d [.ref 1] (layC m) 47 0 0 (CE (RD (S_lng (AR g n (g 53)) 24 0 0) m)) := by
  refine CE_nt (c_N_longest (Or.inl rfl) hd ?_)
  unfold w_N_longest
  exact p_A_greatest h.2.2.2.2.2.2.2.2.2.2.2.1 ⟨rfl, rfl⟩
theorem k_longestWith {l : Nat} (h : Iv j m g n) (hd : 6 ≤ d) (hl : l < n) (hk : ¬ g 48 l = -1) : AM mX4_longestWith d [.ref 1, .int (nI l), .int (g 53 l)] (layC m) 47 3 18 (CE (TR_ (S_lng (AR g n (g 53)) 24 0 0) m)) := by
  have hn := h.1.1
  refine CE_th (c_N_longestWith (Or.inl rfl) hd ?_)
  unfold w_N_longestWith w_N_checkHasDelay w_N_checkDelay
  refine s_N_checkLine h.2.1 (fun l' hl' e => ?_) (fun no => absurd rfl (no l hl))
  have hi := (h.2.1.2.2.1 l hl).inp
  have vp : vp_in (nI l) 30 := vp_in_nI (by omega) (by decide)
  rw [nI_clamp (by omega)]
  refine ⟨vp, fun n8 => ?_, fun e8 => absurd (hi.mp e8) hk⟩
  obtain ⟨q, hq, eq⟩ := h.2.2.2.1 l hl
  refine within20 (fun _ => ⟨fun _ => ?_, fun e => absurd e (by decide)⟩) (fun no => absurd ⟨q, hq, eq⟩ no)
  refine s_A_reckon (dl := g 53) (by omega) h.2.1 h.2.2.2.2.2.2.2.2.2.1 h.2.2.1 h.2.2.2.1 (fun p hp => ?_) fun m5 f5 A5 => ?_
  · by_cases e : p = l
    · rw [e, if_pos rfl]
    · rw [if_neg (fun e2 => e ((nI_eq (by omega) (by omega)).mp e2))]
  · exact p_A_greatest A5 ⟨rfl, fun i hi => f5 i (by omega), by rw [f5 47 (by omega)], by rw [f5 47 (by omega)]⟩
theorem k_way {p : Int32} (h : Iv j m g n) (hd : 5 ≤ d) : AM mX4_way d [.ref 1, .int p] (layC m) 47 0 0 (CE (RD (S_way g n (AR g n (g 53)) p) m)) :=
  CE_nt (c_N_way (Or.inl rfl) hd (s_N_way h.2.1 h.2.2.1 h.2.2.2.2.2.2.2.2.2.2.2.1 (AR_okN h.2.2.2.1 h.1.1) ⟨rfl, rfl⟩))
theorem k_told {p : Int32} (h : Iv j m g n) (hd : 5 ≤ d) (hp : p = 0 ∨ p = 1 ∨ p = 2 ∨ p = 3 ∨ p = 4 ∨ p = 5) : AM mX4_told d [.ref 1, .int p] (layC m) 47 1 6 (CE (RD (S_told n (m 60) p) m)) :=
  CE_th (c_N_told (Or.inl rfl) hd (s_N_told h.2.1 h.2.2.2.2.2.2.1 hp ⟨rfl, rfl⟩))
theorem k_ofWire {w q : Nat} (h : Iv j m g n) (hd : 4 ≤ d) (hw : w < 24) (hq : q < 4) : AM mX4_ofWire d [.ref 1, .int (nI w), .int (nI q)] (layC m) 47 2 12 (CE (RD ((m 60) (6 + q * 24 + w)) m)) :=
  CE_th (c_N_ofWire (Or.inl rfl) hd (s_N_ofWire h.2.2.2.2.2.2.1 hw hq ⟨rfl, rfl⟩))
theorem k_pending {l : Nat} (h : Iv j m g n) (hd : 3 ≤ d) (hl : l < n) : AM mX4_pending d [.ref 1, .int (nI l)] (layC m) 47 1 6 (CE (RD ((m 60) (102 + l)) m)) := by
  have hn := h.1.1
  refine CE_th (c_N_pending (Or.inl rfl) hd ?_)
  unfold w_N_pending
  refine s_N_checkLine h.2.1 (fun l' hl' e => ⟨vp_in_nI (by omega) (by decide), ?_⟩) (fun no => absurd rfl (no l hl))
  rw [nI_clamp (by omega)]
  exact ⟨h.2.2.2.2.2.2.1.2.2.2.2.1 l (by omega), rfl⟩
theorem k_hazards (h : Iv j m g n) (hd : 2 ≤ d) : AM mX4_hazards d [.ref 1] (layC m) 47 0 0 (CE (RD ((m 60) 5) m)) :=
  CE_nt (c_N_hazards (Or.inl rfl) hd ⟨h.2.2.2.2.2.2.1.2.2.2.2.2.2.2.1, rfl⟩)
theorem k_ofHazard {H k q : Nat} (h : Iv j m g n) (hd : 2 ≤ d) (hH : H ≤ 40) (e5 : (m 60) 5 = nI H) (hk : k < H) (hq : q < 3) : AM mX4_ofHazard d [.ref 1, .int (nI k), .int (nI q)] (layC m) 47 1 6 (CE (RD ((m 60) (222 + (3 * k + q))) m)) :=
  CE_th (c_N_ofHazard (Or.inl rfl) hd (s_N_ofHazard h.2.2.2.2.2.2.1 hH e5 hk hq ⟨rfl, rfl⟩))
theorem k_start (h : Iv j m g n) (hd : 7 ≤ d) (h5 : m 14 5 = 0) : AM mX4_start d [.ref 1] (layC m) 47 1 6 (CE (RN (nI (S_cnt (S_startL g n n 0 S_clear) n 0)) (up2 m 1 6 1) (S_startL g n n 0 S_clear))) := by
  have h5' := h.2.2.2.2.2.2.2.2.2.2.1
  refine CE_th (c_N_start (Or.inl rfl) hd ?_)
  unfold w_N_start
  refine ⟨fun _ m2 q2 => ?_, fun ne => absurd h5 ne⟩
  have hz : (FLw g n 24).length = 0 := by
    by_cases e : (FLw g n 24).length = 0
    · exact e
    · rw [if_neg e] at h5'; rw [h5'] at h5; exact absurd h5 (by decide)
  have c2 : CC m2 g n := h.2.1.same fun i b1 b2 => by rw [q2, up2_ne (by omega)]
  refine s_R_beginRun c2 (by omega) h.2.2.1 fun m3 f3 r3 => ?_
  rw [C_startL_eq h.2.2.1 (one_each h.2.2.1 hz) n 0 _ (by omega) (fun q _ hq _ => by rw [S_clear_at, if_pos (by have := (h.2.2.1 q hq).1.cl.2; omega)])] at r3
  exact s_R_linesPending (c2.fr (by omega) f3) r3 ⟨rfl, by rw [← q2]; exact f3, r3⟩
theorem k_set {w : Nat} {v : Int32} (h : Iv j m g n) (hd : 7 ≤ d) (run : ¬ m 1 6 = 0) (hw : w < 24) (inp : S_inp g n w) (hv : v = 0 ∨ v = 1) : AM mX4_set d [.ref 1, .int (nI w), .int v] (layC m) 47 3 18 (CE (RN ((m 60) (6 + w)) m (S_set g n w v (m 60)))) := by
  have hrr := h.2.2.2.2.2.2.1
  refine CE_th (c_N_set (Or.inl rfl) hd ?_)
  unfold w_N_set w_N_checkRunning
  refine ⟨fun _ => s_N_checkWire (fun w' hw' e => ?_) (fun no => absurd ⟨w, hw, rfl⟩ no), fun e => absurd e run⟩
  refine s_N_checkSetting h.2.1 hw (fun _ _ => ⟨vp_in_nI hw (by decide), ?_⟩) (fun no => absurd ⟨inp, hv⟩ no)
  refine s_R_put h.2.1 (by omega) h.2.2.1 hw (isV01 hv) h.2.2.2.2.2.1 hrr fun m1 f1 r1 => ?_
  rw [nI_clamp (by omega)]
  exact ⟨hrr.1 w hw, f1, r1⟩
theorem k_pass {q : Nat} (h : Iv j m g n) (hd : 7 ≤ d) (run : ¬ m 1 6 = 0) (hq : q ≤ 100) : AM mX4_pass d [.ref 1, .int (nI q)] (layC m) 47 2 12 (CE (RN (S_pass g n ((m 60) 0 + nI q) (m 60) 3 - (m 60) 3) m (upd (S_pass g n ((m 60) 0 + nI q) (m 60)) 0 ((m 60) 0 + nI q)))) := by
  have hrr := h.2.2.2.2.2.2.1
  have e13 : m 23 13 = (m 60) 0 := hrr.2.2.2.2.2.2.2.2.1
  refine CE_th (c_N_pass (Or.inl rfl) hd ?_)
  unfold w_N_pass w_N_checkRunning
  refine ⟨fun _ => s_within (fun a b => ⟨fun _ => ?_, fun e => absurd e (by decide)⟩) (fun hb => absurd hb (out_hi (n := 100) rfl (by decide) hq)), fun e => absurd e run⟩
  rw [e13]
  refine s_R_letCome h.2.1 (by omega) h.2.2.1 h.2.2.2.2.2.1 hrr fun m1 f1 r1 => ?_
  intro m7 e7
  exact ⟨rfl, by rw [e7]; exact f1.trans (FR.up (FR.refl 23 m1) (by omega)), by rw [e7]; exact r1.now (g := g) (n := n)⟩
theorem k_settle (h : Iv j m g n) (hd : 8 ≤ d) (run : ¬ m 1 6 = 0) : AM mX4_settle d [.ref 1] (layC m) 47 1 6 (CE (RN (S_pass g n 2147483647 (m 60) 3 - (m 60) 3) m (S_settle g n (m 60)))) := by
  refine CE_th (c_N_settle (Or.inl rfl) hd ?_)
  unfold w_N_settle w_N_checkRunning
  exact ⟨fun _ => s_R_comeToRest h.2.1 (by omega) h.2.2.1 h.2.2.2.2.2.1 h.2.2.2.2.2.2.1 fun m1 f1 r1 => ⟨rfl, f1, r1⟩, fun e => absurd e run⟩
def S_inn (g : Mem) (n : Nat) (ρ : Rw) : Int32 := if S_pass g n 2147483647 ρ 2 = ρ 2 then S_pass g n 2147483647 ρ 0 - ρ 0 else -1
theorem k_settlesIn (h : Iv j m g n) (hd : 7 ≤ d) (run : ¬ m 1 6 = 0) : AM mX4_settlesIn d [.ref 1] (layC m) 47 1 6 (CE (TR_ (S_inn g n (m 60)) m)) := by
  have hrr := h.2.2.2.2.2.2.1
  refine CE_th (c_N_settlesIn (Or.inl rfl) hd ?_)
  unfold w_N_settlesIn w_N_checkRunning
  refine ⟨fun _ => ?_, fun e => absurd e run⟩
  refine s_R_copyFrom hrr fun m2 f2 r2 => ?_
  have i2 := h.same (Nat.le_refl j) (SM.trial f2)
  refine s_R_letCome i2.2.1 (by omega) h.2.2.1 h.2.2.2.2.2.1 r2 fun m3 f3 r3 => ?_
  have s3 := (SM.trial f2).trans (SM.trial f3)
  have c16 : m3 23 16 = (m 60) 2 := by rw [f3 23 (by omega), f2 23 (by omega)]; exact hrr.2.2.2.2.2.2.2.2.2.2.2.1
  have c13 : m3 23 13 = (m 60) 0 := by rw [f3 23 (by omega), f2 23 (by omega)]; exact hrr.2.2.2.2.2.2.2.2.1
  have d16 : m3 35 16 = S_pass g n 2147483647 (m 60) 2 := r3.2.2.2.2.2.2.2.2.2.2.2.1
  have d13 : m3 35 13 = S_pass g n 2147483647 (m 60) 0 := r3.2.2.2.2.2.2.2.2.1
  rw [c16, c13, d16, d13]
  unfold S_inn
  exact ⟨fun ne => ⟨by rw [if_neg ne], s3⟩, fun e => ⟨by rw [if_pos e], s3⟩⟩
theorem k_wouldBe {w x : Nat} {v : Int32} (h : Iv j m g n) (hd : 8 ≤ d) (run : ¬ m 1 6 = 0) (hw : w < 24) (hx : x < 24) (inp : S_inp g n w) (hv : v = 0 ∨ v = 1) : AM mX4_wouldBe d [.ref 1, .int (nI w), .int v, .int (nI x)] (layC m) 47 4 24 (CE (TR_ (S_settle g n (S_set g n w v (m 60)) (6 + x)) m)) := by
  have hn := h.1.1
  have hrr := h.2.2.2.2.2.2.1
  have hrw := h.2.2.2.2.2.1
  refine CE_th (c_N_wouldBe (Or.inl rfl) hd ?_)
  unfold w_N_wouldBe w_N_checkRunning
  refine ⟨fun _ => s_N_checkWire (fun w' hw' e => s_N_checkWire (fun x' hx' ex => ?_) (fun no => absurd ⟨x, hx, rfl⟩ no)) (fun no => absurd ⟨w, hw, rfl⟩ no), fun e => absurd e run⟩
  refine s_N_checkSetting h.2.1 hw (fun _ _ => ?_) (fun no => absurd ⟨inp, hv⟩ no)
  refine s_R_copyFrom hrr fun m2 f2 r2 => ?_
  have s2 := SM.trial f2
  refine s_R_put (h.same (Nat.le_refl j) s2).2.1 (by omega) h.2.2.1 hw (isV01 hv) hrw r2 fun m3 f3 r3 => ?_
  have s3 := s2.trans (SM.trial f3)
  refine s_R_comeToRest (h.same (Nat.le_refl j) s3).2.1 (by omega) h.2.2.1 (hrw.set hn h.2.2.1 hw (isV01 hv)) r3 fun m4 f4 r4 => ?_
  have s4 := s3.trans (SM.trial f4)
  refine ⟨vp_in_nI hx (by decide), ?_⟩
  rw [nI_clamp (by omega)]
  exact ⟨r4.1 x hx, s4⟩
theorem k_digest (hj : j < 512) (h : Iv j m g n) (hd : 8 ≤ d) : AM mX4_digest d [.ref 1] (layC m) 47 613 3678 (CE (TL (S_dig g n (AR g n (g 53)) (m 60) (m 47 11)) m)) :=
  CE_tl (c_N_digest (Or.inl rfl) hd (s_N_digest hj h fun m' s => ⟨rfl, s⟩))
end KLS
/-- a line is added: the reference's numbers, that lie in no cell, follow -/
theorem add_one {j n w : Nat} {m g : Mem} {k k' a b c ga gb gc d : Int32} {A : Int32 → Mem → Prop} (h : Iv j m g n) (hn : n < 30) (hw : w < 24) (ha : isW0 a) (hb : isW0 b) (hc : isW0 c) (ea : a = ga) (hu : ∀ x, x < 24 → ((a = nI x ∨ b = nI x ∨ c = nI x) ↔ (ga = nI x ∨ gb = nI x ∨ gc = nI x)))
    (hk : (k = -1 ∧ k' = 8 ∧ b = -1 ∧ c = -1) ∨ (k = -2 ∧ k' = 9 ∧ b = gb ∧ c = gc) ∨ (∃ q : Nat, q < 8 ∧ k = nI q ∧ k' = nI q ∧ b = (if 2 ≤ q then gb else ga) ∧ c = (if q = 7 then gc else ga)))
    (hwf : WFl (gadd g n k (nI w) ga gb gc d) n) (hd : ∃ q : Nat, q ≤ 20 ∧ d = nI q)
    (hA : ∀ m1 m2 : Mem, (∀ i, 0 < i → i < 47 → m2 i = m1 i) → Iv (j + 1) m2 (gadd g n k (nI w) ga gb gc d) (n + 1) → A (nI n) m1) : w_N_addLine k' (nI w) a b c d m A := by
  have hwf' : ∀ l, l < n + 1 → WFl (gadd g n k (nI w) ga gb gc d) l := fun l hl => by
    by_cases e : l = n
    · rw [e]; exact hwf
    · exact (h.2.2.1 l (by omega)).add e
  have hd' : ∀ l, l < n + 1 → ∃ q : Nat, q ≤ 20 ∧ (gadd g n k (nI w) ga gb gc d) 53 l = nI q := fun l hl => by
    rw [ga53]
    by_cases e : l = n
    · rw [if_pos e]; exact hd
    · rw [if_neg e]; exact h.2.2.2.1 l (by omega)
  have h910 := h.2.2.2.2.1 n hn
  unfold w_N_addLine
  refine s_C_add h.2.1 hn hw ha hb hc fun m1 f f2 f3 f4 f5 f6 f7 f8 f11 f12 f13 => ?_
  intro m3 e3
  have cc1 := CC.add (k := k) (k' := k') (ga := ga) (gb := gb) (gc := gc) h.2.1 hn hw h910.1 h910.2 f f2 f3 f4 f5 f6 f7 f8 f11 f12 f13 ea hu hk
  have cc3 : CC m3 (gadd g n k (nI w) ga gb gc d) (n + 1) := cc1.same fun i b1 b2 => by rw [e3, up2_ne (by omega)]
  refine s_F_find cc3 hwf' fun m4 f4 cf ci c5 => ?_
  refine s_A_reckon (dl := (gadd g n k (nI w) ga gb gc d) 53) (by omega) (cc3.fx f4) ci hwf' hd' (fun q hq => by rw [if_neg (nI_m1 (by omega))]) fun m5 f5' A5 => ?_
  have h5 : ∀ i, (i < 1 ∨ 20 < i ∨ i = 9 ∨ i = 10) → m5 i = m i := fun i hi => by rw [f5' i (by omega), f4 i (by omega), e3, up2_ne (by omega), f i (by omega)]
  generalize hG : gadd g n k (nI w) ga gb gc d = G at *
  have hGh : G 54 = g 54 ∧ G 55 = g 55 := by rw [← hG]; exact ⟨ga54, ga55⟩
  refine hA m5 (fun i => if i < 47 then m5 i else if i = 47 then (fun q => if q = 1 then nI (n + 1) else if q = 11 then 0 else m5 47 q) else if i = 60 then m 60 else G i) (fun i _ h2 => by simp only [if_pos h2]) ?_
  generalize hm6 : (fun i => if i < 47 then m5 i else if i = 47 then (fun q => if q = 1 then nI (n + 1) else if q = 11 then 0 else m5 47 q) else if i = 60 then m 60 else G i : Mem) = m6
  have lo : ∀ i, i < 47 → m6 i = m5 i := fun i hi => by rw [← hm6]; simp only [if_pos hi]
  have hi6 : ∀ i, 48 ≤ i → i ≤ 55 → m6 i = G i := fun i h1 h2 => by rw [← hm6]; simp only [if_neg (show ¬ i < 47 by omega), if_neg (show ¬ i = 47 by omega), if_neg (show ¬ i = 60 by omega)]
  have h60 : m6 60 = m 60 := by rw [← hm6]; rfl
  subst hG
  refine h.add hn ⟨by omega, by rw [← hm6]; rfl, hi6 48 (by omega) (by omega), hi6 49 (by omega) (by omega), hi6 50 (by omega) (by omega), hi6 51 (by omega) (by omega), hi6 52 (by omega) (by omega), hi6 53 (by omega) (by omega), hi6 54 (by omega) (by omega), hi6 55 (by omega) (by omega)⟩ ?_ hwf' hd' (fun i hi => ?_) ?_ (by rw [← hm6]; rfl) ?_ (fun q hq => ?_) ?_ (fun x hx => ?_)
  · exact (cc3.fx f4).same fun i b1 b2 => by rw [lo i (by omega), f5' i (by omega)]
  · rcases hi with hi | hi | hi | hi
    · rw [lo i (by omega), h5 i (by omega)]
    · rw [lo i (by omega), h5 i (by omega)]
    · rw [lo i (by omega), h5 i (by omega)]
    · rw [hi]; exact h60
  · rw [lo 1 (by omega), f5' 1 (by omega), f4 1 (by omega), e3, up2_at, if_pos rfl]
  · unfold CF at cf ⊢
    rw [lo 14 (by omega), lo 15 (by omega), lo 16 (by omega), f5' 14 (by omega), f5' 15 (by omega), f5' 16 (by omega)]; exact cf
  · rw [lo 17 (by omega), f5' 17 (by omega)]; exact ci q hq
  · rw [lo 14 (by omega), f5' 14 (by omega)]; exact c5
  · rw [lo 20 (by omega)]; exact A5 x hx
/-- a line is added: the answer is its number, and the class's cells are those of the longer circuit -/
def AD (j n : Nat) (G : Mem) : Option Value → Mem → Prop := fun v m' => ∃ x : Int32, v = some (.int x) ∧ (x = nI n ∧ ∃ m2 : Mem, (∀ i, 0 < i → i < 47 → m2 i = m' i) ∧ Iv (j + 1) m2 G (n + 1))
section KADD
variable {j d n w : Nat} {m g : Mem}
theorem k_input (h : Iv j m g n) (hd : 7 ≤ d) (hn : n < 30) (hw : w < 24) : AM mX4_input d [.ref 1, .int (nI w)] (layC m) 47 2 12 (CE (AD j n (gadd g n (-1) (nI w) (-1) (-1) (-1) 0))) := by
  refine CE_th (c_N_input (Or.inl rfl) hd ?_)
  unfold w_N_input w_N_checkRoom
  refine s_N_checkWire (fun w' hw' e => ?_) (fun no => absurd ⟨w, hw, rfl⟩ no)
  rw [h.2.1.2.1]
  refine ⟨fun _ => ?_, fun nlt => absurd ((nI_lt30 (by omega)).mpr hn) nlt⟩
  refine add_one (k := -1) (ga := -1) (gb := -1) (gc := -1) h hn hw isW0_m1 isW0_m1 isW0_m1 rfl (fun x _ => Iff.rfl) (Or.inl ⟨rfl, rfl, rfl, rfl⟩) ?_ ⟨0, by omega, rfl⟩ fun m1 m2 e2 i2 => ⟨rfl, m2, e2, i2⟩
  unfold WFl
  rw [ga48, ga49, ga50, ga51, ga52, ga53, if_pos rfl, if_pos rfl, if_pos rfl, if_pos rfl, if_pos rfl, if_pos rfl]
  exact ⟨⟨w, hw, rfl⟩, Or.inl ⟨rfl, rfl, rfl, rfl, rfl⟩⟩
theorem k_register {p2 p3 p4 : Int32} {q : Nat} (h : Iv j m g n) (hd : 7 ≤ d) (hn : n < 30) (hw : w < 24) (h2 : isW p2) (h3 : isW p3) (h4 : isW0 p4) (hq : q ≤ 20) : AM mX4_register d [.ref 1, .int (nI w), .int p2, .int p3, .int p4, .int (nI q)] (layC m) 47 6 36 (CE (AD j n (gadd g n (-2) (nI w) p2 p3 p4 (nI q)))) := by
  refine CE_th (c_N_register (Or.inl rfl) hd ?_)
  unfold w_N_register w_N_checkRoom w_N_checkDelay
  refine s_N_checkWire (fun w' hw' e => ?_) (fun no => absurd ⟨w, hw, rfl⟩ no)
  refine s_N_checkWire (fun _ _ _ => ?_) (fun no => absurd h2 no)
  refine s_N_checkWire (fun _ _ _ => ?_) (fun no => absurd h3 no)
  intro J hJ
  suffices hj : J m by
    refine ⟨fun _ => hj, fun ne => s_N_checkWire (fun _ _ _ => hj) (fun no => absurd (h4.resolve_left ne) no)⟩
  refine hJ m (within20 (fun _ => ⟨fun _ => ?_, fun e => absurd e (by decide)⟩) (fun no => absurd ⟨q, hq, rfl⟩ no))
  show (m 2 11 < 30 → _) ∧ (¬ m 2 11 < 30 → _)
  rw [h.2.1.2.1]
  refine ⟨fun _ => ?_, fun nlt => absurd ((nI_lt30 (by omega)).mpr hn) nlt⟩
  refine add_one (k := -2) (ga := p2) (gb := p3) (gc := p4) h hn hw (Or.inr h2) (Or.inr h3) h4 rfl (fun x _ => Iff.rfl) (Or.inr (Or.inl ⟨rfl, rfl, rfl, rfl⟩)) ?_ ⟨q, hq, rfl⟩ fun m1 m2 e2 i2 => ⟨rfl, m2, e2, i2⟩
  unfold WFl
  rw [ga48, ga49, ga50, ga51, ga52, ga53, if_pos rfl, if_pos rfl, if_pos rfl, if_pos rfl, if_pos rfl, if_pos rfl]
  exact ⟨⟨w, hw, rfl⟩, Or.inr (Or.inl ⟨rfl, h2, h3, h4⟩)⟩
theorem k_gate {k q : Nat} {p3 p4 p5 : Int32} (h : Iv j m g n) (hd : 7 ≤ d) (hn : n < 30) (hk : k < 8) (hw : w < 24) (h3 : isW p3) (h4 : if k < 2 then p4 = -1 else isW p4) (h5 : if k < 7 then p5 = -1 else isW p5) (hq : q ≤ 20) :
    AM mX4_gate d [.ref 1, .int (nI k), .int (nI w), .int p3, .int p4, .int p5, .int (nI q)] (layC m) 47 6 36 (CE (AD j n (gadd g n (nI k) (nI w) p3 p4 p5 (nI q)))) := by
  refine CE_th (c_N_gate (Or.inl rfl) hd ?_)
  have kd : KD (nI k) (nI q) := ⟨⟨k, hk, rfl⟩, ⟨q, hq, rfl⟩⟩
  have h2k : nI k < 2 ↔ k < 2 := nI_ltI (b := 2) (by omega) (by decide)
  have h7k : nI k = 7 ↔ k = 7 := nI_eq (b := 7) (by omega) (by decide)
  have W : GW (nI k) (nI w) p3 p4 p5 := ⟨⟨w, hw, rfl⟩, h3, fun ne => by rw [if_neg (fun q => ne (h2k.mpr q))] at h4; exact h4, fun e => by rw [if_neg (by have := h7k.mp e; omega)] at h5; exact h5⟩
  refine s_N_addGate h.2.1 (fun no => absurd kd no) (fun _ no => absurd W no) (fun _ _ no => absurd hn no) (fun _ _ _ => ?_)
  have hm1 : ∀ x : Nat, x < 24 → ¬ (-1 : Int32) = nI x := fun x hx e => nI_m1 (by omega) e.symm
  refine add_one (k := nI k) (ga := p3) (gb := p4) (gc := p5) h hn hw (Or.inr h3) ?_ ?_ rfl (fun x hx => ?_) (Or.inr (Or.inr ⟨k, hk, rfl, rfl, ?_, ?_⟩)) ?_ ⟨q, hq, rfl⟩ fun m1 m2 e2 i2 => ⟨rfl, m2, e2, i2⟩
  · by_cases hb : nI k < 2
    · rw [if_pos hb]; exact Or.inr h3
    · rw [if_neg hb]; exact Or.inr (W.2.2.1 hb)
  · by_cases hb : nI k = 7
    · rw [if_pos hb]; exact Or.inr (W.2.2.2 hb)
    · rw [if_neg hb]; exact Or.inr h3
  · by_cases hb : nI k < 2
    · have b4 : p4 = -1 := by rw [if_pos (h2k.mp hb)] at h4; exact h4
      have b5 : p5 = -1 := by rw [if_pos (by have := h2k.mp hb; omega)] at h5; exact h5
      rw [if_pos hb, if_neg (fun e => by have := h7k.mp e; have := h2k.mp hb; omega), b4, b5]
      exact ⟨fun q => Or.inl (q.elim id (fun q => q.elim id id)), fun q => q.elim Or.inl (fun q => q.elim (fun q => absurd q (hm1 x hx)) (fun q => absurd q (hm1 x hx)))⟩
    · by_cases hc : nI k = 7
      · rw [if_neg hb, if_pos hc]
      · have b5 : p5 = -1 := by rw [if_pos (by have : ¬ k = 7 := fun e => hc (h7k.mpr e); omega)] at h5; exact h5
        rw [if_neg hb, if_neg hc, b5]
        exact ⟨fun q => q.elim Or.inl (fun q => q.elim (fun q => Or.inr (Or.inl q)) Or.inl), fun q => q.elim Or.inl (fun q => q.elim (fun q => Or.inr (Or.inl q)) (fun q => absurd q (hm1 x hx)))⟩
  · by_cases hb : nI k < 2
    · rw [if_pos hb, if_neg (by have := h2k.mp hb; omega)]
    · rw [if_neg hb, if_pos (by by_cases q : 2 ≤ k; exact q; exact absurd (h2k.mpr (by omega)) hb)]
  · by_cases hb : nI k = 7
    · rw [if_pos hb, if_pos (h7k.mp hb)]
    · rw [if_neg hb, if_neg (fun q => hb (h7k.mpr q))]
  · unfold WFl
    rw [ga48, ga49, ga50, ga51, ga52, ga53, if_pos rfl, if_pos rfl, if_pos rfl, if_pos rfl, if_pos rfl, if_pos rfl]
    refine ⟨⟨w, hw, rfl⟩, Or.inr (Or.inr ⟨k, hk, rfl, h3, ?_, ?_⟩)⟩
    · by_cases hb : k < 2
      · rw [if_neg (by omega)]; rw [if_pos hb] at h4; exact h4
      · rw [if_pos (by omega)]; rw [if_neg hb] at h4; exact h4
    · by_cases hb : k = 7
      · rw [if_pos hb]; rw [if_neg (by omega)] at h5; exact h5
      · rw [if_neg hb]; rw [if_pos (by omega)] at h5; exact h5
end KADD
