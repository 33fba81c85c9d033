/-! the bench as it starts: values, what is pending -/
def wf (c w : Nat) : Option Nat := if w < 24 then some (c + w) else none
theorem wf_at {c w : Nat} (hw : w < 24) : wf c (nI w).toNatClampNeg = some (c + w) := by rw [nI_clamp (by omega), wf, if_pos hw]
/-- the wires' rows, with the values V -/
def WN (h : Hp) (c : Nat) (V : Nat → Int32) : Prop := h 49 = qrow 24 (wf c) ∧ ∀ w, w < 24 → ∃ r : Nat → Int32, h (c + w) = irow 4 r ∧ r 0 = V w
/-- what is pending: of line l what pm tells -/
def PP (h : Hp) (k pe n c : Nat) (pm : Nat → Int32) : Prop := ∃ (np : Nat) (f : Nat → Option Nat), h pe = qrow np f ∧ np = cntB (fun l => decide (¬ pm l = -1)) n ∧
  (∀ i, i < np → ∃ (y : Nat) (r : Nat → Int32) (l : Nat), f i = some y ∧ (c + 24 ≤ y ∧ y < k) ∧ h y = irow 3 r ∧ l < n ∧ r 1 = nI l ∧ r 2 = pm l ∧ ¬ pm l = -1) ∧
  (∀ l, l < n → ¬ pm l = -1 → ∃ (i y : Nat) (r : Nat → Int32), i < np ∧ f i = some y ∧ h y = irow 3 r ∧ r 1 = nI l)
def wkb (T : Nat → Nat → Int32) (V : Nat → Int32) (l : Nat) : Int32 := S_work (T l 0) (V (cl (T l 2))) (if T l 3 < 0 then 2 else V (cl (T l 3))) (if T l 4 < 0 then 2 else V (cl (T l 4)))
theorem cntB_set {pm : Nat → Int32} {l : Nat} {v : Int32} (h1 : pm l = -1) (h2 : ¬ v = -1) : ∀ n, cntB (fun j => decide (¬ upd pm l v j = -1)) n = cntB (fun j => decide (¬ pm j = -1)) n + (if l < n then 1 else 0)
  | 0 => rfl
  | n + 1 => by
    unfold cntB
    rw [cntB_set h1 h2 n]
    by_cases e : n = l
    · subst e
      simp [upd_same, h1, h2]
    · rw [upd_ne (by omega)]
      have hl : (l < n) = (l < n + 1) := propext ⟨fun _ => by omega, fun _ => by omega⟩
      simp only [hl]
      omega
abbrev mX5_reckon : Mt := (yX5_reckon, cX5_reckon, 7, (some .int), [])
set_option maxRecDepth 20000 in
theorem ok_X5_reckon : aw_mok mX5_reckon 1 := ⟨rfl, tw_836, tw_1, ⟨by decide, by decide⟩, by decide +kernel, by decide⟩
abbrev mX5_pendingOf : Mt := (yX5_pendingOf, cX5_pendingOf, 6, (some .int), [])
set_option maxRecDepth 20000 in
theorem ok_X5_pendingOf : aw_mok mX5_pendingOf 1 := ⟨rfl, tw_844, tw_1, ⟨by decide, by decide⟩, by decide +kernel, by decide⟩
abbrev mX5_with : Mt := (yX5_with, cX5_with, 4, (some (.array (.array .int))), [])
set_option maxRecDepth 20000 in
theorem ok_X5_with : aw_mok mX5_with 3 := ⟨rfl, tw_858, tw_1, ⟨by decide, by decide⟩, by decide +kernel, by decide⟩
abbrev mX5_pend : Mt := (yX5_pend, cX5_pend, 5, none, [])
set_option maxRecDepth 20000 in
theorem ok_X5_pend : aw_mok mX5_pend 2 := ⟨rfl, tw_855, tw_1, ⟨by decide, by decide⟩, by decide +kernel, by decide⟩
set_option maxRecDepth 100000 in
set_option maxHeartbeats 4000000 in
theorem c_B_value {h : Hp} {x : Nat → Int32} {pe hz n c w : Nat} {T : Nat → Nat → Int32} {V : Nat → Int32} {d k : Nat} (hB : BN h x 49 pe hz n T) (hW : WN h c V) (hc : 0 < c) (hw : w < 24) : AM mX5_value d [.ref 1, .int (nI w)] h k 0 0 (RO h k (.int (V w))) := by
  refine AM.intro (n := 0) (by decide) rfl rfl rfl ?_
  refine AW.aload_n (pc := 0) dX5_value_0 rfl rfl ?_
  refine AW.get (pc := 1) (i := 1) (ci := 5) (f := 10) (N := 14) (C := RX5) (T := TX5) dX5_value_1 tw_661 rfl (by decide) rfl (by decide) (hB.1) rfl ?_
  obtain ⟨r, hr, e0⟩ := hW.2 w hw
  refine AW.iload_n (pc := 4) dX5_value_4 rfl rfl ?_
  refine AW.aald (pc := 5) (n := 24) (f := wf c) (j := c + w) dX5_value_5 (by decide) (hW.1) (vp_in_nI hw (by decide)) (wf_at hw) ?_
  refine AW.iconst (v := 0) (pc := 6) dX5_value_6 (by decide) ?_
  refine AW.iald2 (pc := 7) (n := 4) (g := r) (j := 0) dX5_value_7 (by omega) (hr) (vp_lit (by decide)) (by decide) ?_
  exact AW.iret (pc := 8) dX5_value_8 rfl rfl (by omega) (by omega) (⟨by rw [e0], rfl, rfl⟩)
set_option maxRecDepth 100000 in
set_option maxHeartbeats 4000000 in
theorem c_B_reckon {h : Hp} {x : Nat → Int32} {pe hz n c : Nat} {T : Nat → Nat → Int32} {V pm : Nat → Int32} {d k : Nat} {l q : Nat} (hd : 2 ≤ d) (hT : gT T n) (hB : BN h x 49 pe hz n T) (hW : WN h c V) (hc : 0 < c) (hl : l < n) (hq : q < 8) (hk : T l 0 = nI q) (ha : ¬ T l 2 = -1) (hV : ∀ w, w < 24 → isV (V w)) : AM mX5_reckon d [.ref 1, .int (nI l)] h k 0 0 (RO h k (.int (wkb T V l))) := by
  refine AM.intro (n := 5) (by decide) rfl rfl rfl ?_
  have hn := hB.2.1.2
  have k128 : ∀ A B C : Int32, isV A → isV B → isV C → S_work (nI q) A B C = wkb T V l → AW aw_Z0 mX5_reckon d k 0 0 (RO h k (.int (wkb T V l)))  128 [.ref 1, .int (nI l), .int A, .int B, .int C, .int (S_and A B), .int (S_not (S_and (S_not A) (S_not B)))] [] h k 0 0 := by
    intro A B C hA hB3 hC hres
    refine AW.aload_n (pc := 128) dX5_reckon_128 rfl rfl ?_
    refine AW.get (pc := 129) (i := 1) (ci := 5) (f := 4) (N := 14) (C := RX5) (T := TX5) dX5_reckon_129 tw_654 rfl (by decide) rfl (by decide) (hB.1) rfl ?_
    refine AW.iload_n (pc := 132) dX5_reckon_132 rfl rfl ?_
    refine AW.aald (pc := 133) (n := 30) (f := lnf n) (j := 79 + l) dX5_reckon_133 (by decide) (hB.2.2.1) (vp_in_nI (by omega) (by decide)) (lnf_at hl (by omega) rfl) ?_
    refine AW.iconst (v := 0) (pc := 134) dX5_reckon_134 (by decide) ?_
    refine AW.iald2 (pc := 135) (n := 8) (g := T l) (j := 0) dX5_reckon_135 (by omega) (hB.2.2.2 l hl) (vp_lit (by decide)) (by decide) ?_
    rw [hk]
    have h8 : q = 0 ∨ q = 1 ∨ q = 2 ∨ q = 3 ∨ q = 4 ∨ q = 5 ∨ q = 6 ∨ q = 7 := by omega
    rcases h8 with rfl | rfl | rfl | rfl | rfl | rfl | rfl | rfl
    · refine AW.tableIn (pc := 136) (tgt := 180) dX5_reckon_136 (by decide) (by decide) (off := 44) (by decide) (by decide) ?_
      refine AW.iload_n (pc := 180) dX5_reckon_180 rfl rfl ?_
      refine AW.iconst (v := 2) (pc := 181) dX5_reckon_181 (by decide) ?_
      refine AW.icmp_ne (pc := 182) (tgt := 189) dX5_reckon_182 (by decide) (fun c0 => ?_) (fun c0 => ?_)
      · refine AW.iconst (v := 1) (pc := 189) dX5_reckon_189 (by decide) ?_
        refine AW.iload_n (pc := 190) dX5_reckon_190 rfl rfl ?_
        refine AW.isub (pc := 191) dX5_reckon_191 ?_
        exact AW.iret (pc := 192) dX5_reckon_192 rfl rfl (by omega) (by omega) (⟨by rw [← hres]; exact congrArg (fun v : Int32 => (Sum.inl (some (Value.int v)) : Out)) (by rcases hA with rfl | rfl | rfl <;> rcases hB3 with rfl | rfl | rfl <;> rcases hC with rfl | rfl | rfl <;> (clear hres; revert c0; decide +kernel)), rfl, rfl⟩)
      · refine AW.iconst (v := 2) (pc := 185) dX5_reckon_185 (by decide) ?_
        refine AW.goto (pc := 186) (tgt := 192) dX5_reckon_186 (by decide) ?_
        exact AW.iret (pc := 192) dX5_reckon_192 rfl rfl (by omega) (by omega) (⟨by rw [← hres]; exact congrArg (fun v : Int32 => (Sum.inl (some (Value.int v)) : Out)) (by rcases hA with rfl | rfl | rfl <;> rcases hB3 with rfl | rfl | rfl <;> rcases hC with rfl | rfl | rfl <;> (clear hres; revert c0; decide +kernel)), rfl, rfl⟩)
    · refine AW.tableIn (pc := 136) (tgt := 193) dX5_reckon_136 (by decide) (by decide) (off := 57) (by decide) (by decide) ?_
      refine AW.iload_n (pc := 193) dX5_reckon_193 rfl rfl ?_
      exact AW.iret (pc := 194) dX5_reckon_194 rfl rfl (by omega) (by omega) (⟨by rw [← hres]; exact congrArg (fun v : Int32 => (Sum.inl (some (Value.int v)) : Out)) (by rcases hA with rfl | rfl | rfl <;> rcases hB3 with rfl | rfl | rfl <;> rcases hC with rfl | rfl | rfl <;> (clear hres; decide +kernel)), rfl, rfl⟩)
    · refine AW.tableIn (pc := 136) (tgt := 195) dX5_reckon_136 (by decide) (by decide) (off := 59) (by decide) (by decide) ?_
      refine AW.iload (pc := 195) dX5_reckon_195 rfl ?_
      exact AW.iret (pc := 197) dX5_reckon_197 rfl rfl (by omega) (by omega) (⟨by rw [← hres]; exact congrArg (fun v : Int32 => (Sum.inl (some (Value.int v)) : Out)) (by rcases hA with rfl | rfl | rfl <;> rcases hB3 with rfl | rfl | rfl <;> rcases hC with rfl | rfl | rfl <;> (clear hres; decide +kernel)), rfl, rfl⟩)
    · refine AW.tableIn (pc := 136) (tgt := 198) dX5_reckon_136 (by decide) (by decide) (off := 62) (by decide) (by decide) ?_
      refine AW.iload (pc := 198) dX5_reckon_198 rfl ?_
      exact AW.iret (pc := 200) dX5_reckon_200 rfl rfl (by omega) (by omega) (⟨by rw [← hres]; exact congrArg (fun v : Int32 => (Sum.inl (some (Value.int v)) : Out)) (by rcases hA with rfl | rfl | rfl <;> rcases hB3 with rfl | rfl | rfl <;> rcases hC with rfl | rfl | rfl <;> (clear hres; decide +kernel)), rfl, rfl⟩)
    · refine AW.tableIn (pc := 136) (tgt := 201) dX5_reckon_136 (by decide) (by decide) (off := 65) (by decide) (by decide) ?_
      refine AW.iload_n (pc := 201) dX5_reckon_201 rfl rfl ?_
      refine AW.iconst (v := 2) (pc := 202) dX5_reckon_202 (by decide) ?_
      refine AW.icmp_eq (pc := 203) (tgt := 211) dX5_reckon_203 (by decide) (fun c0 => ?_) (fun c0 => ?_)
      · refine AW.iconst (v := 2) (pc := 211) dX5_reckon_211 (by decide) ?_
        refine AW.goto (pc := 212) (tgt := 227) dX5_reckon_212 (by decide) ?_
        exact AW.iret (pc := 227) dX5_reckon_227 rfl rfl (by omega) (by omega) (⟨by rw [← hres]; exact congrArg (fun v : Int32 => (Sum.inl (some (Value.int v)) : Out)) (by rcases hA with rfl | rfl | rfl <;> rcases hB3 with rfl | rfl | rfl <;> rcases hC with rfl | rfl | rfl <;> (clear hres; revert c0; decide +kernel)), rfl, rfl⟩)
      · refine AW.iload_n (pc := 206) dX5_reckon_206 rfl rfl ?_
        refine AW.iconst (v := 2) (pc := 207) dX5_reckon_207 (by decide) ?_
        refine AW.icmp_ne (pc := 208) (tgt := 215) dX5_reckon_208 (by decide) (fun c1 => ?_) (fun c1 => ?_)
        · refine AW.iload_n (pc := 215) dX5_reckon_215 rfl rfl ?_
          refine AW.iload_n (pc := 216) dX5_reckon_216 rfl rfl ?_
          refine AW.iadd (pc := 217) dX5_reckon_217 ?_
          refine AW.iconst (v := 1) (pc := 218) dX5_reckon_218 (by decide) ?_
          refine AW.icmp_ne (pc := 219) (tgt := 226) dX5_reckon_219 (by decide) (fun c2 => ?_) (fun c2 => ?_)
          · refine AW.iconst (v := 0) (pc := 226) dX5_reckon_226 (by decide) ?_
            exact AW.iret (pc := 227) dX5_reckon_227 rfl rfl (by omega) (by omega) (⟨by rw [← hres]; exact congrArg (fun v : Int32 => (Sum.inl (some (Value.int v)) : Out)) (by rcases hA with rfl | rfl | rfl <;> rcases hB3 with rfl | rfl | rfl <;> rcases hC with rfl | rfl | rfl <;> (clear hres; revert c0 c1 c2; decide +kernel)), rfl, rfl⟩)
          · refine AW.iconst (v := 1) (pc := 222) dX5_reckon_222 (by decide) ?_
            refine AW.goto (pc := 223) (tgt := 227) dX5_reckon_223 (by decide) ?_
            exact AW.iret (pc := 227) dX5_reckon_227 rfl rfl (by omega) (by omega) (⟨by rw [← hres]; exact congrArg (fun v : Int32 => (Sum.inl (some (Value.int v)) : Out)) (by rcases hA with rfl | rfl | rfl <;> rcases hB3 with rfl | rfl | rfl <;> rcases hC with rfl | rfl | rfl <;> (clear hres; revert c0 c1 c2; decide +kernel)), rfl, rfl⟩)
        · refine AW.iconst (v := 2) (pc := 211) dX5_reckon_211 (by decide) ?_
          refine AW.goto (pc := 212) (tgt := 227) dX5_reckon_212 (by decide) ?_
          exact AW.iret (pc := 227) dX5_reckon_227 rfl rfl (by omega) (by omega) (⟨by rw [← hres]; exact congrArg (fun v : Int32 => (Sum.inl (some (Value.int v)) : Out)) (by rcases hA with rfl | rfl | rfl <;> rcases hB3 with rfl | rfl | rfl <;> rcases hC with rfl | rfl | rfl <;> (clear hres; revert c0 c1; decide +kernel)), rfl, rfl⟩)
    · refine AW.tableIn (pc := 136) (tgt := 228) dX5_reckon_136 (by decide) (by decide) (off := 92) (by decide) (by decide) ?_
      refine AW.iload (pc := 228) dX5_reckon_228 rfl ?_
      refine AW.iconst (v := 2) (pc := 230) dX5_reckon_230 (by decide) ?_
      refine AW.icmp_ne (pc := 231) (tgt := 238) dX5_reckon_231 (by decide) (fun c0 => ?_) (fun c0 => ?_)
      · refine AW.iconst (v := 1) (pc := 238) dX5_reckon_238 (by decide) ?_
        refine AW.iload (pc := 239) dX5_reckon_239 rfl ?_
        refine AW.isub (pc := 241) dX5_reckon_241 ?_
        exact AW.iret (pc := 242) dX5_reckon_242 rfl rfl (by omega) (by omega) (⟨by rw [← hres]; exact congrArg (fun v : Int32 => (Sum.inl (some (Value.int v)) : Out)) (by rcases hA with rfl | rfl | rfl <;> rcases hB3 with rfl | rfl | rfl <;> rcases hC with rfl | rfl | rfl <;> (clear hres; revert c0; decide +kernel)), rfl, rfl⟩)
      · refine AW.iconst (v := 2) (pc := 234) dX5_reckon_234 (by decide) ?_
        refine AW.goto (pc := 235) (tgt := 242) dX5_reckon_235 (by decide) ?_
        exact AW.iret (pc := 242) dX5_reckon_242 rfl rfl (by omega) (by omega) (⟨by rw [← hres]; exact congrArg (fun v : Int32 => (Sum.inl (some (Value.int v)) : Out)) (by rcases hA with rfl | rfl | rfl <;> rcases hB3 with rfl | rfl | rfl <;> rcases hC with rfl | rfl | rfl <;> (clear hres; revert c0; decide +kernel)), rfl, rfl⟩)
    · refine AW.tableIn (pc := 136) (tgt := 243) dX5_reckon_136 (by decide) (by decide) (off := 107) (by decide) (by decide) ?_
      refine AW.iload (pc := 243) dX5_reckon_243 rfl ?_
      refine AW.iconst (v := 2) (pc := 245) dX5_reckon_245 (by decide) ?_
      refine AW.icmp_ne (pc := 246) (tgt := 253) dX5_reckon_246 (by decide) (fun c0 => ?_) (fun c0 => ?_)
      · refine AW.iconst (v := 1) (pc := 253) dX5_reckon_253 (by decide) ?_
        refine AW.iload (pc := 254) dX5_reckon_254 rfl ?_
        refine AW.isub (pc := 256) dX5_reckon_256 ?_
        exact AW.iret (pc := 257) dX5_reckon_257 rfl rfl (by omega) (by omega) (⟨by rw [← hres]; exact congrArg (fun v : Int32 => (Sum.inl (some (Value.int v)) : Out)) (by rcases hA with rfl | rfl | rfl <;> rcases hB3 with rfl | rfl | rfl <;> rcases hC with rfl | rfl | rfl <;> (clear hres; revert c0; decide +kernel)), rfl, rfl⟩)
      · refine AW.iconst (v := 2) (pc := 249) dX5_reckon_249 (by decide) ?_
        refine AW.goto (pc := 250) (tgt := 257) dX5_reckon_250 (by decide) ?_
        exact AW.iret (pc := 257) dX5_reckon_257 rfl rfl (by omega) (by omega) (⟨by rw [← hres]; exact congrArg (fun v : Int32 => (Sum.inl (some (Value.int v)) : Out)) (by rcases hA with rfl | rfl | rfl <;> rcases hB3 with rfl | rfl | rfl <;> rcases hC with rfl | rfl | rfl <;> (clear hres; revert c0; decide +kernel)), rfl, rfl⟩)
    · refine AW.tableOut (pc := 136) (tgt := 258) dX5_reckon_136 (by decide) (by decide) ?_
      refine AW.iload_n (pc := 258) dX5_reckon_258 rfl rfl ?_
      refine AW.iconst (v := 1) (pc := 259) dX5_reckon_259 (by decide) ?_
      refine AW.icmp_ne (pc := 260) (tgt := 267) dX5_reckon_260 (by decide) (fun c0 => ?_) (fun c0 => ?_)
      · refine AW.iload_n (pc := 267) dX5_reckon_267 rfl rfl ?_
        refine AW.if_ne (pc := 268) (tgt := 276) dX5_reckon_268 (by decide) (fun c1 => ?_) (fun c1 => ?_)
        · refine AW.iload_n (pc := 276) dX5_reckon_276 rfl rfl ?_
          refine AW.iload (pc := 277) dX5_reckon_277 rfl ?_
          refine AW.icmp_ne (pc := 279) (tgt := 286) dX5_reckon_279 (by decide) (fun c2 => ?_) (fun c2 => ?_)
          · refine AW.iconst (v := 2) (pc := 286) dX5_reckon_286 (by decide) ?_
            exact AW.iret (pc := 287) dX5_reckon_287 rfl rfl (by omega) (by omega) (⟨by rw [← hres]; exact congrArg (fun v : Int32 => (Sum.inl (some (Value.int v)) : Out)) (by rcases hA with rfl | rfl | rfl <;> rcases hB3 with rfl | rfl | rfl <;> rcases hC with rfl | rfl | rfl <;> (clear hres; revert c0 c1 c2; decide +kernel)), rfl, rfl⟩)
          · refine AW.iload_n (pc := 282) dX5_reckon_282 rfl rfl ?_
            refine AW.goto (pc := 283) (tgt := 287) dX5_reckon_283 (by decide) ?_
            exact AW.iret (pc := 287) dX5_reckon_287 rfl rfl (by omega) (by omega) (⟨by rw [← hres]; exact congrArg (fun v : Int32 => (Sum.inl (some (Value.int v)) : Out)) (by rcases hA with rfl | rfl | rfl <;> rcases hB3 with rfl | rfl | rfl <;> rcases hC with rfl | rfl | rfl <;> (clear hres; revert c0 c1 c2; decide +kernel)), rfl, rfl⟩)
        · refine AW.iload (pc := 271) dX5_reckon_271 rfl ?_
          refine AW.goto (pc := 273) (tgt := 287) dX5_reckon_273 (by decide) ?_
          exact AW.iret (pc := 287) dX5_reckon_287 rfl rfl (by omega) (by omega) (⟨by rw [← hres]; exact congrArg (fun v : Int32 => (Sum.inl (some (Value.int v)) : Out)) (by rcases hA with rfl | rfl | rfl <;> rcases hB3 with rfl | rfl | rfl <;> rcases hC with rfl | rfl | rfl <;> (clear hres; revert c0 c1; decide +kernel)), rfl, rfl⟩)
      · refine AW.iload_n (pc := 263) dX5_reckon_263 rfl rfl ?_
        refine AW.goto (pc := 264) (tgt := 287) dX5_reckon_264 (by decide) ?_
        exact AW.iret (pc := 287) dX5_reckon_287 rfl rfl (by omega) (by omega) (⟨by rw [← hres]; exact congrArg (fun v : Int32 => (Sum.inl (some (Value.int v)) : Out)) (by rcases hA with rfl | rfl | rfl <;> rcases hB3 with rfl | rfl | rfl <;> rcases hC with rfl | rfl | rfl <;> (clear hres; revert c0; decide +kernel)), rfl, rfl⟩)
  have k99 : ∀ A B C : Int32, isV A → isV B → isV C → S_work (nI q) A B C = wkb T V l → AW aw_Z0 mX5_reckon d k 0 0 (RO h k (.int (wkb T V l)))  99 [.ref 1, .int (nI l), .int A, .int B, .int C, .int (S_and A B), .null] [] h k 0 0 := by
    intro A B C hA hB3 hC hres
    refine AW.iload_n (pc := 99) dX5_reckon_99 rfl rfl ?_
    refine AW.iconst (v := 1) (pc := 100) dX5_reckon_100 (by decide) ?_
    refine AW.icmp_eq (pc := 101) (tgt := 109) dX5_reckon_101 (by decide) (fun c0 => ?_) (fun c0 => ?_)
    · refine AW.iconst (v := 1) (pc := 109) dX5_reckon_109 (by decide) ?_
      refine AW.goto (pc := 110) (tgt := 126) dX5_reckon_110 (by decide) ?_
      rw [show (1 : Int32) = S_not (S_and (S_not A) (S_not B)) from by rcases hA with rfl | rfl | rfl <;> rcases hB3 with rfl | rfl | rfl <;> (clear hres; revert c0; decide +kernel)]
      refine AW.istore (L' := [.ref 1, .int (nI l), .int A, .int B, .int C, .int (S_and A B), .int (S_not (S_and (S_not A) (S_not B)))]) (pc := 126) dX5_reckon_126 (by decide) rfl rfl ?_
      exact k128 A B C hA hB3 hC hres
    · refine AW.iload_n (pc := 104) dX5_reckon_104 rfl rfl ?_
      refine AW.iconst (v := 1) (pc := 105) dX5_reckon_105 (by decide) ?_
      refine AW.icmp_ne (pc := 106) (tgt := 113) dX5_reckon_106 (by decide) (fun c1 => ?_) (fun c1 => ?_)
      · refine AW.iload_n (pc := 113) dX5_reckon_113 rfl rfl ?_
        refine AW.if_ne (pc := 114) (tgt := 125) dX5_reckon_114 (by decide) (fun c2 => ?_) (fun c2 => ?_)
        · refine AW.iconst (v := 2) (pc := 125) dX5_reckon_125 (by decide) ?_
          rw [show (2 : Int32) = S_not (S_and (S_not A) (S_not B)) from by rcases hA with rfl | rfl | rfl <;> rcases hB3 with rfl | rfl | rfl <;> (clear hres; revert c0 c1 c2; decide +kernel)]
          refine AW.istore (L' := [.ref 1, .int (nI l), .int A, .int B, .int C, .int (S_and A B), .int (S_not (S_and (S_not A) (S_not B)))]) (pc := 126) dX5_reckon_126 (by decide) rfl rfl ?_
          exact k128 A B C hA hB3 hC hres
        · refine AW.iload_n (pc := 117) dX5_reckon_117 rfl rfl ?_
          refine AW.if_ne (pc := 118) (tgt := 125) dX5_reckon_118 (by decide) (fun c3 => ?_) (fun c3 => ?_)
          · refine AW.iconst (v := 2) (pc := 125) dX5_reckon_125 (by decide) ?_
            rw [show (2 : Int32) = S_not (S_and (S_not A) (S_not B)) from by rcases hA with rfl | rfl | rfl <;> rcases hB3 with rfl | rfl | rfl <;> (clear hres; revert c0 c1 c2 c3; decide +kernel)]
            refine AW.istore (L' := [.ref 1, .int (nI l), .int A, .int B, .int C, .int (S_and A B), .int (S_not (S_and (S_not A) (S_not B)))]) (pc := 126) dX5_reckon_126 (by decide) rfl rfl ?_
            exact k128 A B C hA hB3 hC hres
          · refine AW.iconst (v := 0) (pc := 121) dX5_reckon_121 (by decide) ?_
            refine AW.goto (pc := 122) (tgt := 126) dX5_reckon_122 (by decide) ?_
            rw [show (0 : Int32) = S_not (S_and (S_not A) (S_not B)) from by rcases hA with rfl | rfl | rfl <;> rcases hB3 with rfl | rfl | rfl <;> (clear hres; revert c0 c1 c2 c3; decide +kernel)]
            refine AW.istore (L' := [.ref 1, .int (nI l), .int A, .int B, .int C, .int (S_and A B), .int (S_not (S_and (S_not A) (S_not B)))]) (pc := 126) dX5_reckon_126 (by decide) rfl rfl ?_
            exact k128 A B C hA hB3 hC hres
      · refine AW.iconst (v := 1) (pc := 109) dX5_reckon_109 (by decide) ?_
        refine AW.goto (pc := 110) (tgt := 126) dX5_reckon_110 (by decide) ?_
        rw [show (1 : Int32) = S_not (S_and (S_not A) (S_not B)) from by rcases hA with rfl | rfl | rfl <;> rcases hB3 with rfl | rfl | rfl <;> (clear hres; revert c0 c1; decide +kernel)]
        refine AW.istore (L' := [.ref 1, .int (nI l), .int A, .int B, .int C, .int (S_and A B), .int (S_not (S_and (S_not A) (S_not B)))]) (pc := 126) dX5_reckon_126 (by decide) rfl rfl ?_
        exact k128 A B C hA hB3 hC hres
  have k70 : ∀ A B C : Int32, isV A → isV B → isV C → S_work (nI q) A B C = wkb T V l → AW aw_Z0 mX5_reckon d k 0 0 (RO h k (.int (wkb T V l)))  70 [.ref 1, .int (nI l), .int A, .int B, .int C, .null, .null] [] h k 0 0 := by
    intro A B C hA hB3 hC hres
    refine AW.iload_n (pc := 70) dX5_reckon_70 rfl rfl ?_
    refine AW.if_eq (pc := 71) (tgt := 78) dX5_reckon_71 (by decide) (fun c0 => ?_) (fun c0 => ?_)
    · refine AW.iconst (v := 0) (pc := 78) dX5_reckon_78 (by decide) ?_
      refine AW.goto (pc := 79) (tgt := 97) dX5_reckon_79 (by decide) ?_
      rw [show (0 : Int32) = S_and A B from by rcases hA with rfl | rfl | rfl <;> rcases hB3 with rfl | rfl | rfl <;> (clear hres; revert c0; decide +kernel)]
      refine AW.istore (L' := [.ref 1, .int (nI l), .int A, .int B, .int C, .int (S_and A B), .null]) (pc := 97) dX5_reckon_97 (by decide) rfl rfl ?_
      exact k99 A B C hA hB3 hC hres
    · refine AW.iload_n (pc := 74) dX5_reckon_74 rfl rfl ?_
      refine AW.if_ne (pc := 75) (tgt := 82) dX5_reckon_75 (by decide) (fun c1 => ?_) (fun c1 => ?_)
      · refine AW.iload_n (pc := 82) dX5_reckon_82 rfl rfl ?_
        refine AW.iconst (v := 1) (pc := 83) dX5_reckon_83 (by decide) ?_
        refine AW.icmp_ne (pc := 84) (tgt := 96) dX5_reckon_84 (by decide) (fun c2 => ?_) (fun c2 => ?_)
        · refine AW.iconst (v := 2) (pc := 96) dX5_reckon_96 (by decide) ?_
          rw [show (2 : Int32) = S_and A B from by rcases hA with rfl | rfl | rfl <;> rcases hB3 with rfl | rfl | rfl <;> (clear hres; revert c0 c1 c2; decide +kernel)]
          refine AW.istore (L' := [.ref 1, .int (nI l), .int A, .int B, .int C, .int (S_and A B), .null]) (pc := 97) dX5_reckon_97 (by decide) rfl rfl ?_
          exact k99 A B C hA hB3 hC hres
        · refine AW.iload_n (pc := 87) dX5_reckon_87 rfl rfl ?_
          refine AW.iconst (v := 1) (pc := 88) dX5_reckon_88 (by decide) ?_
          refine AW.icmp_ne (pc := 89) (tgt := 96) dX5_reckon_89 (by decide) (fun c3 => ?_) (fun c3 => ?_)
          · refine AW.iconst (v := 2) (pc := 96) dX5_reckon_96 (by decide) ?_
            rw [show (2 : Int32) = S_and A B from by rcases hA with rfl | rfl | rfl <;> rcases hB3 with rfl | rfl | rfl <;> (clear hres; revert c0 c1 c2 c3; decide +kernel)]
            refine AW.istore (L' := [.ref 1, .int (nI l), .int A, .int B, .int C, .int (S_and A B), .null]) (pc := 97) dX5_reckon_97 (by decide) rfl rfl ?_
            exact k99 A B C hA hB3 hC hres
          · refine AW.iconst (v := 1) (pc := 92) dX5_reckon_92 (by decide) ?_
            refine AW.goto (pc := 93) (tgt := 97) dX5_reckon_93 (by decide) ?_
            rw [show (1 : Int32) = S_and A B from by rcases hA with rfl | rfl | rfl <;> rcases hB3 with rfl | rfl | rfl <;> (clear hres; revert c0 c1 c2 c3; decide +kernel)]
            refine AW.istore (L' := [.ref 1, .int (nI l), .int A, .int B, .int C, .int (S_and A B), .null]) (pc := 97) dX5_reckon_97 (by decide) rfl rfl ?_
            exact k99 A B C hA hB3 hC hres
      · refine AW.iconst (v := 0) (pc := 78) dX5_reckon_78 (by decide) ?_
        refine AW.goto (pc := 79) (tgt := 97) dX5_reckon_79 (by decide) ?_
        rw [show (0 : Int32) = S_and A B from by rcases hA with rfl | rfl | rfl <;> rcases hB3 with rfl | rfl | rfl <;> (clear hres; revert c0 c1; decide +kernel)]
        refine AW.istore (L' := [.ref 1, .int (nI l), .int A, .int B, .int C, .int (S_and A B), .null]) (pc := 97) dX5_reckon_97 (by decide) rfl rfl ?_
        exact k99 A B C hA hB3 hC hres
  have k41 : ∀ A B : Int32, isV A → isV B → A = V (cl (T l 2)) → B = (if T l 3 < 0 then 2 else V (cl (T l 3))) → AW aw_Z0 mX5_reckon d k 0 0 (RO h k (.int (wkb T V l)))  41 [.ref 1, .int (nI l), .int A, .int B, .null, .null, .null] [] h k 0 0 := by
    intro A B hA hB3 eA eB
    refine AW.aload_n (pc := 41) dX5_reckon_41 rfl rfl ?_
    refine AW.get (pc := 42) (i := 1) (ci := 5) (f := 4) (N := 14) (C := RX5) (T := TX5) dX5_reckon_42 tw_654 rfl (by decide) rfl (by decide) (hB.1) rfl ?_
    refine AW.iload_n (pc := 45) dX5_reckon_45 rfl rfl ?_
    refine AW.aald (pc := 46) (n := 30) (f := lnf n) (j := 79 + l) dX5_reckon_46 (by decide) (hB.2.2.1) (vp_in_nI (by omega) (by decide)) (lnf_at hl (by omega) rfl) ?_
    refine AW.iconst (v := 4) (pc := 47) dX5_reckon_47 (by decide) ?_
    refine AW.iald2 (pc := 48) (n := 8) (g := T l) (j := 4) dX5_reckon_48 (by omega) (hB.2.2.2 l hl) (vp_lit (by decide)) (by decide) ?_
    rcases hT.pin hl (Or.inr (Or.inr rfl)) with hp | ⟨u, hu, hp⟩
    · refine AW.if_ge (pc := 49) (tgt := 56) dX5_reckon_49 (by decide) (fun c => absurd c (by rw [hp]; decide)) (fun _ => ?_)
      refine AW.iconst (v := 2) (pc := 52) dX5_reckon_52 (by decide) ?_
      refine AW.goto (pc := 53) (tgt := 68) dX5_reckon_53 (by decide) ?_
      refine AW.istore (L' := [.ref 1, .int (nI l), .int A, .int B, .int (2 : Int32), .null, .null]) (pc := 68) dX5_reckon_68 (by decide) rfl rfl ?_
      exact k70 A B 2 hA hB3 isV2 (by unfold wkb; rw [hk, ← eA, ← eB, hp]; rfl)
    · refine AW.if_ge (pc := 49) (tgt := 56) dX5_reckon_49 (by decide) (fun _ => ?_) (fun c => absurd (by rw [hp]; exact nI_pos' (by omega)) c)
      refine AW.aload_n (pc := 56) dX5_reckon_56 rfl rfl ?_
      refine AW.aload_n (pc := 57) dX5_reckon_57 rfl rfl ?_
      refine AW.get (pc := 58) (i := 1) (ci := 5) (f := 4) (N := 14) (C := RX5) (T := TX5) dX5_reckon_58 tw_654 rfl (by decide) rfl (by decide) (hB.1) rfl ?_
      refine AW.iload_n (pc := 61) dX5_reckon_61 rfl rfl ?_
      refine AW.aald (pc := 62) (n := 30) (f := lnf n) (j := 79 + l) dX5_reckon_62 (by decide) (hB.2.2.1) (vp_in_nI (by omega) (by decide)) (lnf_at hl (by omega) rfl) ?_
      refine AW.iconst (v := 4) (pc := 63) dX5_reckon_63 (by decide) ?_
      refine AW.iald2 (pc := 64) (n := 8) (g := T l) (j := 4) dX5_reckon_64 (by omega) (hB.2.2.2 l hl) (vp_lit (by decide)) (by decide) ?_
      rw [hp]
      refine AW.callV (pc := 65) (S' := []) dX5_reckon_65 (c_B_value (d := d - 1) hB hW hc (by omega)) ok_X5_value tw_838 tw_839 tw_837 (by decide) (hB.1) (show aw_cl[5]? = some _ from rfl) rfl rfl (by omega) rfl (Nat.le_of_ble_eq_true rfl) (by omega) (by omega) ?_ (fun E h' k' hq => by obtain ⟨hx9, -⟩ := hq; try cases hx9)
      intro v h' k' hq
      obtain ⟨hx9, rfl, rfl⟩ := hq
      cases hx9
      show AW _ _ _ _ _ _ _ 68 [.ref 1, .int (nI l), .int A, .int B, .null, .null, .null] [.int (V u)] h k 0 0
      refine AW.istore (L' := [.ref 1, .int (nI l), .int A, .int B, .int (V u), .null, .null]) (pc := 68) dX5_reckon_68 (by decide) rfl rfl ?_
      exact k70 A B _ hA hB3 (hV u (by omega)) (by unfold wkb; rw [hk, ← eA, ← eB, hp, if_neg (nI_pos (by omega)), cl_nI (by omega)])
  have k13 : ∀ A : Int32, isV A → A = V (cl (T l 2)) → AW aw_Z0 mX5_reckon d k 0 0 (RO h k (.int (wkb T V l)))  13 [.ref 1, .int (nI l), .int A, .null, .null, .null, .null] [] h k 0 0 := by
    intro A hA eA
    refine AW.aload_n (pc := 13) dX5_reckon_13 rfl rfl ?_
    refine AW.get (pc := 14) (i := 1) (ci := 5) (f := 4) (N := 14) (C := RX5) (T := TX5) dX5_reckon_14 tw_654 rfl (by decide) rfl (by decide) (hB.1) rfl ?_
    refine AW.iload_n (pc := 17) dX5_reckon_17 rfl rfl ?_
    refine AW.aald (pc := 18) (n := 30) (f := lnf n) (j := 79 + l) dX5_reckon_18 (by decide) (hB.2.2.1) (vp_in_nI (by omega) (by decide)) (lnf_at hl (by omega) rfl) ?_
    refine AW.iconst (v := 3) (pc := 19) dX5_reckon_19 (by decide) ?_
    refine AW.iald2 (pc := 20) (n := 8) (g := T l) (j := 3) dX5_reckon_20 (by omega) (hB.2.2.2 l hl) (vp_lit (by decide)) (by decide) ?_
    rcases hT.pin hl (Or.inr (Or.inl rfl)) with hp | ⟨u, hu, hp⟩
    · refine AW.if_ge (pc := 21) (tgt := 28) dX5_reckon_21 (by decide) (fun c => absurd c (by rw [hp]; decide)) (fun _ => ?_)
      refine AW.iconst (v := 2) (pc := 24) dX5_reckon_24 (by decide) ?_
      refine AW.goto (pc := 25) (tgt := 40) dX5_reckon_25 (by decide) ?_
      refine AW.istore_n (L' := [.ref 1, .int (nI l), .int A, .int (2 : Int32), .null, .null, .null]) (pc := 40) dX5_reckon_40 rfl (by decide) rfl rfl ?_
      exact k41 A 2 hA isV2 eA (by rw [hp]; rfl)
    · refine AW.if_ge (pc := 21) (tgt := 28) dX5_reckon_21 (by decide) (fun _ => ?_) (fun c => absurd (by rw [hp]; exact nI_pos' (by omega)) c)
      refine AW.aload_n (pc := 28) dX5_reckon_28 rfl rfl ?_
      refine AW.aload_n (pc := 29) dX5_reckon_29 rfl rfl ?_
      refine AW.get (pc := 30) (i := 1) (ci := 5) (f := 4) (N := 14) (C := RX5) (T := TX5) dX5_reckon_30 tw_654 rfl (by decide) rfl (by decide) (hB.1) rfl ?_
      refine AW.iload_n (pc := 33) dX5_reckon_33 rfl rfl ?_
      refine AW.aald (pc := 34) (n := 30) (f := lnf n) (j := 79 + l) dX5_reckon_34 (by decide) (hB.2.2.1) (vp_in_nI (by omega) (by decide)) (lnf_at hl (by omega) rfl) ?_
      refine AW.iconst (v := 3) (pc := 35) dX5_reckon_35 (by decide) ?_
      refine AW.iald2 (pc := 36) (n := 8) (g := T l) (j := 3) dX5_reckon_36 (by omega) (hB.2.2.2 l hl) (vp_lit (by decide)) (by decide) ?_
      rw [hp]
      refine AW.callV (pc := 37) (S' := []) dX5_reckon_37 (c_B_value (d := d - 1) hB hW hc (by omega)) ok_X5_value tw_838 tw_839 tw_837 (by decide) (hB.1) (show aw_cl[5]? = some _ from rfl) rfl rfl (by omega) rfl (Nat.le_of_ble_eq_true rfl) (by omega) (by omega) ?_ (fun E h' k' hq => by obtain ⟨hx9, -⟩ := hq; try cases hx9)
      intro v h' k' hq
      obtain ⟨hx9, rfl, rfl⟩ := hq
      cases hx9
      show AW _ _ _ _ _ _ _ 40 [.ref 1, .int (nI l), .int A, .null, .null, .null, .null] [.int (V u)] h k 0 0
      refine AW.istore_n (L' := [.ref 1, .int (nI l), .int A, .int (V u), .null, .null, .null]) (pc := 40) dX5_reckon_40 rfl (by decide) rfl rfl ?_
      exact k41 A _ hA (hV u (by omega)) eA (by rw [hp, if_neg (nI_pos (by omega)), cl_nI (by omega)])
  refine AW.aload_n (pc := 0) dX5_reckon_0 rfl rfl ?_
  refine AW.aload_n (pc := 1) dX5_reckon_1 rfl rfl ?_
  refine AW.get (pc := 2) (i := 1) (ci := 5) (f := 4) (N := 14) (C := RX5) (T := TX5) dX5_reckon_2 tw_654 rfl (by decide) rfl (by decide) (hB.1) rfl ?_
  refine AW.iload_n (pc := 5) dX5_reckon_5 rfl rfl ?_
  refine AW.aald (pc := 6) (n := 30) (f := lnf n) (j := 79 + l) dX5_reckon_6 (by decide) (hB.2.2.1) (vp_in_nI (by omega) (by decide)) (lnf_at hl (by omega) rfl) ?_
  refine AW.iconst (v := 2) (pc := 7) dX5_reckon_7 (by decide) ?_
  refine AW.iald2 (pc := 8) (n := 8) (g := T l) (j := 2) dX5_reckon_8 (by omega) (hB.2.2.2 l hl) (vp_lit (by decide)) (by decide) ?_
  obtain ⟨u, hu, hp⟩ := (hT.pin hl (Or.inl rfl)).resolve_left ha
  rw [hp]
  refine AW.callV (pc := 9) (S' := []) dX5_reckon_9 (c_B_value (d := d - 1) hB hW hc (by omega)) ok_X5_value tw_838 tw_839 tw_837 (by decide) (hB.1) (show aw_cl[5]? = some _ from rfl) rfl rfl (by omega) rfl (Nat.le_of_ble_eq_true rfl) (by omega) (by omega) ?_ (fun E h' k' hq => by obtain ⟨hx9, -⟩ := hq; try cases hx9)
  intro v h' k' hq
  obtain ⟨hx9, rfl, rfl⟩ := hq
  cases hx9
  show AW _ _ _ _ _ _ _ 12 [.ref 1, .int (nI l), .null, .null, .null, .null, .null] [.int (V u)] h k 0 0
  refine AW.istore_n (L' := [.ref 1, .int (nI l), .int (V u), .null, .null, .null, .null]) (pc := 12) dX5_reckon_12 rfl (by decide) rfl rfl ?_
  exact k13 _ (hV u (by omega)) (by rw [hp, cl_nI (by omega)])
set_option maxRecDepth 100000 in
set_option maxHeartbeats 4000000 in
theorem c_B_pendingOf {h : Hp} {x : Nat → Int32} {pe hz n c : Nat} {T : Nat → Nat → Int32} {V pm : Nat → Int32} {d k : Nat} {l : Nat} (hB : BN h x 49 pe hz n T) (hP : PP h k pe n c pm) (hpe0 : 0 < pe) (hl : l < n) : AM mX5_pendingOf d [.ref 1, .int (nI l)] h k 0 0 (RO h k (.int (pm l))) := by
  refine AM.intro (n := 4) (by decide) rfl rfl rfl ?_
  have hn := hB.2.1.2
  obtain ⟨np, f, hpe, hnp, hin, hcv⟩ := hP
  have hnp24 : np ≤ n := by rw [hnp]; exact cntB_le _ n
  have key : ∀ (r i : Nat) (y : Int32), i + r = np → y = nI i → (∀ a, a < i → ∀ b u, f a = some b → h b = irow 3 u → ¬ u 1 = nI l) → AW aw_Z0 mX5_pendingOf d k 0 0 (RO h k (.int (pm l))) 11 [.ref 1, .int (nI l), .ref pe, .int (Int32.ofNat np), .int y, .null] [] h k 0 0 := by
    intro r
    induction r with
    | zero =>
      intro i y hi hy hno
      have : i = np := by omega
      subst this
      subst hy
      refine AW.iload (pc := 11) dX5_pendingOf_11 rfl ?_
      refine AW.iload_n (pc := 13) dX5_pendingOf_13 rfl rfl ?_
      refine AW.icmp_ge (pc := 14) (tgt := 42) dX5_pendingOf_14 (by decide) (fun _ => ?_) (fun c => absurd (nI_le (Nat.le_refl _) (by omega)) c)
      refine AW.iconst (v := -1) (pc := 42) dX5_pendingOf_42 (by decide) ?_
      have hpm : pm l = -1 := Decidable.byContradiction fun hne => by obtain ⟨a, b, u, h1, h2, h3, h4⟩ := hcv l hl hne; exact hno a h1 b u h2 h3 h4
      exact AW.iret (pc := 43) dX5_pendingOf_43 rfl rfl (by omega) (by omega) (⟨by rw [hpm], rfl, rfl⟩)
    | succ r ih =>
      intro i y hi hy hno
      subst hy
      have hip : i < np := by omega
      obtain ⟨b, u, j, e1, e2, e3, e4, e5, e6, e7⟩ := hin i hip
      refine AW.iload (pc := 11) dX5_pendingOf_11 rfl ?_
      refine AW.iload_n (pc := 13) dX5_pendingOf_13 rfl rfl ?_
      refine AW.icmp_ge (pc := 14) (tgt := 42) dX5_pendingOf_14 (by decide) (fun c => absurd c (nI_ge hip (by omega))) (fun _ => ?_)
      refine AW.aload_n (pc := 17) dX5_pendingOf_17 rfl rfl ?_
      refine AW.iload (pc := 18) dX5_pendingOf_18 rfl ?_
      refine AW.aald (pc := 20) (n := np) (f := f) (j := b) dX5_pendingOf_20 (hpe0) (hpe) (vp_in_nI hip (by omega)) (by rw [nI_clamp (by omega)]; exact e1) ?_
      refine AW.astore (L' := [.ref 1, .int (nI l), .ref pe, .int (Int32.ofNat np), .int (nI i), .ref b]) (pc := 21) dX5_pendingOf_21 (by decide) rfl rfl ?_
      refine AW.aload (pc := 23) dX5_pendingOf_23 rfl ?_
      refine AW.iconst (v := 1) (pc := 25) dX5_pendingOf_25 (by decide) ?_
      refine AW.iald2 (pc := 26) (n := 3) (g := u) (j := 1) dX5_pendingOf_26 (by omega) (e3) (vp_lit (by decide)) (by decide) ?_
      refine AW.iload_n (pc := 27) dX5_pendingOf_27 rfl rfl ?_
      rw [e5]
      refine AW.icmp_ne (pc := 28) (tgt := 36) dX5_pendingOf_28 (by decide) (fun c => ?_) (fun c => ?_)
      · refine AW.iinc (v := ((nI i) + 1)) (L' := [.ref 1, .int (nI l), .ref pe, .int (Int32.ofNat np), .int ((nI i) + 1), .ref b]) (pc := 36) dX5_pendingOf_36 rfl rfl (by decide) rfl rfl ?_
        refine AW.goto (pc := 39) (tgt := 11) dX5_pendingOf_39 (by decide) ?_
        refine AW.locals (L' := [.ref 1, .int (nI l), .ref pe, .int (Int32.ofNat np), .int ((nI i) + 1), .null]) (aw_fewer_same (aw_fewer_same (aw_fewer_same (aw_fewer_same (aw_fewer_same (aw_fewer_null aw_fewer_nil)))))) ?_
        refine ih (i + 1) _ (by omega) (nI_1 i) fun a ha b2 u2 g1 g2 g3 => ?_
        by_cases q : a = i
        · subst q; cases e1.symm.trans g1; cases e3.symm.trans g2; exact c (e5.symm.trans g3)
        · exact hno a (by omega) b2 u2 g1 g2 g3
      · have hjl : j = l := (nI_eq (by omega) (by omega)).mp c
        refine AW.aload (pc := 31) dX5_pendingOf_31 rfl ?_
        refine AW.iconst (v := 2) (pc := 33) dX5_pendingOf_33 (by decide) ?_
        refine AW.iald2 (pc := 34) (n := 3) (g := u) (j := 2) dX5_pendingOf_34 (by omega) (e3) (vp_lit (by decide)) (by decide) ?_
        exact AW.iret (pc := 35) dX5_pendingOf_35 rfl rfl (by omega) (by omega) (⟨by rw [e6, hjl], rfl, rfl⟩)
  refine AW.aload_n (pc := 0) dX5_pendingOf_0 rfl rfl ?_
  refine AW.get (pc := 1) (i := 1) (ci := 5) (f := 11) (N := 14) (C := RX5) (T := TX5) dX5_pendingOf_1 tw_662 rfl (by decide) rfl (by decide) (hB.1) rfl ?_
  refine AW.astore_n (L' := [.ref 1, .int (nI l), .ref pe, .null, .null, .null]) (pc := 4) dX5_pendingOf_4 rfl (by decide) rfl rfl ?_
  refine AW.aload_n (pc := 5) dX5_pendingOf_5 rfl rfl ?_
  refine AW.alenq (pc := 6) (n := np) (f := f) dX5_pendingOf_6 hpe0 hpe ?_
  refine AW.istore_n (L' := [.ref 1, .int (nI l), .ref pe, .int (Int32.ofNat np), .null, .null]) (pc := 7) dX5_pendingOf_7 rfl (by decide) rfl rfl ?_
  refine AW.iconst (v := 0) (pc := 8) dX5_pendingOf_8 (by decide) ?_
  refine AW.istore (L' := [.ref 1, .int (nI l), .ref pe, .int (Int32.ofNat np), .int (0 : Int32), .null]) (pc := 9) dX5_pendingOf_9 (by decide) rfl rfl ?_
  exact key np 0 _ (by omega) rfl fun a ha => absurd ha (Nat.not_lt_zero a)
def wth (f : Nat → Option Nat) (p np y : Nat) : Nat → Option Nat := fun i => if i < p then f i else if i = p then some y else if i < np + 1 then f (i - 1) else none
theorem wth_eq {f : Nat → Option Nat} {p np y : Nat} (hp : p ≤ np) : va_cpy f (va_up (va_cpy f (fun _ => none) 0 0 p) p (some y)) p (p + 1) (np - p) = wth f p np y := by
  funext i
  simp only [va_cpy, va_up, wth]
  by_cases h1 : i < p
  · rw [if_neg (by omega), if_neg (by omega), if_pos (by omega), if_pos h1]
    congr 1; omega
  · by_cases h2 : i = p
    · rw [if_neg (by omega), if_pos h2, if_neg h1, if_pos h2]
    · by_cases h3 : i < np + 1
      · rw [if_pos (by omega), if_neg h1, if_neg h2, if_pos h3]
        congr 1; omega
      · rw [if_neg (by omega), if_neg h2, if_neg (by omega), if_neg h1, if_neg h2, if_neg h3]
theorem nI_sub {a b : Nat} (h : a ≤ b) (hb : b < 2 ^ 31) : nI b - nI a = nI (b - a) := by
  have e : b = (b - a) + a := by omega
  rw [show nI b = nI (b - a) + nI a by rw [nI_add, ← e]]
  exact Int32.add_sub_cancel _ _
set_option maxRecDepth 100000 in
set_option maxHeartbeats 4000000 in
theorem c_B_with {h : Hp} {f : Nat → Option Nat} {ry : Nat → Int32} {pe p np y d k : Nat} (hpe0 : 0 < pe ∧ pe < k) (hpe : h pe = qrow np f) (hp : p ≤ np) (hnp : np ≤ 30) (hy0 : 0 < y ∧ y < k) (hy : h y = irow 3 ry) (hel : ∀ i, i < np → ∀ z, f i = some z → 0 < z ∧ z < k ∧ ∃ r, h z = irow 3 r) : AM mX5_with d [.ref pe, .int (nI p), .ref y] h k 1 31 (fun oc h' k' => oc = .inl (some (.ref k)) ∧ h' = va_up h k (qrow (np + 1) (wth f p np y)) ∧ k + 1 = k') := by
  refine AM.intro (n := 1) (by decide) rfl rfl rfl ?_
  refine AW.aload_n (pc := 0) dX5_with_0 rfl rfl ?_
  refine AW.alenq (pc := 1) (n := np) (f := f) dX5_with_1 ((hpe0.1)) (hpe) ?_
  show AW _ _ _ _ _ _ _ 2 [.ref pe, .int (nI p), .ref y, .null] [.int (nI (np))] h k 0 0
  refine AW.iconst (v := 1) (pc := 2) dX5_with_2 (by decide) ?_
  refine AW.iadd (pc := 3) dX5_with_3 ?_
  rw [nI_1 np]
  refine AW.newq (pc := 4) (N := np + 1) dX5_with_4 tw_642 (nI_pos (by omega)) (nI_clamp (by omega)) (by omega) (by omega) (by omega) ?_
  show AW _ _ _ _ _ _ _ 7 [.ref pe, .int (nI p), .ref y, .null] [.ref k] (va_up h k (qrow (np + 1) (fun _ => none))) (k + 1) (0 + 1) (0 + (np + 1))
  refine AW.astore_n (L' := [.ref pe, .int (nI p), .ref y, .ref k]) (pc := 7) dX5_with_7 rfl (by decide) rfl rfl ?_
  refine AW.aload_n (pc := 8) dX5_with_8 rfl rfl ?_
  refine AW.iconst (v := 0) (pc := 9) dX5_with_9 (by decide) ?_
  refine AW.aload_n (pc := 10) dX5_with_10 rfl rfl ?_
  refine AW.iconst (v := 0) (pc := 11) dX5_with_11 (by decide) ?_
  refine AW.iload_n (pc := 12) dX5_with_12 rfl rfl ?_
  refine AW.copyq (pc := 13) (i := pe) (j := k) (n0 := np) (n1 := np + 1) (f := f) (g := fun _ => none) dX5_with_13 tw_820 tw_200 tw_199 tw_8 (by omega) (by omega) ((up_ne (by omega)).trans hpe) (up_same) (by decide) (by decide) (nI_pos (by omega)) (by rw [nI_clamp (by omega)]; show 0 + _ ≤ _; omega) (by rw [nI_clamp (by omega)]; show 0 + _ ≤ _; omega) (fun q hq z hz => by rw [nI_clamp (by omega)] at hq; rw [show (0 : Int32).toNatClampNeg + q = q from Nat.zero_add q] at hz; obtain ⟨e0, e9, r, e1⟩ := hel q (by omega) z hz; exact ⟨e0, 3, r, (up_ne (by omega)).trans e1⟩) (Nat.le_of_ble_eq_true rfl) ?_
  rw [nI_clamp (show p < 2 ^ 31 by omega), va_up_up]
  show AW _ _ _ _ _ _ _ 16 [.ref pe, .int (nI p), .ref y, .ref k] [] (va_up h k (qrow (np + 1) (va_cpy f (fun _ => none) 0 0 p))) (k + 1) (0 + 1) (0 + (np + 1))
  refine AW.aload_n (pc := 16) dX5_with_16 rfl rfl ?_
  refine AW.iload_n (pc := 17) dX5_with_17 rfl rfl ?_
  refine AW.aload_n (pc := 18) dX5_with_18 rfl rfl ?_
  refine AW.aast (pc := 19) (n := np + 1) (nv := 3) (f := va_cpy f (fun _ => none) 0 0 p) (gv := ry) dX5_with_19 (by omega) up_same hy0.1 ((up_ne (by omega)).trans hy) (vp_in_nI (by omega) (by omega)) ?_
  rw [nI_clamp (show p < 2 ^ 31 by omega), va_up_up]
  show AW _ _ _ _ _ _ _ 20 [.ref pe, .int (nI p), .ref y, .ref k] [] (va_up h k (qrow (np + 1) (va_up (va_cpy f (fun _ => none) 0 0 p) p (some y)))) (k + 1) (0 + 1) (0 + (np + 1))
  refine AW.aload_n (pc := 20) dX5_with_20 rfl rfl ?_
  refine AW.iload_n (pc := 21) dX5_with_21 rfl rfl ?_
  refine AW.aload_n (pc := 22) dX5_with_22 rfl rfl ?_
  refine AW.iload_n (pc := 23) dX5_with_23 rfl rfl ?_
  refine AW.iconst (v := 1) (pc := 24) dX5_with_24 (by decide) ?_
  refine AW.iadd (pc := 25) dX5_with_25 ?_
  refine AW.aload_n (pc := 26) dX5_with_26 rfl rfl ?_
  rw [nI_1 p]
  refine AW.alenq (pc := 27) (n := np) (f := f) dX5_with_27 ((hpe0.1)) ((up_ne (by omega)).trans hpe) ?_
  show AW _ _ _ _ _ _ _ 28 [.ref pe, .int (nI p), .ref y, .ref k] [.int (nI (np)), .int (nI (p + 1)), .ref k, .int (nI p), .ref pe] (va_up h k (qrow (np + 1) (va_up (va_cpy f (fun _ => none) 0 0 p) p (some y)))) (k + 1) (0 + 1) (0 + (np + 1))
  refine AW.iload_n (pc := 28) dX5_with_28 rfl rfl ?_
  refine AW.isub (pc := 29) dX5_with_29 ?_
  rw [nI_sub hp (by omega)]
  refine AW.copyq (pc := 30) (i := pe) (j := k) (n0 := np) (n1 := np + 1) (f := f) (g := va_up (va_cpy f (fun _ => none) 0 0 p) p (some y)) dX5_with_30 tw_820 tw_200 tw_199 tw_8 (by omega) (by omega) ((up_ne (by omega)).trans hpe) (up_same) (nI_pos (by omega)) (nI_pos (by omega)) (nI_pos (by omega)) (by rw [nI_clamp (by omega), nI_clamp (by omega)]; omega) (by rw [nI_clamp (by omega), nI_clamp (by omega)]; omega) (fun q hq z hz => by rw [nI_clamp (by omega)] at hq; rw [nI_clamp (by omega)] at hz; obtain ⟨e0, e9, r, e1⟩ := hel (p + q) (by omega) z hz; exact ⟨e0, 3, r, (up_ne (by omega)).trans e1⟩) (Nat.le_of_ble_eq_true rfl) ?_
  rw [nI_clamp (show p < 2 ^ 31 by omega), nI_clamp (show p + 1 < 2 ^ 31 by omega), nI_clamp (show np - p < 2 ^ 31 by omega), va_up_up, wth_eq hp]
  show AW _ _ _ _ _ _ _ 33 [.ref pe, .int (nI p), .ref y, .ref k] [] (va_up h k (qrow (np + 1) (wth f p np y))) (k + 1) (0 + 1) (0 + (np + 1))
  refine AW.aload_n (pc := 33) dX5_with_33 rfl rfl ?_
  exact AW.aret (pc := 34) dX5_with_34 rfl (by omega) (by omega) (⟨rfl, rfl, rfl⟩)
