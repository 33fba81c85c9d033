/-! the law's own body: its start, one word for each of its cases, its loop -/
section Script
variable {n : Nat} {xs : Nat → Int32} {μ : Mt} {d k0 mc ms : Nat} {Q : Po} {pc : Nat} {L S : List Value} {h : Hp} {k cs ss : Nat}
theorem AW.sld {i v : Int32} (hd : decode μ.2.1 pc = .ok (.iaload, 1)) (hk0 : 0 < k0) (hin : vp_in i n) (hv : xs i.toNatClampNeg = v) (K : AW (aw_ZL n xs) μ d k0 mc ms Q (pc + 1) L (.int v :: S) h k cs ss) : AW (aw_ZL n xs) μ d k0 mc ms Q pc L (.int i :: .ref 0 :: S) h k cs ss := by
  subst hv
  intro l D cT p e s m args below meth c ad0 ad A H locs ls hC ha hk hS hw hl hs
  have hZ : aw_ZL n xs s A ad0 := hC.2.2.2.2.2.2.2.2.2.2.2
  have e0 : aw_cv ad (.ref 0) = .ref (ad0 0) := by
    show Value.ref (ad 0) = _
    rw [ha 0 hk0]
  rw [List.map_cons, List.map_cons, e0]
  exact va_sld hC.2.1 hC.2.2.1 hZ.1 hZ.2.1 hZ.2.2 hS hin hd (K l D cT p e s m args below meth c ad0 ad A H locs ls hC ha hk hS hw hl (aw_ok_cons aw_okI (aw_ok_tail (aw_ok_tail hs))))
theorem AW.slen (hd : decode μ.2.1 pc = .ok (.arraylength, 1)) (hk0 : 0 < k0) (K : AW (aw_ZL n xs) μ d k0 mc ms Q (pc + 1) L (.int (Int32.ofNat n) :: S) h k cs ss) : AW (aw_ZL n xs) μ d k0 mc ms Q pc L (.ref 0 :: S) h k cs ss := by
  intro l D cT p e s m args below meth c ad0 ad A H locs ls hC ha hk hS hw hl hs
  have hZ : aw_ZL n xs s A ad0 := hC.2.2.2.2.2.2.2.2.2.2.2
  have e0 : aw_cv ad (.ref 0) = .ref (ad0 0) := by
    show Value.ref (ad 0) = _
    rw [ha 0 hk0]
  rw [List.map_cons, e0]
  exact va_slen hC.2.1 hC.2.2.1 hZ.1 hZ.2.1 hZ.2.2 hS hd (K l D cT p e s m args below meth c ad0 ad A H locs ls hC ha hk hS hw hl (aw_ok_cons aw_okI (aw_ok_tail hs)))
end Script
theorem ov_nil (b : Nat) (h : Hp) : ov b [] h = h := by
  funext j
  by_cases hb : b ≤ j <;> simp [ov, hb]
def wc_0 (p1 : Int32) (o : Nat → Int64) (m : Mem) (K : (Nat → Int64) → Mem → Prop) : Prop :=
  w_L_input p1 o m (fun r2 o3 m1 => w_M_input p1 m1 (fun r5 m4 => w_M_thrown  m4 (fun r7 m6 => ((r7 = r2 → ((¬ (r2 = 0) → K o3 m6) ∧ (r2 = 0 → (((lg_cmp (o3 0) r5.toInt64) = 0 → K o3 m6) ∧ (¬ ((lg_cmp (o3 0) r5.toInt64) = 0) → False))))) ∧ (¬ (r7 = r2) → False)))))
set_option maxRecDepth 100000 in
set_option maxHeartbeats 4000000 in
theorem b_law_0 {n : Nat} {xs : Nat → Int32} {d k0 mc ms cs ss k t : Nat} {ex : Hp} {o : Nat → Int64} {m : Mem} {K : (Nat → Int64) → Mem → Prop} {i : Int32} {p1 : Int32} (hk0 : 0 < k0) (hd : 40 ≤ d) (hcs : cs + 837 ≤ mc) (hss : ss + 9372 ≤ ms) (ht : tok t) (hk : kok t k) (hx1 : vp_in (i + (1 : Int32)) n) (hp1 : xs (i + (1 : Int32)).toNatClampNeg = p1)
    (hKK : ∀ {t2 k2 : Nat} {ex2 : Hp}, tok t2 → kok t2 k2 → ∀ (o2 : Nat → Int64) (m2 : Mem), K o2 m2 → AW (aw_ZL n xs) mlaw d k0 mc ms aw_QL 1639 [.ref 0, .ref 1, .ref 47, .ref 61, .int i, .null, .null, .null, .null] [] (lay t2 ex2 o2 m2) k2 (cs + 837) (ss + 9372))
    (hw : wc_0 p1 o m K) : AW (aw_ZL n xs) mlaw d k0 mc ms aw_QL 168 [.ref 0, .ref 1, .ref 47, .ref 61, .int i, .null, .null, .null, .null] [] (lay t ex o m) k cs ss := by
  unfold wc_0 at hw
  refine AW.aload_n (pc := 168) dL_law_168 rfl rfl ?_
  refine AW.aload_n (pc := 169) dL_law_169 rfl rfl ?_
  refine AW.iload (pc := 170) dL_law_170 rfl ?_
  refine AW.iconst (v := 1) (pc := 172) dL_law_172 (by decide) ?_
  refine AW.iadd (pc := 173) dL_law_173 ?_
  refine AW.sld (pc := 174) dL_law_174 hk0 hx1 hp1 ?_
  refine AW.aload_n (pc := 175) dL_law_175 rfl rfl ?_
  refine AW.callSH (pc := 176) (S' := []) dL_law_176 (c_L_input (d := d - 1) ht (by omega) hw) ok_L_input tw_574 tw_573 rfl (by omega) rfl (Nat.le_of_ble_eq_true rfl) (by omega) (by omega) ?_ (fun E h' k' hq => by obtain ⟨rfl, r2, o3, m1, hv, -⟩ := hq; cases hv)
  intro v h' k' hq
  obtain ⟨rfl, r2, o3, m1, hv, rfl, hw⟩ := hq
  cases hv
  show AW _ _ _ _ _ _ _ 179 [.ref 0, .ref 1, .ref 47, .ref 61, .int i, .null, .null, .null, .null] [.int r2] (lay t ex o3 m1) k _ _
  refine AW.istore (L' := [.ref 0, .ref 1, .ref 47, .ref 61, .int i, .int r2, .null, .null, .null]) (pc := 179) dL_law_179 (by decide) rfl rfl ?_
  refine AW.aload_n (pc := 181) dL_law_181 rfl rfl ?_
  refine AW.aload_n (pc := 182) dL_law_182 rfl rfl ?_
  refine AW.iload (pc := 183) dL_law_183 rfl ?_
  refine AW.iconst (v := 1) (pc := 185) dL_law_185 (by decide) ?_
  refine AW.iadd (pc := 186) dL_law_186 ?_
  refine AW.sld (pc := 187) dL_law_187 hk0 hx1 hp1 ?_
  refine AW.callV (pc := 188) (S' := []) dL_law_188 (c_M_input (d := d - 1) ht (by omega) hw) ok_X5_input tw_852 tw_853 tw_851 (fix_pos (by decide)) (lay_at ht (by decide)) (show aw_cl[5]? = some _ from rfl) rfl rfl (by omega) rfl (Nat.le_of_ble_eq_true rfl) (by omega) (by omega) ?_ (fun E h' k' hq => by obtain ⟨rfl, r5, m4, hv, -⟩ := hq; cases hv)
  intro v h' k' hq
  obtain ⟨rfl, r5, m4, hv, rfl, hw⟩ := hq
  cases hv
  show AW _ _ _ _ _ _ _ 191 [.ref 0, .ref 1, .ref 47, .ref 61, .int i, .int r2, .null, .null, .null] [.int r5] (lay t ex o3 m4) k _ _
  refine AW.istore (L' := [.ref 0, .ref 1, .ref 47, .ref 61, .int i, .int r2, .int r5, .null, .null]) (pc := 191) dL_law_191 (by decide) rfl rfl ?_
  refine AW.aload_n (pc := 193) dL_law_193 rfl rfl ?_
  refine AW.callV (pc := 194) (S' := []) dL_law_194 (c_M_thrown (d := d - 1) ht (by omega) hw) ok_X5_thrown tw_848 tw_849 tw_847 (fix_pos (by decide)) (lay_at ht (by decide)) (show aw_cl[5]? = some _ from rfl) rfl rfl (by omega) rfl (Nat.le_of_ble_eq_true rfl) (by omega) (by omega) ?_ (fun E h' k' hq => by obtain ⟨rfl, r7, m6, hv, -⟩ := hq; cases hv)
  intro v h' k' hq
  obtain ⟨rfl, r7, m6, hv, rfl, hw⟩ := hq
  cases hv
  show AW _ _ _ _ _ _ _ 197 [.ref 0, .ref 1, .ref 47, .ref 61, .int i, .int r2, .int r5, .null, .null] [.int r7] (lay t ex o3 m6) k _ _
  refine AW.iload (pc := 197) dL_law_197 rfl ?_
  refine AW.icmp_eq (pc := 199) (tgt := 204) dL_law_199 (by decide) (fun c8 => ?_) (fun c8 => ?_)
  · have hw := hw.1 c8
    refine AW.iload (pc := 204) dL_law_204 rfl ?_
    refine AW.if_ne (pc := 206) (tgt := 221) dL_law_206 (by decide) (fun c9 => ?_) (fun c9 => ?_)
    · have hw := hw.1 c9
      refine AW.goto (pc := 221) (tgt := 1639) dL_law_221 (by decide) ?_
      refine AW.locals (L' := [.ref 0, .ref 1, .ref 47, .ref 61, .int i, .null, .null, .null, .null]) (aw_fewer_same (aw_fewer_same (aw_fewer_same (aw_fewer_same (aw_fewer_same (aw_fewer_null (aw_fewer_null (aw_fewer_null (aw_fewer_null aw_fewer_nil))))))))) ?_
      refine AW.widen (cs' := cs + 837) (ss' := ss + 9372) (by omega) (by omega) ?_
      exact hKK ht hk _ _ hw
    · have hw := hw.2 c9
      refine AW.aload_n (pc := 209) dL_law_209 rfl rfl ?_
      refine AW.iconst (v := 0) (pc := 210) dL_law_210 (by decide) ?_
      refine LW.laldo (pc := 211) ht dL_law_211 ?_
      refine AW.iload (pc := 212) dL_law_212 rfl ?_
      refine AW.i2l (pc := 214) dL_law_214 ?_
      refine AW.lcmp (pc := 215) dL_law_215 ?_
      refine AW.if_eq (pc := 216) (tgt := 221) dL_law_216 (by decide) (fun c10 => ?_) (fun c10 => ?_)
      · have hw := hw.1 c10
        refine AW.goto (pc := 221) (tgt := 1639) dL_law_221 (by decide) ?_
        refine AW.locals (L' := [.ref 0, .ref 1, .ref 47, .ref 61, .int i, .null, .null, .null, .null]) (aw_fewer_same (aw_fewer_same (aw_fewer_same (aw_fewer_same (aw_fewer_same (aw_fewer_null (aw_fewer_null (aw_fewer_null (aw_fewer_null aw_fewer_nil))))))))) ?_
        refine AW.widen (cs' := cs + 837) (ss' := ss + 9372) (by omega) (by omega) ?_
        exact hKK ht hk _ _ hw
      · have hw := hw.2 c10
        refine AW.iconst (v := 0) (pc := 219) dL_law_219 (by decide) ?_
        exact hw.elim
  · have hw := hw.2 c8
    refine AW.iconst (v := 0) (pc := 202) dL_law_202 (by decide) ?_
    exact hw.elim
def wc_1 (p1 : Int32) (p2 : Int32) (p3 : Int32) (p4 : Int32) (p5 : Int32) (p6 : Int32) (o : Nat → Int64) (m : Mem) (K : (Nat → Int64) → Mem → Prop) : Prop :=
  w_L_gate p1 p2 p3 p4 p5 p6 o m (fun r2 o3 m1 => w_M_gate p1 p2 p3 p4 p5 p6 m1 (fun r5 m4 => w_M_thrown  m4 (fun r7 m6 => ((r7 = r2 → ((¬ (r2 = 0) → K o3 m6) ∧ (r2 = 0 → (((lg_cmp (o3 0) r5.toInt64) = 0 → K o3 m6) ∧ (¬ ((lg_cmp (o3 0) r5.toInt64) = 0) → False))))) ∧ (¬ (r7 = r2) → False)))))
set_option maxRecDepth 100000 in
set_option maxHeartbeats 4000000 in
theorem b_law_1 {n : Nat} {xs : Nat → Int32} {d k0 mc ms cs ss k t : Nat} {ex : Hp} {o : Nat → Int64} {m : Mem} {K : (Nat → Int64) → Mem → Prop} {i : Int32} {p1 : Int32} {p2 : Int32} {p3 : Int32} {p4 : Int32} {p5 : Int32} {p6 : Int32} (hk0 : 0 < k0) (hd : 40 ≤ d) (hcs : cs + 837 ≤ mc) (hss : ss + 9372 ≤ ms) (ht : tok t) (hk : kok t k) (hx1 : vp_in (i + (1 : Int32)) n) (hp1 : xs (i + (1 : Int32)).toNatClampNeg = p1) (hx2 : vp_in (i + (2 : Int32)) n) (hp2 : xs (i + (2 : Int32)).toNatClampNeg = p2) (hx3 : vp_in (i + (3 : Int32)) n) (hp3 : xs (i + (3 : Int32)).toNatClampNeg = p3) (hx4 : vp_in (i + (4 : Int32)) n) (hp4 : xs (i + (4 : Int32)).toNatClampNeg = p4) (hx5 : vp_in (i + (5 : Int32)) n) (hp5 : xs (i + (5 : Int32)).toNatClampNeg = p5) (hx6 : vp_in (i + (6 : Int32)) n) (hp6 : xs (i + (6 : Int32)).toNatClampNeg = p6)
    (hKK : ∀ {t2 k2 : Nat} {ex2 : Hp}, tok t2 → kok t2 k2 → ∀ (o2 : Nat → Int64) (m2 : Mem), K o2 m2 → AW (aw_ZL n xs) mlaw d k0 mc ms aw_QL 1639 [.ref 0, .ref 1, .ref 47, .ref 61, .int i, .null, .null, .null, .null] [] (lay t2 ex2 o2 m2) k2 (cs + 837) (ss + 9372))
    (hw : wc_1 p1 p2 p3 p4 p5 p6 o m K) : AW (aw_ZL n xs) mlaw d k0 mc ms aw_QL 224 [.ref 0, .ref 1, .ref 47, .ref 61, .int i, .null, .null, .null, .null] [] (lay t ex o m) k cs ss := by
  unfold wc_1 at hw
  refine AW.aload_n (pc := 224) dL_law_224 rfl rfl ?_
  refine AW.aload_n (pc := 225) dL_law_225 rfl rfl ?_
  refine AW.iload (pc := 226) dL_law_226 rfl ?_
  refine AW.iconst (v := 1) (pc := 228) dL_law_228 (by decide) ?_
  refine AW.iadd (pc := 229) dL_law_229 ?_
  refine AW.sld (pc := 230) dL_law_230 hk0 hx1 hp1 ?_
  refine AW.aload_n (pc := 231) dL_law_231 rfl rfl ?_
  refine AW.iload (pc := 232) dL_law_232 rfl ?_
  refine AW.iconst (v := 2) (pc := 234) dL_law_234 (by decide) ?_
  refine AW.iadd (pc := 235) dL_law_235 ?_
  refine AW.sld (pc := 236) dL_law_236 hk0 hx2 hp2 ?_
  refine AW.aload_n (pc := 237) dL_law_237 rfl rfl ?_
  refine AW.iload (pc := 238) dL_law_238 rfl ?_
  refine AW.iconst (v := 3) (pc := 240) dL_law_240 (by decide) ?_
  refine AW.iadd (pc := 241) dL_law_241 ?_
  refine AW.sld (pc := 242) dL_law_242 hk0 hx3 hp3 ?_
  refine AW.aload_n (pc := 243) dL_law_243 rfl rfl ?_
  refine AW.iload (pc := 244) dL_law_244 rfl ?_
  refine AW.iconst (v := 4) (pc := 246) dL_law_246 (by decide) ?_
  refine AW.iadd (pc := 247) dL_law_247 ?_
  refine AW.sld (pc := 248) dL_law_248 hk0 hx4 hp4 ?_
  refine AW.aload_n (pc := 249) dL_law_249 rfl rfl ?_
  refine AW.iload (pc := 250) dL_law_250 rfl ?_
  refine AW.iconst (v := 5) (pc := 252) dL_law_252 (by decide) ?_
  refine AW.iadd (pc := 253) dL_law_253 ?_
  refine AW.sld (pc := 254) dL_law_254 hk0 hx5 hp5 ?_
  refine AW.aload_n (pc := 255) dL_law_255 rfl rfl ?_
  refine AW.iload (pc := 256) dL_law_256 rfl ?_
  refine AW.bipush (v := 6) (pc := 258) dL_law_258 (by decide) ?_
  refine AW.iadd (pc := 260) dL_law_260 ?_
  refine AW.sld (pc := 261) dL_law_261 hk0 hx6 hp6 ?_
  refine AW.aload_n (pc := 262) dL_law_262 rfl rfl ?_
  refine AW.callSH (pc := 263) (S' := []) dL_law_263 (c_L_gate (d := d - 1) ht (by omega) hw) ok_L_gate tw_632 tw_631 rfl (by omega) rfl (Nat.le_of_ble_eq_true rfl) (by omega) (by omega) ?_ (fun E h' k' hq => by obtain ⟨rfl, r2, o3, m1, hv, -⟩ := hq; cases hv)
  intro v h' k' hq
  obtain ⟨rfl, r2, o3, m1, hv, rfl, hw⟩ := hq
  cases hv
  show AW _ _ _ _ _ _ _ 266 [.ref 0, .ref 1, .ref 47, .ref 61, .int i, .null, .null, .null, .null] [.int r2] (lay t ex o3 m1) k _ _
  refine AW.istore (L' := [.ref 0, .ref 1, .ref 47, .ref 61, .int i, .int r2, .null, .null, .null]) (pc := 266) dL_law_266 (by decide) rfl rfl ?_
  refine AW.aload_n (pc := 268) dL_law_268 rfl rfl ?_
  refine AW.aload_n (pc := 269) dL_law_269 rfl rfl ?_
  refine AW.iload (pc := 270) dL_law_270 rfl ?_
  refine AW.iconst (v := 1) (pc := 272) dL_law_272 (by decide) ?_
  refine AW.iadd (pc := 273) dL_law_273 ?_
  refine AW.sld (pc := 274) dL_law_274 hk0 hx1 hp1 ?_
  refine AW.aload_n (pc := 275) dL_law_275 rfl rfl ?_
  refine AW.iload (pc := 276) dL_law_276 rfl ?_
  refine AW.iconst (v := 2) (pc := 278) dL_law_278 (by decide) ?_
  refine AW.iadd (pc := 279) dL_law_279 ?_
  refine AW.sld (pc := 280) dL_law_280 hk0 hx2 hp2 ?_
  refine AW.aload_n (pc := 281) dL_law_281 rfl rfl ?_
  refine AW.iload (pc := 282) dL_law_282 rfl ?_
  refine AW.iconst (v := 3) (pc := 284) dL_law_284 (by decide) ?_
  refine AW.iadd (pc := 285) dL_law_285 ?_
  refine AW.sld (pc := 286) dL_law_286 hk0 hx3 hp3 ?_
  refine AW.aload_n (pc := 287) dL_law_287 rfl rfl ?_
  refine AW.iload (pc := 288) dL_law_288 rfl ?_
  refine AW.iconst (v := 4) (pc := 290) dL_law_290 (by decide) ?_
  refine AW.iadd (pc := 291) dL_law_291 ?_
  refine AW.sld (pc := 292) dL_law_292 hk0 hx4 hp4 ?_
  refine AW.aload_n (pc := 293) dL_law_293 rfl rfl ?_
  refine AW.iload (pc := 294) dL_law_294 rfl ?_
  refine AW.iconst (v := 5) (pc := 296) dL_law_296 (by decide) ?_
  refine AW.iadd (pc := 297) dL_law_297 ?_
  refine AW.sld (pc := 298) dL_law_298 hk0 hx5 hp5 ?_
  refine AW.aload_n (pc := 299) dL_law_299 rfl rfl ?_
  refine AW.iload (pc := 300) dL_law_300 rfl ?_
  refine AW.bipush (v := 6) (pc := 302) dL_law_302 (by decide) ?_
  refine AW.iadd (pc := 304) dL_law_304 ?_
  refine AW.sld (pc := 305) dL_law_305 hk0 hx6 hp6 ?_
  refine AW.callV (pc := 306) (S' := []) dL_law_306 (c_M_gate (d := d - 1) ht (by omega) hw) ok_X5_gate tw_870 tw_871 tw_869 (fix_pos (by decide)) (lay_at ht (by decide)) (show aw_cl[5]? = some _ from rfl) rfl rfl (by omega) rfl (Nat.le_of_ble_eq_true rfl) (by omega) (by omega) ?_ (fun E h' k' hq => by obtain ⟨rfl, r5, m4, hv, -⟩ := hq; cases hv)
  intro v h' k' hq
  obtain ⟨rfl, r5, m4, hv, rfl, hw⟩ := hq
  cases hv
  show AW _ _ _ _ _ _ _ 309 [.ref 0, .ref 1, .ref 47, .ref 61, .int i, .int r2, .null, .null, .null] [.int r5] (lay t ex o3 m4) k _ _
  refine AW.istore (L' := [.ref 0, .ref 1, .ref 47, .ref 61, .int i, .int r2, .int r5, .null, .null]) (pc := 309) dL_law_309 (by decide) rfl rfl ?_
  refine AW.aload_n (pc := 311) dL_law_311 rfl rfl ?_
  refine AW.callV (pc := 312) (S' := []) dL_law_312 (c_M_thrown (d := d - 1) ht (by omega) hw) ok_X5_thrown tw_848 tw_849 tw_847 (fix_pos (by decide)) (lay_at ht (by decide)) (show aw_cl[5]? = some _ from rfl) rfl rfl (by omega) rfl (Nat.le_of_ble_eq_true rfl) (by omega) (by omega) ?_ (fun E h' k' hq => by obtain ⟨rfl, r7, m6, hv, -⟩ := hq; cases hv)
  intro v h' k' hq
  obtain ⟨rfl, r7, m6, hv, rfl, hw⟩ := hq
  cases hv
  show AW _ _ _ _ _ _ _ 315 [.ref 0, .ref 1, .ref 47, .ref 61, .int i, .int r2, .int r5, .null, .null] [.int r7] (lay t ex o3 m6) k _ _
  refine AW.iload (pc := 315) dL_law_315 rfl ?_
  refine AW.icmp_eq (pc := 317) (tgt := 322) dL_law_317 (by decide) (fun c8 => ?_) (fun c8 => ?_)
  · have hw := hw.1 c8
    refine AW.iload (pc := 322) dL_law_322 rfl ?_
    refine AW.if_ne (pc := 324) (tgt := 339) dL_law_324 (by decide) (fun c9 => ?_) (fun c9 => ?_)
    · have hw := hw.1 c9
      refine AW.goto (pc := 339) (tgt := 1639) dL_law_339 (by decide) ?_
      refine AW.locals (L' := [.ref 0, .ref 1, .ref 47, .ref 61, .int i, .null, .null, .null, .null]) (aw_fewer_same (aw_fewer_same (aw_fewer_same (aw_fewer_same (aw_fewer_same (aw_fewer_null (aw_fewer_null (aw_fewer_null (aw_fewer_null aw_fewer_nil))))))))) ?_
      refine AW.widen (cs' := cs + 837) (ss' := ss + 9372) (by omega) (by omega) ?_
      exact hKK ht hk _ _ hw
    · have hw := hw.2 c9
      refine AW.aload_n (pc := 327) dL_law_327 rfl rfl ?_
      refine AW.iconst (v := 0) (pc := 328) dL_law_328 (by decide) ?_
      refine LW.laldo (pc := 329) ht dL_law_329 ?_
      refine AW.iload (pc := 330) dL_law_330 rfl ?_
      refine AW.i2l (pc := 332) dL_law_332 ?_
      refine AW.lcmp (pc := 333) dL_law_333 ?_
      refine AW.if_eq (pc := 334) (tgt := 339) dL_law_334 (by decide) (fun c10 => ?_) (fun c10 => ?_)
      · have hw := hw.1 c10
        refine AW.goto (pc := 339) (tgt := 1639) dL_law_339 (by decide) ?_
        refine AW.locals (L' := [.ref 0, .ref 1, .ref 47, .ref 61, .int i, .null, .null, .null, .null]) (aw_fewer_same (aw_fewer_same (aw_fewer_same (aw_fewer_same (aw_fewer_same (aw_fewer_null (aw_fewer_null (aw_fewer_null (aw_fewer_null aw_fewer_nil))))))))) ?_
        refine AW.widen (cs' := cs + 837) (ss' := ss + 9372) (by omega) (by omega) ?_
        exact hKK ht hk _ _ hw
      · have hw := hw.2 c10
        refine AW.iconst (v := 0) (pc := 337) dL_law_337 (by decide) ?_
        exact hw.elim
  · have hw := hw.2 c8
    refine AW.iconst (v := 0) (pc := 320) dL_law_320 (by decide) ?_
    exact hw.elim
def wc_2 (p1 : Int32) (p2 : Int32) (p3 : Int32) (p4 : Int32) (p5 : Int32) (o : Nat → Int64) (m : Mem) (K : (Nat → Int64) → Mem → Prop) : Prop :=
  w_L_register p1 p2 p3 p4 p5 o m (fun r2 o3 m1 => w_M_register p1 p2 p3 p4 p5 m1 (fun r5 m4 => w_M_thrown  m4 (fun r7 m6 => ((r7 = r2 → ((¬ (r2 = 0) → K o3 m6) ∧ (r2 = 0 → (((lg_cmp (o3 0) r5.toInt64) = 0 → K o3 m6) ∧ (¬ ((lg_cmp (o3 0) r5.toInt64) = 0) → False))))) ∧ (¬ (r7 = r2) → False)))))
set_option maxRecDepth 100000 in
set_option maxHeartbeats 4000000 in
theorem b_law_2 {n : Nat} {xs : Nat → Int32} {d k0 mc ms cs ss k t : Nat} {ex : Hp} {o : Nat → Int64} {m : Mem} {K : (Nat → Int64) → Mem → Prop} {i : Int32} {p1 : Int32} {p2 : Int32} {p3 : Int32} {p4 : Int32} {p5 : Int32} (hk0 : 0 < k0) (hd : 40 ≤ d) (hcs : cs + 837 ≤ mc) (hss : ss + 9372 ≤ ms) (ht : tok t) (hk : kok t k) (hx1 : vp_in (i + (1 : Int32)) n) (hp1 : xs (i + (1 : Int32)).toNatClampNeg = p1) (hx2 : vp_in (i + (2 : Int32)) n) (hp2 : xs (i + (2 : Int32)).toNatClampNeg = p2) (hx3 : vp_in (i + (3 : Int32)) n) (hp3 : xs (i + (3 : Int32)).toNatClampNeg = p3) (hx4 : vp_in (i + (4 : Int32)) n) (hp4 : xs (i + (4 : Int32)).toNatClampNeg = p4) (hx5 : vp_in (i + (5 : Int32)) n) (hp5 : xs (i + (5 : Int32)).toNatClampNeg = p5)
    (hKK : ∀ {t2 k2 : Nat} {ex2 : Hp}, tok t2 → kok t2 k2 → ∀ (o2 : Nat → Int64) (m2 : Mem), K o2 m2 → AW (aw_ZL n xs) mlaw d k0 mc ms aw_QL 1639 [.ref 0, .ref 1, .ref 47, .ref 61, .int i, .null, .null, .null, .null] [] (lay t2 ex2 o2 m2) k2 (cs + 837) (ss + 9372))
    (hw : wc_2 p1 p2 p3 p4 p5 o m K) : AW (aw_ZL n xs) mlaw d k0 mc ms aw_QL 342 [.ref 0, .ref 1, .ref 47, .ref 61, .int i, .null, .null, .null, .null] [] (lay t ex o m) k cs ss := by
  unfold wc_2 at hw
  refine AW.aload_n (pc := 342) dL_law_342 rfl rfl ?_
  refine AW.aload_n (pc := 343) dL_law_343 rfl rfl ?_
  refine AW.iload (pc := 344) dL_law_344 rfl ?_
  refine AW.iconst (v := 1) (pc := 346) dL_law_346 (by decide) ?_
  refine AW.iadd (pc := 347) dL_law_347 ?_
  refine AW.sld (pc := 348) dL_law_348 hk0 hx1 hp1 ?_
  refine AW.aload_n (pc := 349) dL_law_349 rfl rfl ?_
  refine AW.iload (pc := 350) dL_law_350 rfl ?_
  refine AW.iconst (v := 2) (pc := 352) dL_law_352 (by decide) ?_
  refine AW.iadd (pc := 353) dL_law_353 ?_
  refine AW.sld (pc := 354) dL_law_354 hk0 hx2 hp2 ?_
  refine AW.aload_n (pc := 355) dL_law_355 rfl rfl ?_
  refine AW.iload (pc := 356) dL_law_356 rfl ?_
  refine AW.iconst (v := 3) (pc := 358) dL_law_358 (by decide) ?_
  refine AW.iadd (pc := 359) dL_law_359 ?_
  refine AW.sld (pc := 360) dL_law_360 hk0 hx3 hp3 ?_
  refine AW.aload_n (pc := 361) dL_law_361 rfl rfl ?_
  refine AW.iload (pc := 362) dL_law_362 rfl ?_
  refine AW.iconst (v := 4) (pc := 364) dL_law_364 (by decide) ?_
  refine AW.iadd (pc := 365) dL_law_365 ?_
  refine AW.sld (pc := 366) dL_law_366 hk0 hx4 hp4 ?_
  refine AW.aload_n (pc := 367) dL_law_367 rfl rfl ?_
  refine AW.iload (pc := 368) dL_law_368 rfl ?_
  refine AW.iconst (v := 5) (pc := 370) dL_law_370 (by decide) ?_
  refine AW.iadd (pc := 371) dL_law_371 ?_
  refine AW.sld (pc := 372) dL_law_372 hk0 hx5 hp5 ?_
  refine AW.aload_n (pc := 373) dL_law_373 rfl rfl ?_
  refine AW.callSH (pc := 374) (S' := []) dL_law_374 (c_L_register (d := d - 1) ht (by omega) hw) ok_L_register tw_648 tw_647 rfl (by omega) rfl (Nat.le_of_ble_eq_true rfl) (by omega) (by omega) ?_ (fun E h' k' hq => by obtain ⟨rfl, r2, o3, m1, hv, -⟩ := hq; cases hv)
  intro v h' k' hq
  obtain ⟨rfl, r2, o3, m1, hv, rfl, hw⟩ := hq
  cases hv
  show AW _ _ _ _ _ _ _ 377 [.ref 0, .ref 1, .ref 47, .ref 61, .int i, .null, .null, .null, .null] [.int r2] (lay t ex o3 m1) k _ _
  refine AW.istore (L' := [.ref 0, .ref 1, .ref 47, .ref 61, .int i, .int r2, .null, .null, .null]) (pc := 377) dL_law_377 (by decide) rfl rfl ?_
  refine AW.aload_n (pc := 379) dL_law_379 rfl rfl ?_
  refine AW.aload_n (pc := 380) dL_law_380 rfl rfl ?_
  refine AW.iload (pc := 381) dL_law_381 rfl ?_
  refine AW.iconst (v := 1) (pc := 383) dL_law_383 (by decide) ?_
  refine AW.iadd (pc := 384) dL_law_384 ?_
  refine AW.sld (pc := 385) dL_law_385 hk0 hx1 hp1 ?_
  refine AW.aload_n (pc := 386) dL_law_386 rfl rfl ?_
  refine AW.iload (pc := 387) dL_law_387 rfl ?_
  refine AW.iconst (v := 2) (pc := 389) dL_law_389 (by decide) ?_
  refine AW.iadd (pc := 390) dL_law_390 ?_
  refine AW.sld (pc := 391) dL_law_391 hk0 hx2 hp2 ?_
  refine AW.aload_n (pc := 392) dL_law_392 rfl rfl ?_
  refine AW.iload (pc := 393) dL_law_393 rfl ?_
  refine AW.iconst (v := 3) (pc := 395) dL_law_395 (by decide) ?_
  refine AW.iadd (pc := 396) dL_law_396 ?_
  refine AW.sld (pc := 397) dL_law_397 hk0 hx3 hp3 ?_
  refine AW.aload_n (pc := 398) dL_law_398 rfl rfl ?_
  refine AW.iload (pc := 399) dL_law_399 rfl ?_
  refine AW.iconst (v := 4) (pc := 401) dL_law_401 (by decide) ?_
  refine AW.iadd (pc := 402) dL_law_402 ?_
  refine AW.sld (pc := 403) dL_law_403 hk0 hx4 hp4 ?_
  refine AW.aload_n (pc := 404) dL_law_404 rfl rfl ?_
  refine AW.iload (pc := 405) dL_law_405 rfl ?_
  refine AW.iconst (v := 5) (pc := 407) dL_law_407 (by decide) ?_
  refine AW.iadd (pc := 408) dL_law_408 ?_
  refine AW.sld (pc := 409) dL_law_409 hk0 hx5 hp5 ?_
  refine AW.callV (pc := 410) (S' := []) dL_law_410 (c_M_register (d := d - 1) ht (by omega) hw) ok_X5_register tw_877 tw_878 tw_876 (fix_pos (by decide)) (lay_at ht (by decide)) (show aw_cl[5]? = some _ from rfl) rfl rfl (by omega) rfl (Nat.le_of_ble_eq_true rfl) (by omega) (by omega) ?_ (fun E h' k' hq => by obtain ⟨rfl, r5, m4, hv, -⟩ := hq; cases hv)
  intro v h' k' hq
  obtain ⟨rfl, r5, m4, hv, rfl, hw⟩ := hq
  cases hv
  show AW _ _ _ _ _ _ _ 413 [.ref 0, .ref 1, .ref 47, .ref 61, .int i, .int r2, .null, .null, .null] [.int r5] (lay t ex o3 m4) k _ _
  refine AW.istore (L' := [.ref 0, .ref 1, .ref 47, .ref 61, .int i, .int r2, .int r5, .null, .null]) (pc := 413) dL_law_413 (by decide) rfl rfl ?_
  refine AW.aload_n (pc := 415) dL_law_415 rfl rfl ?_
  refine AW.callV (pc := 416) (S' := []) dL_law_416 (c_M_thrown (d := d - 1) ht (by omega) hw) ok_X5_thrown tw_848 tw_849 tw_847 (fix_pos (by decide)) (lay_at ht (by decide)) (show aw_cl[5]? = some _ from rfl) rfl rfl (by omega) rfl (Nat.le_of_ble_eq_true rfl) (by omega) (by omega) ?_ (fun E h' k' hq => by obtain ⟨rfl, r7, m6, hv, -⟩ := hq; cases hv)
  intro v h' k' hq
  obtain ⟨rfl, r7, m6, hv, rfl, hw⟩ := hq
  cases hv
  show AW _ _ _ _ _ _ _ 419 [.ref 0, .ref 1, .ref 47, .ref 61, .int i, .int r2, .int r5, .null, .null] [.int r7] (lay t ex o3 m6) k _ _
  refine AW.iload (pc := 419) dL_law_419 rfl ?_
  refine AW.icmp_eq (pc := 421) (tgt := 426) dL_law_421 (by decide) (fun c8 => ?_) (fun c8 => ?_)
  · have hw := hw.1 c8
    refine AW.iload (pc := 426) dL_law_426 rfl ?_
    refine AW.if_ne (pc := 428) (tgt := 443) dL_law_428 (by decide) (fun c9 => ?_) (fun c9 => ?_)
    · have hw := hw.1 c9
      refine AW.goto (pc := 443) (tgt := 1639) dL_law_443 (by decide) ?_
      refine AW.locals (L' := [.ref 0, .ref 1, .ref 47, .ref 61, .int i, .null, .null, .null, .null]) (aw_fewer_same (aw_fewer_same (aw_fewer_same (aw_fewer_same (aw_fewer_same (aw_fewer_null (aw_fewer_null (aw_fewer_null (aw_fewer_null aw_fewer_nil))))))))) ?_
      refine AW.widen (cs' := cs + 837) (ss' := ss + 9372) (by omega) (by omega) ?_
      exact hKK ht hk _ _ hw
    · have hw := hw.2 c9
      refine AW.aload_n (pc := 431) dL_law_431 rfl rfl ?_
      refine AW.iconst (v := 0) (pc := 432) dL_law_432 (by decide) ?_
      refine LW.laldo (pc := 433) ht dL_law_433 ?_
      refine AW.iload (pc := 434) dL_law_434 rfl ?_
      refine AW.i2l (pc := 436) dL_law_436 ?_
      refine AW.lcmp (pc := 437) dL_law_437 ?_
      refine AW.if_eq (pc := 438) (tgt := 443) dL_law_438 (by decide) (fun c10 => ?_) (fun c10 => ?_)
      · have hw := hw.1 c10
        refine AW.goto (pc := 443) (tgt := 1639) dL_law_443 (by decide) ?_
        refine AW.locals (L' := [.ref 0, .ref 1, .ref 47, .ref 61, .int i, .null, .null, .null, .null]) (aw_fewer_same (aw_fewer_same (aw_fewer_same (aw_fewer_same (aw_fewer_same (aw_fewer_null (aw_fewer_null (aw_fewer_null (aw_fewer_null aw_fewer_nil))))))))) ?_
        refine AW.widen (cs' := cs + 837) (ss' := ss + 9372) (by omega) (by omega) ?_
        exact hKK ht hk _ _ hw
      · have hw := hw.2 c10
        refine AW.iconst (v := 0) (pc := 441) dL_law_441 (by decide) ?_
        exact hw.elim
  · have hw := hw.2 c8
    refine AW.iconst (v := 0) (pc := 424) dL_law_424 (by decide) ?_
    exact hw.elim
def wc_3 (p1 : Int32) (p2 : Int32) (p3 : Int32) (o : Nat → Int64) (m : Mem) (K : (Nat → Int64) → Mem → Prop) : Prop :=
  w_L_setWindow p1 p2 p3 o m (fun r2 o3 m1 => w_M_setWindow p1 p2 p3 m1 (fun r5 m4 => w_M_thrown  m4 (fun r7 m6 => ((r7 = r2 → ((¬ (r2 = 0) → K o3 m6) ∧ (r2 = 0 → (((lg_cmp (o3 0) r5.toInt64) = 0 → K o3 m6) ∧ (¬ ((lg_cmp (o3 0) r5.toInt64) = 0) → False))))) ∧ (¬ (r7 = r2) → False)))))
set_option maxRecDepth 100000 in
set_option maxHeartbeats 4000000 in
theorem b_law_3 {n : Nat} {xs : Nat → Int32} {d k0 mc ms cs ss k t : Nat} {ex : Hp} {o : Nat → Int64} {m : Mem} {K : (Nat → Int64) → Mem → Prop} {i : Int32} {p1 : Int32} {p2 : Int32} {p3 : Int32} (hk0 : 0 < k0) (hd : 40 ≤ d) (hcs : cs + 837 ≤ mc) (hss : ss + 9372 ≤ ms) (ht : tok t) (hk : kok t k) (hx1 : vp_in (i + (1 : Int32)) n) (hp1 : xs (i + (1 : Int32)).toNatClampNeg = p1) (hx2 : vp_in (i + (2 : Int32)) n) (hp2 : xs (i + (2 : Int32)).toNatClampNeg = p2) (hx3 : vp_in (i + (3 : Int32)) n) (hp3 : xs (i + (3 : Int32)).toNatClampNeg = p3)
    (hKK : ∀ {t2 k2 : Nat} {ex2 : Hp}, tok t2 → kok t2 k2 → ∀ (o2 : Nat → Int64) (m2 : Mem), K o2 m2 → AW (aw_ZL n xs) mlaw d k0 mc ms aw_QL 1639 [.ref 0, .ref 1, .ref 47, .ref 61, .int i, .null, .null, .null, .null] [] (lay t2 ex2 o2 m2) k2 (cs + 837) (ss + 9372))
    (hw : wc_3 p1 p2 p3 o m K) : AW (aw_ZL n xs) mlaw d k0 mc ms aw_QL 446 [.ref 0, .ref 1, .ref 47, .ref 61, .int i, .null, .null, .null, .null] [] (lay t ex o m) k cs ss := by
  unfold wc_3 at hw
  refine AW.aload_n (pc := 446) dL_law_446 rfl rfl ?_
  refine AW.aload_n (pc := 447) dL_law_447 rfl rfl ?_
  refine AW.iload (pc := 448) dL_law_448 rfl ?_
  refine AW.iconst (v := 1) (pc := 450) dL_law_450 (by decide) ?_
  refine AW.iadd (pc := 451) dL_law_451 ?_
  refine AW.sld (pc := 452) dL_law_452 hk0 hx1 hp1 ?_
  refine AW.aload_n (pc := 453) dL_law_453 rfl rfl ?_
  refine AW.iload (pc := 454) dL_law_454 rfl ?_
  refine AW.iconst (v := 2) (pc := 456) dL_law_456 (by decide) ?_
  refine AW.iadd (pc := 457) dL_law_457 ?_
  refine AW.sld (pc := 458) dL_law_458 hk0 hx2 hp2 ?_
  refine AW.aload_n (pc := 459) dL_law_459 rfl rfl ?_
  refine AW.iload (pc := 460) dL_law_460 rfl ?_
  refine AW.iconst (v := 3) (pc := 462) dL_law_462 (by decide) ?_
  refine AW.iadd (pc := 463) dL_law_463 ?_
  refine AW.sld (pc := 464) dL_law_464 hk0 hx3 hp3 ?_
  refine AW.aload_n (pc := 465) dL_law_465 rfl rfl ?_
  refine AW.callSH (pc := 466) (S' := []) dL_law_466 (c_L_setWindow (d := d - 1) ht (by omega) hw) ok_L_setWindow tw_655 tw_654 rfl (by omega) rfl (Nat.le_of_ble_eq_true rfl) (by omega) (by omega) ?_ (fun E h' k' hq => by obtain ⟨rfl, r2, o3, m1, hv, -⟩ := hq; cases hv)
  intro v h' k' hq
  obtain ⟨rfl, r2, o3, m1, hv, rfl, hw⟩ := hq
  cases hv
  show AW _ _ _ _ _ _ _ 469 [.ref 0, .ref 1, .ref 47, .ref 61, .int i, .null, .null, .null, .null] [.int r2] (lay t ex o3 m1) k _ _
  refine AW.istore (L' := [.ref 0, .ref 1, .ref 47, .ref 61, .int i, .int r2, .null, .null, .null]) (pc := 469) dL_law_469 (by decide) rfl rfl ?_
  refine AW.aload_n (pc := 471) dL_law_471 rfl rfl ?_
  refine AW.aload_n (pc := 472) dL_law_472 rfl rfl ?_
  refine AW.iload (pc := 473) dL_law_473 rfl ?_
  refine AW.iconst (v := 1) (pc := 475) dL_law_475 (by decide) ?_
  refine AW.iadd (pc := 476) dL_law_476 ?_
  refine AW.sld (pc := 477) dL_law_477 hk0 hx1 hp1 ?_
  refine AW.aload_n (pc := 478) dL_law_478 rfl rfl ?_
  refine AW.iload (pc := 479) dL_law_479 rfl ?_
  refine AW.iconst (v := 2) (pc := 481) dL_law_481 (by decide) ?_
  refine AW.iadd (pc := 482) dL_law_482 ?_
  refine AW.sld (pc := 483) dL_law_483 hk0 hx2 hp2 ?_
  refine AW.aload_n (pc := 484) dL_law_484 rfl rfl ?_
  refine AW.iload (pc := 485) dL_law_485 rfl ?_
  refine AW.iconst (v := 3) (pc := 487) dL_law_487 (by decide) ?_
  refine AW.iadd (pc := 488) dL_law_488 ?_
  refine AW.sld (pc := 489) dL_law_489 hk0 hx3 hp3 ?_
  refine AW.callV (pc := 490) (S' := []) dL_law_490 (c_M_setWindow (d := d - 1) ht (by omega) hw) ok_X5_setWindow tw_881 tw_882 tw_880 (fix_pos (by decide)) (lay_at ht (by decide)) (show aw_cl[5]? = some _ from rfl) rfl rfl (by omega) rfl (Nat.le_of_ble_eq_true rfl) (by omega) (by omega) ?_ (fun E h' k' hq => by obtain ⟨rfl, r5, m4, hv, -⟩ := hq; cases hv)
  intro v h' k' hq
  obtain ⟨rfl, r5, m4, hv, rfl, hw⟩ := hq
  cases hv
  show AW _ _ _ _ _ _ _ 493 [.ref 0, .ref 1, .ref 47, .ref 61, .int i, .int r2, .null, .null, .null] [.int r5] (lay t ex o3 m4) k _ _
  refine AW.istore (L' := [.ref 0, .ref 1, .ref 47, .ref 61, .int i, .int r2, .int r5, .null, .null]) (pc := 493) dL_law_493 (by decide) rfl rfl ?_
  refine AW.aload_n (pc := 495) dL_law_495 rfl rfl ?_
  refine AW.callV (pc := 496) (S' := []) dL_law_496 (c_M_thrown (d := d - 1) ht (by omega) hw) ok_X5_thrown tw_848 tw_849 tw_847 (fix_pos (by decide)) (lay_at ht (by decide)) (show aw_cl[5]? = some _ from rfl) rfl rfl (by omega) rfl (Nat.le_of_ble_eq_true rfl) (by omega) (by omega) ?_ (fun E h' k' hq => by obtain ⟨rfl, r7, m6, hv, -⟩ := hq; cases hv)
  intro v h' k' hq
  obtain ⟨rfl, r7, m6, hv, rfl, hw⟩ := hq
  cases hv
  show AW _ _ _ _ _ _ _ 499 [.ref 0, .ref 1, .ref 47, .ref 61, .int i, .int r2, .int r5, .null, .null] [.int r7] (lay t ex o3 m6) k _ _
  refine AW.iload (pc := 499) dL_law_499 rfl ?_
  refine AW.icmp_eq (pc := 501) (tgt := 506) dL_law_501 (by decide) (fun c8 => ?_) (fun c8 => ?_)
  · have hw := hw.1 c8
    refine AW.iload (pc := 506) dL_law_506 rfl ?_
    refine AW.if_ne (pc := 508) (tgt := 523) dL_law_508 (by decide) (fun c9 => ?_) (fun c9 => ?_)
    · have hw := hw.1 c9
      refine AW.goto (pc := 523) (tgt := 1639) dL_law_523 (by decide) ?_
      refine AW.locals (L' := [.ref 0, .ref 1, .ref 47, .ref 61, .int i, .null, .null, .null, .null]) (aw_fewer_same (aw_fewer_same (aw_fewer_same (aw_fewer_same (aw_fewer_same (aw_fewer_null (aw_fewer_null (aw_fewer_null (aw_fewer_null aw_fewer_nil))))))))) ?_
      refine AW.widen (cs' := cs + 837) (ss' := ss + 9372) (by omega) (by omega) ?_
      exact hKK ht hk _ _ hw
    · have hw := hw.2 c9
      refine AW.aload_n (pc := 511) dL_law_511 rfl rfl ?_
      refine AW.iconst (v := 0) (pc := 512) dL_law_512 (by decide) ?_
      refine LW.laldo (pc := 513) ht dL_law_513 ?_
      refine AW.iload (pc := 514) dL_law_514 rfl ?_
      refine AW.i2l (pc := 516) dL_law_516 ?_
      refine AW.lcmp (pc := 517) dL_law_517 ?_
      refine AW.if_eq (pc := 518) (tgt := 523) dL_law_518 (by decide) (fun c10 => ?_) (fun c10 => ?_)
      · have hw := hw.1 c10
        refine AW.goto (pc := 523) (tgt := 1639) dL_law_523 (by decide) ?_
        refine AW.locals (L' := [.ref 0, .ref 1, .ref 47, .ref 61, .int i, .null, .null, .null, .null]) (aw_fewer_same (aw_fewer_same (aw_fewer_same (aw_fewer_same (aw_fewer_same (aw_fewer_null (aw_fewer_null (aw_fewer_null (aw_fewer_null aw_fewer_nil))))))))) ?_
        refine AW.widen (cs' := cs + 837) (ss' := ss + 9372) (by omega) (by omega) ?_
        exact hKK ht hk _ _ hw
      · have hw := hw.2 c10
        refine AW.iconst (v := 0) (pc := 521) dL_law_521 (by decide) ?_
        exact hw.elim
  · have hw := hw.2 c8
    refine AW.iconst (v := 0) (pc := 504) dL_law_504 (by decide) ?_
    exact hw.elim
def wc_4 (p1 : Int32) (p2 : Int32) (o : Nat → Int64) (m : Mem) (K : (Nat → Int64) → Mem → Prop) : Prop :=
  w_L_setDelay p1 p2 o m (fun r2 o3 m1 => w_M_setDelay p1 p2 m1 (fun r5 m4 => w_M_thrown  m4 (fun r7 m6 => ((r7 = r2 → ((¬ (r2 = 0) → K o3 m6) ∧ (r2 = 0 → (((lg_cmp (o3 0) r5.toInt64) = 0 → K o3 m6) ∧ (¬ ((lg_cmp (o3 0) r5.toInt64) = 0) → False))))) ∧ (¬ (r7 = r2) → False)))))
set_option maxRecDepth 100000 in
set_option maxHeartbeats 4000000 in
theorem b_law_4 {n : Nat} {xs : Nat → Int32} {d k0 mc ms cs ss k t : Nat} {ex : Hp} {o : Nat → Int64} {m : Mem} {K : (Nat → Int64) → Mem → Prop} {i : Int32} {p1 : Int32} {p2 : Int32} (hk0 : 0 < k0) (hd : 40 ≤ d) (hcs : cs + 837 ≤ mc) (hss : ss + 9372 ≤ ms) (ht : tok t) (hk : kok t k) (hx1 : vp_in (i + (1 : Int32)) n) (hp1 : xs (i + (1 : Int32)).toNatClampNeg = p1) (hx2 : vp_in (i + (2 : Int32)) n) (hp2 : xs (i + (2 : Int32)).toNatClampNeg = p2)
    (hKK : ∀ {t2 k2 : Nat} {ex2 : Hp}, tok t2 → kok t2 k2 → ∀ (o2 : Nat → Int64) (m2 : Mem), K o2 m2 → AW (aw_ZL n xs) mlaw d k0 mc ms aw_QL 1639 [.ref 0, .ref 1, .ref 47, .ref 61, .int i, .null, .null, .null, .null] [] (lay t2 ex2 o2 m2) k2 (cs + 837) (ss + 9372))
    (hw : wc_4 p1 p2 o m K) : AW (aw_ZL n xs) mlaw d k0 mc ms aw_QL 526 [.ref 0, .ref 1, .ref 47, .ref 61, .int i, .null, .null, .null, .null] [] (lay t ex o m) k cs ss := by
  unfold wc_4 at hw
  refine AW.aload_n (pc := 526) dL_law_526 rfl rfl ?_
  refine AW.aload_n (pc := 527) dL_law_527 rfl rfl ?_
  refine AW.iload (pc := 528) dL_law_528 rfl ?_
  refine AW.iconst (v := 1) (pc := 530) dL_law_530 (by decide) ?_
  refine AW.iadd (pc := 531) dL_law_531 ?_
  refine AW.sld (pc := 532) dL_law_532 hk0 hx1 hp1 ?_
  refine AW.aload_n (pc := 533) dL_law_533 rfl rfl ?_
  refine AW.iload (pc := 534) dL_law_534 rfl ?_
  refine AW.iconst (v := 2) (pc := 536) dL_law_536 (by decide) ?_
  refine AW.iadd (pc := 537) dL_law_537 ?_
  refine AW.sld (pc := 538) dL_law_538 hk0 hx2 hp2 ?_
  refine AW.aload_n (pc := 539) dL_law_539 rfl rfl ?_
  refine AW.callSH (pc := 540) (S' := []) dL_law_540 (c_L_setDelay (d := d - 1) ht (by omega) hw) ok_L_setDelay tw_664 tw_663 rfl (by omega) rfl (Nat.le_of_ble_eq_true rfl) (by omega) (by omega) ?_ (fun E h' k' hq => by obtain ⟨rfl, r2, o3, m1, hv, -⟩ := hq; cases hv)
  intro v h' k' hq
  obtain ⟨rfl, r2, o3, m1, hv, rfl, hw⟩ := hq
  cases hv
  show AW _ _ _ _ _ _ _ 543 [.ref 0, .ref 1, .ref 47, .ref 61, .int i, .null, .null, .null, .null] [.int r2] (lay t ex o3 m1) k _ _
  refine AW.istore (L' := [.ref 0, .ref 1, .ref 47, .ref 61, .int i, .int r2, .null, .null, .null]) (pc := 543) dL_law_543 (by decide) rfl rfl ?_
  refine AW.aload_n (pc := 545) dL_law_545 rfl rfl ?_
  refine AW.aload_n (pc := 546) dL_law_546 rfl rfl ?_
  refine AW.iload (pc := 547) dL_law_547 rfl ?_
  refine AW.iconst (v := 1) (pc := 549) dL_law_549 (by decide) ?_
  refine AW.iadd (pc := 550) dL_law_550 ?_
  refine AW.sld (pc := 551) dL_law_551 hk0 hx1 hp1 ?_
  refine AW.aload_n (pc := 552) dL_law_552 rfl rfl ?_
  refine AW.iload (pc := 553) dL_law_553 rfl ?_
  refine AW.iconst (v := 2) (pc := 555) dL_law_555 (by decide) ?_
  refine AW.iadd (pc := 556) dL_law_556 ?_
  refine AW.sld (pc := 557) dL_law_557 hk0 hx2 hp2 ?_
  refine AW.callV (pc := 558) (S' := []) dL_law_558 (c_M_setDelay (d := d - 1) ht (by omega) hw) ok_X5_setDelay tw_889 tw_890 tw_888 (fix_pos (by decide)) (lay_at ht (by decide)) (show aw_cl[5]? = some _ from rfl) rfl rfl (by omega) rfl (Nat.le_of_ble_eq_true rfl) (by omega) (by omega) ?_ (fun E h' k' hq => by obtain ⟨rfl, r5, m4, hv, -⟩ := hq; cases hv)
  intro v h' k' hq
  obtain ⟨rfl, r5, m4, hv, rfl, hw⟩ := hq
  cases hv
  show AW _ _ _ _ _ _ _ 561 [.ref 0, .ref 1, .ref 47, .ref 61, .int i, .int r2, .null, .null, .null] [.int r5] (lay t ex o3 m4) k _ _
  refine AW.istore (L' := [.ref 0, .ref 1, .ref 47, .ref 61, .int i, .int r2, .int r5, .null, .null]) (pc := 561) dL_law_561 (by decide) rfl rfl ?_
  refine AW.aload_n (pc := 563) dL_law_563 rfl rfl ?_
  refine AW.callV (pc := 564) (S' := []) dL_law_564 (c_M_thrown (d := d - 1) ht (by omega) hw) ok_X5_thrown tw_848 tw_849 tw_847 (fix_pos (by decide)) (lay_at ht (by decide)) (show aw_cl[5]? = some _ from rfl) rfl rfl (by omega) rfl (Nat.le_of_ble_eq_true rfl) (by omega) (by omega) ?_ (fun E h' k' hq => by obtain ⟨rfl, r7, m6, hv, -⟩ := hq; cases hv)
  intro v h' k' hq
  obtain ⟨rfl, r7, m6, hv, rfl, hw⟩ := hq
  cases hv
  show AW _ _ _ _ _ _ _ 567 [.ref 0, .ref 1, .ref 47, .ref 61, .int i, .int r2, .int r5, .null, .null] [.int r7] (lay t ex o3 m6) k _ _
  refine AW.iload (pc := 567) dL_law_567 rfl ?_
  refine AW.icmp_eq (pc := 569) (tgt := 574) dL_law_569 (by decide) (fun c8 => ?_) (fun c8 => ?_)
  · have hw := hw.1 c8
    refine AW.iload (pc := 574) dL_law_574 rfl ?_
    refine AW.if_ne (pc := 576) (tgt := 591) dL_law_576 (by decide) (fun c9 => ?_) (fun c9 => ?_)
    · have hw := hw.1 c9
      refine AW.goto (pc := 591) (tgt := 1639) dL_law_591 (by decide) ?_
      refine AW.locals (L' := [.ref 0, .ref 1, .ref 47, .ref 61, .int i, .null, .null, .null, .null]) (aw_fewer_same (aw_fewer_same (aw_fewer_same (aw_fewer_same (aw_fewer_same (aw_fewer_null (aw_fewer_null (aw_fewer_null (aw_fewer_null aw_fewer_nil))))))))) ?_
      refine AW.widen (cs' := cs + 837) (ss' := ss + 9372) (by omega) (by omega) ?_
      exact hKK ht hk _ _ hw
    · have hw := hw.2 c9
      refine AW.aload_n (pc := 579) dL_law_579 rfl rfl ?_
      refine AW.iconst (v := 0) (pc := 580) dL_law_580 (by decide) ?_
      refine LW.laldo (pc := 581) ht dL_law_581 ?_
      refine AW.iload (pc := 582) dL_law_582 rfl ?_
      refine AW.i2l (pc := 584) dL_law_584 ?_
      refine AW.lcmp (pc := 585) dL_law_585 ?_
      refine AW.if_eq (pc := 586) (tgt := 591) dL_law_586 (by decide) (fun c10 => ?_) (fun c10 => ?_)
      · have hw := hw.1 c10
        refine AW.goto (pc := 591) (tgt := 1639) dL_law_591 (by decide) ?_
        refine AW.locals (L' := [.ref 0, .ref 1, .ref 47, .ref 61, .int i, .null, .null, .null, .null]) (aw_fewer_same (aw_fewer_same (aw_fewer_same (aw_fewer_same (aw_fewer_same (aw_fewer_null (aw_fewer_null (aw_fewer_null (aw_fewer_null aw_fewer_nil))))))))) ?_
        refine AW.widen (cs' := cs + 837) (ss' := ss + 9372) (by omega) (by omega) ?_
        exact hKK ht hk _ _ hw
      · have hw := hw.2 c10
        refine AW.iconst (v := 0) (pc := 589) dL_law_589 (by decide) ?_
        exact hw.elim
  · have hw := hw.2 c8
    refine AW.iconst (v := 0) (pc := 572) dL_law_572 (by decide) ?_
    exact hw.elim
def wc_5 (o : Nat → Int64) (m : Mem) (K : (Nat → Int64) → Mem → Prop) : Prop :=
  w_N_lines  m (fun r2 m1 => w_M_lines  m1 (fun r4 m3 => ((r2 = r4 → K o m3) ∧ (¬ (r2 = r4) → False))))
set_option maxRecDepth 100000 in
set_option maxHeartbeats 4000000 in
theorem b_law_5 {n : Nat} {xs : Nat → Int32} {d k0 mc ms cs ss k t : Nat} {ex : Hp} {o : Nat → Int64} {m : Mem} {K : (Nat → Int64) → Mem → Prop} {i : Int32}  (hk0 : 0 < k0) (hd : 40 ≤ d) (hcs : cs + 837 ≤ mc) (hss : ss + 9372 ≤ ms) (ht : tok t) (hk : kok t k) 
    (hKK : ∀ {t2 k2 : Nat} {ex2 : Hp}, tok t2 → kok t2 k2 → ∀ (o2 : Nat → Int64) (m2 : Mem), K o2 m2 → AW (aw_ZL n xs) mlaw d k0 mc ms aw_QL 1639 [.ref 0, .ref 1, .ref 47, .ref 61, .int i, .null, .null, .null, .null] [] (lay t2 ex2 o2 m2) k2 (cs + 837) (ss + 9372))
    (hw : wc_5  o m K) : AW (aw_ZL n xs) mlaw d k0 mc ms aw_QL 594 [.ref 0, .ref 1, .ref 47, .ref 61, .int i, .null, .null, .null, .null] [] (lay t ex o m) k cs ss := by
  unfold wc_5 at hw
  refine AW.aload_n (pc := 594) dL_law_594 rfl rfl ?_
  refine AW.callV (pc := 595) (S' := []) dL_law_595 (c_N_lines (d := d - 1) ht (by omega) hw) ok_X4_lines tw_253 tw_254 tw_252 (fix_pos (by decide)) (lay_at ht (by decide)) (show aw_cl[4]? = some _ from rfl) rfl rfl (by omega) rfl (Nat.le_of_ble_eq_true rfl) (by omega) (by omega) ?_ (fun E h' k' hq => by obtain ⟨rfl, r2, m1, hv, -⟩ := hq; cases hv)
  intro v h' k' hq
  obtain ⟨rfl, r2, m1, hv, rfl, hw⟩ := hq
  cases hv
  show AW _ _ _ _ _ _ _ 598 [.ref 0, .ref 1, .ref 47, .ref 61, .int i, .null, .null, .null, .null] [.int r2] (lay t ex o m1) k _ _
  refine AW.aload_n (pc := 598) dL_law_598 rfl rfl ?_
  refine AW.callV (pc := 599) (S' := [.int r2]) dL_law_599 (c_M_lines (d := d - 1) ht (by omega) hw) ok_X5_lines tw_893 tw_894 tw_892 (fix_pos (by decide)) (lay_at ht (by decide)) (show aw_cl[5]? = some _ from rfl) rfl rfl (by omega) rfl (Nat.le_of_ble_eq_true rfl) (by omega) (by omega) ?_ (fun E h' k' hq => by obtain ⟨rfl, r4, m3, hv, -⟩ := hq; cases hv)
  intro v h' k' hq
  obtain ⟨rfl, r4, m3, hv, rfl, hw⟩ := hq
  cases hv
  show AW _ _ _ _ _ _ _ 602 [.ref 0, .ref 1, .ref 47, .ref 61, .int i, .null, .null, .null, .null] [.int r4, .int r2] (lay t ex o m3) k _ _
  refine AW.icmp_eq (pc := 602) (tgt := 1639) dL_law_602 (by decide) (fun c5 => ?_) (fun c5 => ?_)
  · have hw := hw.1 c5
    refine AW.widen (cs' := cs + 837) (ss' := ss + 9372) (by omega) (by omega) ?_
    exact hKK ht hk _ _ hw
  · have hw := hw.2 c5
    refine AW.iconst (v := 0) (pc := 605) dL_law_605 (by decide) ?_
    exact hw.elim
def wc_6 (o : Nat → Int64) (m : Mem) (K : (Nat → Int64) → Mem → Prop) : Prop :=
  w_N_flaws  m (fun r2 m1 => w_M_flaws  m1 (fun r4 m3 => ((r2 = r4 → K o m3) ∧ (¬ (r2 = r4) → False))))
set_option maxRecDepth 100000 in
set_option maxHeartbeats 4000000 in
theorem b_law_6 {n : Nat} {xs : Nat → Int32} {d k0 mc ms cs ss k t : Nat} {ex : Hp} {o : Nat → Int64} {m : Mem} {K : (Nat → Int64) → Mem → Prop} {i : Int32}  (hk0 : 0 < k0) (hd : 40 ≤ d) (hcs : cs + 837 ≤ mc) (hss : ss + 9372 ≤ ms) (ht : tok t) (hk : kok t k) 
    (hKK : ∀ {t2 k2 : Nat} {ex2 : Hp}, tok t2 → kok t2 k2 → ∀ (o2 : Nat → Int64) (m2 : Mem), K o2 m2 → AW (aw_ZL n xs) mlaw d k0 mc ms aw_QL 1639 [.ref 0, .ref 1, .ref 47, .ref 61, .int i, .null, .null, .null, .null] [] (lay t2 ex2 o2 m2) k2 (cs + 837) (ss + 9372))
    (hw : wc_6  o m K) : AW (aw_ZL n xs) mlaw d k0 mc ms aw_QL 607 [.ref 0, .ref 1, .ref 47, .ref 61, .int i, .null, .null, .null, .null] [] (lay t ex o m) k cs ss := by
  unfold wc_6 at hw
  refine AW.aload_n (pc := 607) dL_law_607 rfl rfl ?_
  refine AW.callV (pc := 608) (S' := []) dL_law_608 (c_N_flaws (d := d - 1) ht (by omega) hw) ok_X4_flaws tw_257 tw_258 tw_256 (fix_pos (by decide)) (lay_at ht (by decide)) (show aw_cl[4]? = some _ from rfl) rfl rfl (by omega) rfl (Nat.le_of_ble_eq_true rfl) (by omega) (by omega) ?_ (fun E h' k' hq => by obtain ⟨rfl, r2, m1, hv, -⟩ := hq; cases hv)
  intro v h' k' hq
  obtain ⟨rfl, r2, m1, hv, rfl, hw⟩ := hq
  cases hv
  show AW _ _ _ _ _ _ _ 611 [.ref 0, .ref 1, .ref 47, .ref 61, .int i, .null, .null, .null, .null] [.int r2] (lay t ex o m1) k _ _
  refine AW.aload_n (pc := 611) dL_law_611 rfl rfl ?_
  refine AW.callV (pc := 612) (S' := [.int r2]) dL_law_612 (c_M_flaws (d := d - 1) ht (by omega) hk hw) ok_X5_flaws tw_901 tw_902 tw_900 (fix_pos (by decide)) (lay_at ht (by decide)) (show aw_cl[5]? = some _ from rfl) rfl rfl (by omega) rfl (Nat.le_of_ble_eq_true rfl) (by omega) (by omega) ?_ (fun E h' k' hq => by obtain ⟨ex6, r4, m3, hx7, hv, -⟩ := hq; cases hv)
  intro v h' k5 hq
  obtain ⟨ex6, r4, m3, hx7, hv, rfl, hw⟩ := hq
  cases hv
  show AW _ _ _ _ _ _ _ 615 [.ref 0, .ref 1, .ref 47, .ref 61, .int i, .null, .null, .null, .null] [.int r4, .int r2] (lay t ex6 o m3) k5 _ _
  refine AW.icmp_eq (pc := 615) (tgt := 1639) dL_law_615 (by decide) (fun c8 => ?_) (fun c8 => ?_)
  · have hw := hw.1 c8
    refine AW.widen (cs' := cs + 837) (ss' := ss + 9372) (by omega) (by omega) ?_
    exact hKK ht (hk.le hx7) _ _ hw
  · have hw := hw.2 c8
    refine AW.iconst (v := 0) (pc := 618) dL_law_618 (by decide) ?_
    exact hw.elim
def wc_7 (p1 : Int32) (p2 : Int32) (o : Nat → Int64) (m : Mem) (K : (Nat → Int64) → Mem → Prop) : Prop :=
  w_L_ofFlaw p1 p2 o m (fun r2 o3 m1 => w_M_ofFlaw p1 p2 m1 (fun r5 m4 => w_M_thrown  m4 (fun r10 m9 => ((r10 = r2 → ((¬ (r2 = 0) → K o3 m9) ∧ (r2 = 0 → (((lg_cmp (o3 0) r5.toInt64) = 0 → K o3 m9) ∧ (¬ ((lg_cmp (o3 0) r5.toInt64) = 0) → False))))) ∧ (¬ (r10 = r2) → False)))))
set_option maxRecDepth 100000 in
set_option maxHeartbeats 4000000 in
theorem b_law_7 {n : Nat} {xs : Nat → Int32} {d k0 mc ms cs ss k t : Nat} {ex : Hp} {o : Nat → Int64} {m : Mem} {K : (Nat → Int64) → Mem → Prop} {i : Int32} {p1 : Int32} {p2 : Int32} (hk0 : 0 < k0) (hd : 40 ≤ d) (hcs : cs + 837 ≤ mc) (hss : ss + 9372 ≤ ms) (ht : tok t) (hk : kok t k) (hx1 : vp_in (i + (1 : Int32)) n) (hp1 : xs (i + (1 : Int32)).toNatClampNeg = p1) (hx2 : vp_in (i + (2 : Int32)) n) (hp2 : xs (i + (2 : Int32)).toNatClampNeg = p2)
    (hKK : ∀ {t2 k2 : Nat} {ex2 : Hp}, tok t2 → kok t2 k2 → ∀ (o2 : Nat → Int64) (m2 : Mem), K o2 m2 → AW (aw_ZL n xs) mlaw d k0 mc ms aw_QL 1639 [.ref 0, .ref 1, .ref 47, .ref 61, .int i, .null, .null, .null, .null] [] (lay t2 ex2 o2 m2) k2 (cs + 837) (ss + 9372))
    (hw : wc_7 p1 p2 o m K) : AW (aw_ZL n xs) mlaw d k0 mc ms aw_QL 620 [.ref 0, .ref 1, .ref 47, .ref 61, .int i, .null, .null, .null, .null] [] (lay t ex o m) k cs ss := by
  unfold wc_7 at hw
  refine AW.aload_n (pc := 620) dL_law_620 rfl rfl ?_
  refine AW.aload_n (pc := 621) dL_law_621 rfl rfl ?_
  refine AW.iload (pc := 622) dL_law_622 rfl ?_
  refine AW.iconst (v := 1) (pc := 624) dL_law_624 (by decide) ?_
  refine AW.iadd (pc := 625) dL_law_625 ?_
  refine AW.sld (pc := 626) dL_law_626 hk0 hx1 hp1 ?_
  refine AW.aload_n (pc := 627) dL_law_627 rfl rfl ?_
  refine AW.iload (pc := 628) dL_law_628 rfl ?_
  refine AW.iconst (v := 2) (pc := 630) dL_law_630 (by decide) ?_
  refine AW.iadd (pc := 631) dL_law_631 ?_
  refine AW.sld (pc := 632) dL_law_632 hk0 hx2 hp2 ?_
  refine AW.aload_n (pc := 633) dL_law_633 rfl rfl ?_
  refine AW.callSH (pc := 634) (S' := []) dL_law_634 (c_L_ofFlaw (d := d - 1) ht (by omega) hw) ok_L_ofFlaw tw_676 tw_675 rfl (by omega) rfl (Nat.le_of_ble_eq_true rfl) (by omega) (by omega) ?_ (fun E h' k' hq => by obtain ⟨rfl, r2, o3, m1, hv, -⟩ := hq; cases hv)
  intro v h' k' hq
  obtain ⟨rfl, r2, o3, m1, hv, rfl, hw⟩ := hq
  cases hv
  show AW _ _ _ _ _ _ _ 637 [.ref 0, .ref 1, .ref 47, .ref 61, .int i, .null, .null, .null, .null] [.int r2] (lay t ex o3 m1) k _ _
  refine AW.istore (L' := [.ref 0, .ref 1, .ref 47, .ref 61, .int i, .int r2, .null, .null, .null]) (pc := 637) dL_law_637 (by decide) rfl rfl ?_
  refine AW.aload_n (pc := 639) dL_law_639 rfl rfl ?_
  refine AW.aload_n (pc := 640) dL_law_640 rfl rfl ?_
  refine AW.iload (pc := 641) dL_law_641 rfl ?_
  refine AW.iconst (v := 1) (pc := 643) dL_law_643 (by decide) ?_
  refine AW.iadd (pc := 644) dL_law_644 ?_
  refine AW.sld (pc := 645) dL_law_645 hk0 hx1 hp1 ?_
  refine AW.aload_n (pc := 646) dL_law_646 rfl rfl ?_
  refine AW.iload (pc := 647) dL_law_647 rfl ?_
  refine AW.iconst (v := 2) (pc := 649) dL_law_649 (by decide) ?_
  refine AW.iadd (pc := 650) dL_law_650 ?_
  refine AW.sld (pc := 651) dL_law_651 hk0 hx2 hp2 ?_
  refine AW.callV (pc := 652) (S' := []) dL_law_652 (c_M_ofFlaw (d := d - 1) ht (by omega) hk hw) ok_X5_ofFlaw tw_933 tw_934 tw_932 (fix_pos (by decide)) (lay_at ht (by decide)) (show aw_cl[5]? = some _ from rfl) rfl rfl (by omega) rfl (Nat.le_of_ble_eq_true rfl) (by omega) (by omega) ?_ (fun E h' k' hq => by obtain ⟨ex7, r5, m4, hx8, hv, -⟩ := hq; cases hv)
  intro v h' k6 hq
  obtain ⟨ex7, r5, m4, hx8, hv, rfl, hw⟩ := hq
  cases hv
  show AW _ _ _ _ _ _ _ 655 [.ref 0, .ref 1, .ref 47, .ref 61, .int i, .int r2, .null, .null, .null] [.int r5] (lay t ex7 o3 m4) k6 _ _
  refine AW.istore (L' := [.ref 0, .ref 1, .ref 47, .ref 61, .int i, .int r2, .int r5, .null, .null]) (pc := 655) dL_law_655 (by decide) rfl rfl ?_
  refine AW.aload_n (pc := 657) dL_law_657 rfl rfl ?_
  refine AW.callV (pc := 658) (S' := []) dL_law_658 (c_M_thrown (d := d - 1) ht (by omega) hw) ok_X5_thrown tw_848 tw_849 tw_847 (fix_pos (by decide)) (lay_at ht (by decide)) (show aw_cl[5]? = some _ from rfl) rfl rfl (by omega) rfl (Nat.le_of_ble_eq_true rfl) (by omega) (by omega) ?_ (fun E h' k' hq => by obtain ⟨rfl, r10, m9, hv, -⟩ := hq; cases hv)
  intro v h' k' hq
  obtain ⟨rfl, r10, m9, hv, rfl, hw⟩ := hq
  cases hv
  show AW _ _ _ _ _ _ _ 661 [.ref 0, .ref 1, .ref 47, .ref 61, .int i, .int r2, .int r5, .null, .null] [.int r10] (lay t ex7 o3 m9) k6 _ _
  refine AW.iload (pc := 661) dL_law_661 rfl ?_
  refine AW.icmp_eq (pc := 663) (tgt := 668) dL_law_663 (by decide) (fun c11 => ?_) (fun c11 => ?_)
  · have hw := hw.1 c11
    refine AW.iload (pc := 668) dL_law_668 rfl ?_
    refine AW.if_ne (pc := 670) (tgt := 685) dL_law_670 (by decide) (fun c12 => ?_) (fun c12 => ?_)
    · have hw := hw.1 c12
      refine AW.goto (pc := 685) (tgt := 1639) dL_law_685 (by decide) ?_
      refine AW.locals (L' := [.ref 0, .ref 1, .ref 47, .ref 61, .int i, .null, .null, .null, .null]) (aw_fewer_same (aw_fewer_same (aw_fewer_same (aw_fewer_same (aw_fewer_same (aw_fewer_null (aw_fewer_null (aw_fewer_null (aw_fewer_null aw_fewer_nil))))))))) ?_
      refine AW.widen (cs' := cs + 837) (ss' := ss + 9372) (by omega) (by omega) ?_
      exact hKK ht (hk.le hx8) _ _ hw
    · have hw := hw.2 c12
      refine AW.aload_n (pc := 673) dL_law_673 rfl rfl ?_
      refine AW.iconst (v := 0) (pc := 674) dL_law_674 (by decide) ?_
      refine LW.laldo (pc := 675) ht dL_law_675 ?_
      refine AW.iload (pc := 676) dL_law_676 rfl ?_
      refine AW.i2l (pc := 678) dL_law_678 ?_
      refine AW.lcmp (pc := 679) dL_law_679 ?_
      refine AW.if_eq (pc := 680) (tgt := 685) dL_law_680 (by decide) (fun c13 => ?_) (fun c13 => ?_)
      · have hw := hw.1 c13
        refine AW.goto (pc := 685) (tgt := 1639) dL_law_685 (by decide) ?_
        refine AW.locals (L' := [.ref 0, .ref 1, .ref 47, .ref 61, .int i, .null, .null, .null, .null]) (aw_fewer_same (aw_fewer_same (aw_fewer_same (aw_fewer_same (aw_fewer_same (aw_fewer_null (aw_fewer_null (aw_fewer_null (aw_fewer_null aw_fewer_nil))))))))) ?_
        refine AW.widen (cs' := cs + 837) (ss' := ss + 9372) (by omega) (by omega) ?_
        exact hKK ht (hk.le hx8) _ _ hw
      · have hw := hw.2 c13
        refine AW.iconst (v := 0) (pc := 683) dL_law_683 (by decide) ?_
        exact hw.elim
  · have hw := hw.2 c11
    refine AW.iconst (v := 0) (pc := 666) dL_law_666 (by decide) ?_
    exact hw.elim
def wc_8 (p1 : Int32) (o : Nat → Int64) (m : Mem) (K : (Nat → Int64) → Mem → Prop) : Prop :=
  w_L_arrival p1 o m (fun r2 o3 m1 => w_M_arrival p1 m1 (fun r5 m4 => w_M_thrown  m4 (fun r10 m9 => ((r10 = r2 → ((¬ (r2 = 0) → K o3 m9) ∧ (r2 = 0 → (((lg_cmp (o3 0) r5.toInt64) = 0 → K o3 m9) ∧ (¬ ((lg_cmp (o3 0) r5.toInt64) = 0) → False))))) ∧ (¬ (r10 = r2) → False)))))
set_option maxRecDepth 100000 in
set_option maxHeartbeats 4000000 in
theorem b_law_8 {n : Nat} {xs : Nat → Int32} {d k0 mc ms cs ss k t : Nat} {ex : Hp} {o : Nat → Int64} {m : Mem} {K : (Nat → Int64) → Mem → Prop} {i : Int32} {p1 : Int32} (hk0 : 0 < k0) (hd : 40 ≤ d) (hcs : cs + 837 ≤ mc) (hss : ss + 9372 ≤ ms) (ht : tok t) (hk : kok t k) (hx1 : vp_in (i + (1 : Int32)) n) (hp1 : xs (i + (1 : Int32)).toNatClampNeg = p1)
    (hKK : ∀ {t2 k2 : Nat} {ex2 : Hp}, tok t2 → kok t2 k2 → ∀ (o2 : Nat → Int64) (m2 : Mem), K o2 m2 → AW (aw_ZL n xs) mlaw d k0 mc ms aw_QL 1639 [.ref 0, .ref 1, .ref 47, .ref 61, .int i, .null, .null, .null, .null] [] (lay t2 ex2 o2 m2) k2 (cs + 837) (ss + 9372))
    (hw : wc_8 p1 o m K) : AW (aw_ZL n xs) mlaw d k0 mc ms aw_QL 688 [.ref 0, .ref 1, .ref 47, .ref 61, .int i, .null, .null, .null, .null] [] (lay t ex o m) k cs ss := by
  unfold wc_8 at hw
  refine AW.aload_n (pc := 688) dL_law_688 rfl rfl ?_
  refine AW.aload_n (pc := 689) dL_law_689 rfl rfl ?_
  refine AW.iload (pc := 690) dL_law_690 rfl ?_
  refine AW.iconst (v := 1) (pc := 692) dL_law_692 (by decide) ?_
  refine AW.iadd (pc := 693) dL_law_693 ?_
  refine AW.sld (pc := 694) dL_law_694 hk0 hx1 hp1 ?_
  refine AW.aload_n (pc := 695) dL_law_695 rfl rfl ?_
  refine AW.callSH (pc := 696) (S' := []) dL_law_696 (c_L_arrival (d := d - 1) ht (by omega) hw) ok_L_arrival tw_680 tw_679 rfl (by omega) rfl (Nat.le_of_ble_eq_true rfl) (by omega) (by omega) ?_ (fun E h' k' hq => by obtain ⟨rfl, r2, o3, m1, hv, -⟩ := hq; cases hv)
  intro v h' k' hq
  obtain ⟨rfl, r2, o3, m1, hv, rfl, hw⟩ := hq
  cases hv
  show AW _ _ _ _ _ _ _ 699 [.ref 0, .ref 1, .ref 47, .ref 61, .int i, .null, .null, .null, .null] [.int r2] (lay t ex o3 m1) k _ _
  refine AW.istore (L' := [.ref 0, .ref 1, .ref 47, .ref 61, .int i, .int r2, .null, .null, .null]) (pc := 699) dL_law_699 (by decide) rfl rfl ?_
  refine AW.aload_n (pc := 701) dL_law_701 rfl rfl ?_
  refine AW.aload_n (pc := 702) dL_law_702 rfl rfl ?_
  refine AW.iload (pc := 703) dL_law_703 rfl ?_
  refine AW.iconst (v := 1) (pc := 705) dL_law_705 (by decide) ?_
  refine AW.iadd (pc := 706) dL_law_706 ?_
  refine AW.sld (pc := 707) dL_law_707 hk0 hx1 hp1 ?_
  refine AW.callV (pc := 708) (S' := []) dL_law_708 (c_M_arrival (d := d - 1) ht (by omega) hk hw) ok_X5_arrival tw_937 tw_938 tw_936 (fix_pos (by decide)) (lay_at ht (by decide)) (show aw_cl[5]? = some _ from rfl) rfl rfl (by omega) rfl (Nat.le_of_ble_eq_true rfl) (by omega) (by omega) ?_ (fun E h' k' hq => by obtain ⟨ex7, r5, m4, hx8, hv, -⟩ := hq; cases hv)
  intro v h' k6 hq
  obtain ⟨ex7, r5, m4, hx8, hv, rfl, hw⟩ := hq
  cases hv
  show AW _ _ _ _ _ _ _ 711 [.ref 0, .ref 1, .ref 47, .ref 61, .int i, .int r2, .null, .null, .null] [.int r5] (lay t ex7 o3 m4) k6 _ _
  refine AW.istore (L' := [.ref 0, .ref 1, .ref 47, .ref 61, .int i, .int r2, .int r5, .null, .null]) (pc := 711) dL_law_711 (by decide) rfl rfl ?_
  refine AW.aload_n (pc := 713) dL_law_713 rfl rfl ?_
  refine AW.callV (pc := 714) (S' := []) dL_law_714 (c_M_thrown (d := d - 1) ht (by omega) hw) ok_X5_thrown tw_848 tw_849 tw_847 (fix_pos (by decide)) (lay_at ht (by decide)) (show aw_cl[5]? = some _ from rfl) rfl rfl (by omega) rfl (Nat.le_of_ble_eq_true rfl) (by omega) (by omega) ?_ (fun E h' k' hq => by obtain ⟨rfl, r10, m9, hv, -⟩ := hq; cases hv)
  intro v h' k' hq
  obtain ⟨rfl, r10, m9, hv, rfl, hw⟩ := hq
  cases hv
  show AW _ _ _ _ _ _ _ 717 [.ref 0, .ref 1, .ref 47, .ref 61, .int i, .int r2, .int r5, .null, .null] [.int r10] (lay t ex7 o3 m9) k6 _ _
  refine AW.iload (pc := 717) dL_law_717 rfl ?_
  refine AW.icmp_eq (pc := 719) (tgt := 724) dL_law_719 (by decide) (fun c11 => ?_) (fun c11 => ?_)
  · have hw := hw.1 c11
    refine AW.iload (pc := 724) dL_law_724 rfl ?_
    refine AW.if_ne (pc := 726) (tgt := 741) dL_law_726 (by decide) (fun c12 => ?_) (fun c12 => ?_)
    · have hw := hw.1 c12
      refine AW.goto (pc := 741) (tgt := 1639) dL_law_741 (by decide) ?_
      refine AW.locals (L' := [.ref 0, .ref 1, .ref 47, .ref 61, .int i, .null, .null, .null, .null]) (aw_fewer_same (aw_fewer_same (aw_fewer_same (aw_fewer_same (aw_fewer_same (aw_fewer_null (aw_fewer_null (aw_fewer_null (aw_fewer_null aw_fewer_nil))))))))) ?_
      refine AW.widen (cs' := cs + 837) (ss' := ss + 9372) (by omega) (by omega) ?_
      exact hKK ht (hk.le hx8) _ _ hw
    · have hw := hw.2 c12
      refine AW.aload_n (pc := 729) dL_law_729 rfl rfl ?_
      refine AW.iconst (v := 0) (pc := 730) dL_law_730 (by decide) ?_
      refine LW.laldo (pc := 731) ht dL_law_731 ?_
      refine AW.iload (pc := 732) dL_law_732 rfl ?_
      refine AW.i2l (pc := 734) dL_law_734 ?_
      refine AW.lcmp (pc := 735) dL_law_735 ?_
      refine AW.if_eq (pc := 736) (tgt := 741) dL_law_736 (by decide) (fun c13 => ?_) (fun c13 => ?_)
      · have hw := hw.1 c13
        refine AW.goto (pc := 741) (tgt := 1639) dL_law_741 (by decide) ?_
        refine AW.locals (L' := [.ref 0, .ref 1, .ref 47, .ref 61, .int i, .null, .null, .null, .null]) (aw_fewer_same (aw_fewer_same (aw_fewer_same (aw_fewer_same (aw_fewer_same (aw_fewer_null (aw_fewer_null (aw_fewer_null (aw_fewer_null aw_fewer_nil))))))))) ?_
        refine AW.widen (cs' := cs + 837) (ss' := ss + 9372) (by omega) (by omega) ?_
        exact hKK ht (hk.le hx8) _ _ hw
      · have hw := hw.2 c13
        refine AW.iconst (v := 0) (pc := 739) dL_law_739 (by decide) ?_
        exact hw.elim
  · have hw := hw.2 c11
    refine AW.iconst (v := 0) (pc := 722) dL_law_722 (by decide) ?_
    exact hw.elim
def wc_9 (o : Nat → Int64) (m : Mem) (K : (Nat → Int64) → Mem → Prop) : Prop :=
  w_N_longest  m (fun r2 m1 => w_M_longest  m1 (fun r4 m3 => ((r2 = r4 → K o m3) ∧ (¬ (r2 = r4) → False))))
set_option maxRecDepth 100000 in
set_option maxHeartbeats 4000000 in
theorem b_law_9 {n : Nat} {xs : Nat → Int32} {d k0 mc ms cs ss k t : Nat} {ex : Hp} {o : Nat → Int64} {m : Mem} {K : (Nat → Int64) → Mem → Prop} {i : Int32}  (hk0 : 0 < k0) (hd : 40 ≤ d) (hcs : cs + 837 ≤ mc) (hss : ss + 9372 ≤ ms) (ht : tok t) (hk : kok t k) 
    (hKK : ∀ {t2 k2 : Nat} {ex2 : Hp}, tok t2 → kok t2 k2 → ∀ (o2 : Nat → Int64) (m2 : Mem), K o2 m2 → AW (aw_ZL n xs) mlaw d k0 mc ms aw_QL 1639 [.ref 0, .ref 1, .ref 47, .ref 61, .int i, .null, .null, .null, .null] [] (lay t2 ex2 o2 m2) k2 (cs + 837) (ss + 9372))
    (hw : wc_9  o m K) : AW (aw_ZL n xs) mlaw d k0 mc ms aw_QL 744 [.ref 0, .ref 1, .ref 47, .ref 61, .int i, .null, .null, .null, .null] [] (lay t ex o m) k cs ss := by
  unfold wc_9 at hw
  refine AW.aload_n (pc := 744) dL_law_744 rfl rfl ?_
  refine AW.callV (pc := 745) (S' := []) dL_law_745 (c_N_longest (d := d - 1) ht (by omega) hw) ok_X4_longest tw_261 tw_262 tw_260 (fix_pos (by decide)) (lay_at ht (by decide)) (show aw_cl[4]? = some _ from rfl) rfl rfl (by omega) rfl (Nat.le_of_ble_eq_true rfl) (by omega) (by omega) ?_ (fun E h' k' hq => by obtain ⟨rfl, r2, m1, hv, -⟩ := hq; cases hv)
  intro v h' k' hq
  obtain ⟨rfl, r2, m1, hv, rfl, hw⟩ := hq
  cases hv
  show AW _ _ _ _ _ _ _ 748 [.ref 0, .ref 1, .ref 47, .ref 61, .int i, .null, .null, .null, .null] [.int r2] (lay t ex o m1) k _ _
  refine AW.aload_n (pc := 748) dL_law_748 rfl rfl ?_
  refine AW.callV (pc := 749) (S' := [.int r2]) dL_law_749 (c_M_longest (d := d - 1) ht (by omega) hk hw) ok_X5_longest tw_961 tw_962 tw_960 (fix_pos (by decide)) (lay_at ht (by decide)) (show aw_cl[5]? = some _ from rfl) rfl rfl (by omega) rfl (Nat.le_of_ble_eq_true rfl) (by omega) (by omega) ?_ (fun E h' k' hq => by obtain ⟨ex6, r4, m3, hx7, hv, -⟩ := hq; cases hv)
  intro v h' k5 hq
  obtain ⟨ex6, r4, m3, hx7, hv, rfl, hw⟩ := hq
  cases hv
  show AW _ _ _ _ _ _ _ 752 [.ref 0, .ref 1, .ref 47, .ref 61, .int i, .null, .null, .null, .null] [.int r4, .int r2] (lay t ex6 o m3) k5 _ _
  refine AW.icmp_eq (pc := 752) (tgt := 1639) dL_law_752 (by decide) (fun c8 => ?_) (fun c8 => ?_)
  · have hw := hw.1 c8
    refine AW.widen (cs' := cs + 837) (ss' := ss + 9372) (by omega) (by omega) ?_
    exact hKK ht (hk.le hx7) _ _ hw
  · have hw := hw.2 c8
    refine AW.iconst (v := 0) (pc := 755) dL_law_755 (by decide) ?_
    exact hw.elim
def wc_10 (p1 : Int32) (o : Nat → Int64) (m : Mem) (K : (Nat → Int64) → Mem → Prop) : Prop :=
  w_N_way p1 m (fun r2 m1 => w_M_way p1 m1 (fun r4 m3 => ((r2 = r4 → K o m3) ∧ (¬ (r2 = r4) → False))))
set_option maxRecDepth 100000 in
set_option maxHeartbeats 4000000 in
theorem b_law_10 {n : Nat} {xs : Nat → Int32} {d k0 mc ms cs ss k t : Nat} {ex : Hp} {o : Nat → Int64} {m : Mem} {K : (Nat → Int64) → Mem → Prop} {i : Int32} {p1 : Int32} (hk0 : 0 < k0) (hd : 40 ≤ d) (hcs : cs + 837 ≤ mc) (hss : ss + 9372 ≤ ms) (ht : tok t) (hk : kok t k) (hx1 : vp_in (i + (1 : Int32)) n) (hp1 : xs (i + (1 : Int32)).toNatClampNeg = p1)
    (hKK : ∀ {t2 k2 : Nat} {ex2 : Hp}, tok t2 → kok t2 k2 → ∀ (o2 : Nat → Int64) (m2 : Mem), K o2 m2 → AW (aw_ZL n xs) mlaw d k0 mc ms aw_QL 1639 [.ref 0, .ref 1, .ref 47, .ref 61, .int i, .null, .null, .null, .null] [] (lay t2 ex2 o2 m2) k2 (cs + 837) (ss + 9372))
    (hw : wc_10 p1 o m K) : AW (aw_ZL n xs) mlaw d k0 mc ms aw_QL 757 [.ref 0, .ref 1, .ref 47, .ref 61, .int i, .null, .null, .null, .null] [] (lay t ex o m) k cs ss := by
  unfold wc_10 at hw
  refine AW.aload_n (pc := 757) dL_law_757 rfl rfl ?_
  refine AW.aload_n (pc := 758) dL_law_758 rfl rfl ?_
  refine AW.iload (pc := 759) dL_law_759 rfl ?_
  refine AW.iconst (v := 1) (pc := 761) dL_law_761 (by decide) ?_
  refine AW.iadd (pc := 762) dL_law_762 ?_
  refine AW.sld (pc := 763) dL_law_763 hk0 hx1 hp1 ?_
  refine AW.callV (pc := 764) (S' := []) dL_law_764 (c_N_way (d := d - 1) ht (by omega) hw) ok_X4_way tw_272 tw_273 tw_271 (fix_pos (by decide)) (lay_at ht (by decide)) (show aw_cl[4]? = some _ from rfl) rfl rfl (by omega) rfl (Nat.le_of_ble_eq_true rfl) (by omega) (by omega) ?_ (fun E h' k' hq => by obtain ⟨rfl, r2, m1, hv, -⟩ := hq; cases hv)
  intro v h' k' hq
  obtain ⟨rfl, r2, m1, hv, rfl, hw⟩ := hq
  cases hv
  show AW _ _ _ _ _ _ _ 767 [.ref 0, .ref 1, .ref 47, .ref 61, .int i, .null, .null, .null, .null] [.int r2] (lay t ex o m1) k _ _
  refine AW.aload_n (pc := 767) dL_law_767 rfl rfl ?_
  refine AW.aload_n (pc := 768) dL_law_768 rfl rfl ?_
  refine AW.iload (pc := 769) dL_law_769 rfl ?_
  refine AW.iconst (v := 1) (pc := 771) dL_law_771 (by decide) ?_
  refine AW.iadd (pc := 772) dL_law_772 ?_
  refine AW.sld (pc := 773) dL_law_773 hk0 hx1 hp1 ?_
  refine AW.callV (pc := 774) (S' := [.int r2]) dL_law_774 (c_M_way (d := d - 1) ht (by omega) hk hw) ok_X5_way tw_969 tw_970 tw_968 (fix_pos (by decide)) (lay_at ht (by decide)) (show aw_cl[5]? = some _ from rfl) rfl rfl (by omega) rfl (Nat.le_of_ble_eq_true rfl) (by omega) (by omega) ?_ (fun E h' k' hq => by obtain ⟨ex6, r4, m3, hx7, hv, -⟩ := hq; cases hv)
  intro v h' k5 hq
  obtain ⟨ex6, r4, m3, hx7, hv, rfl, hw⟩ := hq
  cases hv
  show AW _ _ _ _ _ _ _ 777 [.ref 0, .ref 1, .ref 47, .ref 61, .int i, .null, .null, .null, .null] [.int r4, .int r2] (lay t ex6 o m3) k5 _ _
  refine AW.icmp_eq (pc := 777) (tgt := 1639) dL_law_777 (by decide) (fun c8 => ?_) (fun c8 => ?_)
  · have hw := hw.1 c8
    refine AW.widen (cs' := cs + 837) (ss' := ss + 9372) (by omega) (by omega) ?_
    exact hKK ht (hk.le hx7) _ _ hw
  · have hw := hw.2 c8
    refine AW.iconst (v := 0) (pc := 780) dL_law_780 (by decide) ?_
    exact hw.elim
def wc_11 (p1 : Int32) (o : Nat → Int64) (m : Mem) (K : (Nat → Int64) → Mem → Prop) : Prop :=
  w_L_users p1 o m (fun r2 o3 m1 => w_M_users p1 m1 (fun r5 m4 => w_M_thrown  m4 (fun r7 m6 => ((r7 = r2 → ((¬ (r2 = 0) → K o3 m6) ∧ (r2 = 0 → (((lg_cmp (o3 0) r5.toInt64) = 0 → K o3 m6) ∧ (¬ ((lg_cmp (o3 0) r5.toInt64) = 0) → False))))) ∧ (¬ (r7 = r2) → False)))))
set_option maxRecDepth 100000 in
set_option maxHeartbeats 4000000 in
theorem b_law_11 {n : Nat} {xs : Nat → Int32} {d k0 mc ms cs ss k t : Nat} {ex : Hp} {o : Nat → Int64} {m : Mem} {K : (Nat → Int64) → Mem → Prop} {i : Int32} {p1 : Int32} (hk0 : 0 < k0) (hd : 40 ≤ d) (hcs : cs + 837 ≤ mc) (hss : ss + 9372 ≤ ms) (ht : tok t) (hk : kok t k) (hx1 : vp_in (i + (1 : Int32)) n) (hp1 : xs (i + (1 : Int32)).toNatClampNeg = p1)
    (hKK : ∀ {t2 k2 : Nat} {ex2 : Hp}, tok t2 → kok t2 k2 → ∀ (o2 : Nat → Int64) (m2 : Mem), K o2 m2 → AW (aw_ZL n xs) mlaw d k0 mc ms aw_QL 1639 [.ref 0, .ref 1, .ref 47, .ref 61, .int i, .null, .null, .null, .null] [] (lay t2 ex2 o2 m2) k2 (cs + 837) (ss + 9372))
    (hw : wc_11 p1 o m K) : AW (aw_ZL n xs) mlaw d k0 mc ms aw_QL 782 [.ref 0, .ref 1, .ref 47, .ref 61, .int i, .null, .null, .null, .null] [] (lay t ex o m) k cs ss := by
  unfold wc_11 at hw
  refine AW.aload_n (pc := 782) dL_law_782 rfl rfl ?_
  refine AW.aload_n (pc := 783) dL_law_783 rfl rfl ?_
  refine AW.iload (pc := 784) dL_law_784 rfl ?_
  refine AW.iconst (v := 1) (pc := 786) dL_law_786 (by decide) ?_
  refine AW.iadd (pc := 787) dL_law_787 ?_
  refine AW.sld (pc := 788) dL_law_788 hk0 hx1 hp1 ?_
  refine AW.aload_n (pc := 789) dL_law_789 rfl rfl ?_
  refine AW.callSH (pc := 790) (S' := []) dL_law_790 (c_L_users (d := d - 1) ht (by omega) hw) ok_L_users tw_684 tw_683 rfl (by omega) rfl (Nat.le_of_ble_eq_true rfl) (by omega) (by omega) ?_ (fun E h' k' hq => by obtain ⟨rfl, r2, o3, m1, hv, -⟩ := hq; cases hv)
  intro v h' k' hq
  obtain ⟨rfl, r2, o3, m1, hv, rfl, hw⟩ := hq
  cases hv
  show AW _ _ _ _ _ _ _ 793 [.ref 0, .ref 1, .ref 47, .ref 61, .int i, .null, .null, .null, .null] [.int r2] (lay t ex o3 m1) k _ _
  refine AW.istore (L' := [.ref 0, .ref 1, .ref 47, .ref 61, .int i, .int r2, .null, .null, .null]) (pc := 793) dL_law_793 (by decide) rfl rfl ?_
  refine AW.aload_n (pc := 795) dL_law_795 rfl rfl ?_
  refine AW.aload_n (pc := 796) dL_law_796 rfl rfl ?_
  refine AW.iload (pc := 797) dL_law_797 rfl ?_
  refine AW.iconst (v := 1) (pc := 799) dL_law_799 (by decide) ?_
  refine AW.iadd (pc := 800) dL_law_800 ?_
  refine AW.sld (pc := 801) dL_law_801 hk0 hx1 hp1 ?_
  refine AW.callV (pc := 802) (S' := []) dL_law_802 (c_M_users (d := d - 1) ht (by omega) hw) ok_X5_users tw_977 tw_978 tw_976 (fix_pos (by decide)) (lay_at ht (by decide)) (show aw_cl[5]? = some _ from rfl) rfl rfl (by omega) rfl (Nat.le_of_ble_eq_true rfl) (by omega) (by omega) ?_ (fun E h' k' hq => by obtain ⟨rfl, r5, m4, hv, -⟩ := hq; cases hv)
  intro v h' k' hq
  obtain ⟨rfl, r5, m4, hv, rfl, hw⟩ := hq
  cases hv
  show AW _ _ _ _ _ _ _ 805 [.ref 0, .ref 1, .ref 47, .ref 61, .int i, .int r2, .null, .null, .null] [.int r5] (lay t ex o3 m4) k _ _
  refine AW.istore (L' := [.ref 0, .ref 1, .ref 47, .ref 61, .int i, .int r2, .int r5, .null, .null]) (pc := 805) dL_law_805 (by decide) rfl rfl ?_
  refine AW.aload_n (pc := 807) dL_law_807 rfl rfl ?_
  refine AW.callV (pc := 808) (S' := []) dL_law_808 (c_M_thrown (d := d - 1) ht (by omega) hw) ok_X5_thrown tw_848 tw_849 tw_847 (fix_pos (by decide)) (lay_at ht (by decide)) (show aw_cl[5]? = some _ from rfl) rfl rfl (by omega) rfl (Nat.le_of_ble_eq_true rfl) (by omega) (by omega) ?_ (fun E h' k' hq => by obtain ⟨rfl, r7, m6, hv, -⟩ := hq; cases hv)
  intro v h' k' hq
  obtain ⟨rfl, r7, m6, hv, rfl, hw⟩ := hq
  cases hv
  show AW _ _ _ _ _ _ _ 811 [.ref 0, .ref 1, .ref 47, .ref 61, .int i, .int r2, .int r5, .null, .null] [.int r7] (lay t ex o3 m6) k _ _
  refine AW.iload (pc := 811) dL_law_811 rfl ?_
  refine AW.icmp_eq (pc := 813) (tgt := 818) dL_law_813 (by decide) (fun c8 => ?_) (fun c8 => ?_)
  · have hw := hw.1 c8
    refine AW.iload (pc := 818) dL_law_818 rfl ?_
    refine AW.if_ne (pc := 820) (tgt := 835) dL_law_820 (by decide) (fun c9 => ?_) (fun c9 => ?_)
    · have hw := hw.1 c9
      refine AW.goto (pc := 835) (tgt := 1639) dL_law_835 (by decide) ?_
      refine AW.locals (L' := [.ref 0, .ref 1, .ref 47, .ref 61, .int i, .null, .null, .null, .null]) (aw_fewer_same (aw_fewer_same (aw_fewer_same (aw_fewer_same (aw_fewer_same (aw_fewer_null (aw_fewer_null (aw_fewer_null (aw_fewer_null aw_fewer_nil))))))))) ?_
      refine AW.widen (cs' := cs + 837) (ss' := ss + 9372) (by omega) (by omega) ?_
      exact hKK ht hk _ _ hw
    · have hw := hw.2 c9
      refine AW.aload_n (pc := 823) dL_law_823 rfl rfl ?_
      refine AW.iconst (v := 0) (pc := 824) dL_law_824 (by decide) ?_
      refine LW.laldo (pc := 825) ht dL_law_825 ?_
      refine AW.iload (pc := 826) dL_law_826 rfl ?_
      refine AW.i2l (pc := 828) dL_law_828 ?_
      refine AW.lcmp (pc := 829) dL_law_829 ?_
      refine AW.if_eq (pc := 830) (tgt := 835) dL_law_830 (by decide) (fun c10 => ?_) (fun c10 => ?_)
      · have hw := hw.1 c10
        refine AW.goto (pc := 835) (tgt := 1639) dL_law_835 (by decide) ?_
        refine AW.locals (L' := [.ref 0, .ref 1, .ref 47, .ref 61, .int i, .null, .null, .null, .null]) (aw_fewer_same (aw_fewer_same (aw_fewer_same (aw_fewer_same (aw_fewer_same (aw_fewer_null (aw_fewer_null (aw_fewer_null (aw_fewer_null aw_fewer_nil))))))))) ?_
        refine AW.widen (cs' := cs + 837) (ss' := ss + 9372) (by omega) (by omega) ?_
        exact hKK ht hk _ _ hw
      · have hw := hw.2 c10
        refine AW.iconst (v := 0) (pc := 833) dL_law_833 (by decide) ?_
        exact hw.elim
  · have hw := hw.2 c8
    refine AW.iconst (v := 0) (pc := 816) dL_law_816 (by decide) ?_
    exact hw.elim
def wc_12 (o : Nat → Int64) (m : Mem) (K : (Nat → Int64) → Mem → Prop) : Prop :=
  w_L_start  o m (fun r2 o3 m1 => w_M_start m1 (fun r9 m9 => w_M_thrown  m9 (fun r5 m4 => ((r5 = r2 → ((¬ (r2 = 0) → K o3 m4) ∧ (r2 = 0 → (((lg_cmp (o3 0) r9.toInt64) = 0 → K o3 m4) ∧ (¬ ((lg_cmp (o3 0) r9.toInt64) = 0) → False))))) ∧ (¬ (r5 = r2) → False)))))
set_option maxRecDepth 100000 in
set_option maxHeartbeats 4000000 in
theorem b_law_12 {n : Nat} {xs : Nat → Int32} {d k0 mc ms cs ss k t : Nat} {ex : Hp} {o : Nat → Int64} {m : Mem} {K : (Nat → Int64) → Mem → Prop} {i : Int32}  (hk0 : 0 < k0) (hd : 40 ≤ d) (hcs : cs + 837 ≤ mc) (hss : ss + 9372 ≤ ms) (ht : tok t) (hk : kok t k) 
    (hKK : ∀ {t2 k2 : Nat} {ex2 : Hp}, tok t2 → kok t2 k2 → ∀ (o2 : Nat → Int64) (m2 : Mem), K o2 m2 → AW (aw_ZL n xs) mlaw d k0 mc ms aw_QL 1639 [.ref 0, .ref 1, .ref 47, .ref 61, .int i, .null, .null, .null, .null] [] (lay t2 ex2 o2 m2) k2 (cs + 837) (ss + 9372))
    (hw : wc_12  o m K) : AW (aw_ZL n xs) mlaw d k0 mc ms aw_QL 838 [.ref 0, .ref 1, .ref 47, .ref 61, .int i, .null, .null, .null, .null] [] (lay t ex o m) k cs ss := by
  unfold wc_12 at hw
  refine AW.aload_n (pc := 838) dL_law_838 rfl rfl ?_
  refine AW.aload_n (pc := 839) dL_law_839 rfl rfl ?_
  refine AW.callSH (pc := 840) (S' := []) dL_law_840 (c_L_start (d := d - 1) ht (by omega) hw) ok_L_start tw_688 tw_687 rfl (by omega) rfl (Nat.le_of_ble_eq_true rfl) (by omega) (by omega) ?_ (fun E h' k' hq => by obtain ⟨rfl, r2, o3, m1, hv, -⟩ := hq; cases hv)
  intro v h' k' hq
  obtain ⟨rfl, r2, o3, m1, hv, rfl, hw⟩ := hq
  cases hv
  show AW _ _ _ _ _ _ _ 843 [.ref 0, .ref 1, .ref 47, .ref 61, .int i, .null, .null, .null, .null] [.int r2] (lay t ex o3 m1) k _ _
  refine AW.istore (L' := [.ref 0, .ref 1, .ref 47, .ref 61, .int i, .int r2, .null, .null, .null]) (pc := 843) dL_law_843 (by decide) rfl rfl ?_
  refine AW.aload_n (pc := 845) dL_law_845 rfl rfl ?_
  refine AW.callV (pc := 846) (S' := []) dL_law_846 (c_M_start (d := d - 1) ht (by omega) hk hw) ok_X5_start tw_981 tw_982 tw_980 (fix_pos (by decide)) (lay_at ht (by decide)) (show aw_cl[5]? = some _ from rfl) rfl rfl (by omega) rfl (Nat.le_of_ble_eq_true rfl) (by omega) (by omega) ?_ (fun E h' k' hq => by obtain ⟨_, _, _, _, -, -, hv, -⟩ := hq; cases hv)
  intro v h' k9 hq
  obtain ⟨t9, ex9, r9, m9, ht9, hk9, hv, rfl, hw⟩ := hq
  cases hv
  have ht := ht9
  have hk := hk9
  show AW _ _ _ _ _ _ _ 849 [.ref 0, .ref 1, .ref 47, .ref 61, .int i, .int r2, .null, .null, .null] [.int r9] (lay t9 ex9 o3 m9) k9 _ _
  refine AW.istore (L' := [.ref 0, .ref 1, .ref 47, .ref 61, .int i, .int r2, .int r9, .null, .null]) (pc := 849) dL_law_849 (by decide) rfl rfl ?_
  refine AW.aload_n (pc := 851) dL_law_851 rfl rfl ?_
  refine AW.callV (pc := 852) (S' := []) dL_law_852 (c_M_thrown (d := d - 1) ht (by omega) hw) ok_X5_thrown tw_848 tw_849 tw_847 (fix_pos (by decide)) (lay_at ht (by decide)) (show aw_cl[5]? = some _ from rfl) rfl rfl (by omega) rfl (Nat.le_of_ble_eq_true rfl) (by omega) (by omega) ?_ (fun E h' k' hq => by obtain ⟨rfl, r5, m4, hv, -⟩ := hq; cases hv)
  intro v h' k' hq
  obtain ⟨rfl, r5, m4, hv, rfl, hw⟩ := hq
  cases hv
  show AW _ _ _ _ _ _ _ 855 [.ref 0, .ref 1, .ref 47, .ref 61, .int i, .int r2, .int r9, .null, .null] [.int r5] (lay t9 ex9 o3 m4) k9 _ _
  refine AW.iload (pc := 855) dL_law_855 rfl ?_
  refine AW.icmp_eq (pc := 857) (tgt := 862) dL_law_857 (by decide) (fun c6 => ?_) (fun c6 => ?_)
  · have hw := hw.1 c6
    refine AW.iload (pc := 862) dL_law_862 rfl ?_
    refine AW.if_ne (pc := 864) (tgt := 879) dL_law_864 (by decide) (fun c7 => ?_) (fun c7 => ?_)
    · have hw := hw.1 c7
      refine AW.goto (pc := 879) (tgt := 1639) dL_law_879 (by decide) ?_
      refine AW.locals (L' := [.ref 0, .ref 1, .ref 47, .ref 61, .int i, .null, .null, .null, .null]) (aw_fewer_same (aw_fewer_same (aw_fewer_same (aw_fewer_same (aw_fewer_same (aw_fewer_null (aw_fewer_null (aw_fewer_null (aw_fewer_null aw_fewer_nil))))))))) ?_
      refine AW.widen (cs' := cs + 837) (ss' := ss + 9372) (by omega) (by omega) ?_
      exact hKK ht hk _ _ hw
    · have hw := hw.2 c7
      refine AW.aload_n (pc := 867) dL_law_867 rfl rfl ?_
      refine AW.iconst (v := 0) (pc := 868) dL_law_868 (by decide) ?_
      refine LW.laldo (pc := 869) ht dL_law_869 ?_
      refine AW.iload (pc := 870) dL_law_870 rfl ?_
      refine AW.i2l (pc := 872) dL_law_872 ?_
      refine AW.lcmp (pc := 873) dL_law_873 ?_
      refine AW.if_eq (pc := 874) (tgt := 879) dL_law_874 (by decide) (fun c8 => ?_) (fun c8 => ?_)
      · have hw := hw.1 c8
        refine AW.goto (pc := 879) (tgt := 1639) dL_law_879 (by decide) ?_
        refine AW.locals (L' := [.ref 0, .ref 1, .ref 47, .ref 61, .int i, .null, .null, .null, .null]) (aw_fewer_same (aw_fewer_same (aw_fewer_same (aw_fewer_same (aw_fewer_same (aw_fewer_null (aw_fewer_null (aw_fewer_null (aw_fewer_null aw_fewer_nil))))))))) ?_
        refine AW.widen (cs' := cs + 837) (ss' := ss + 9372) (by omega) (by omega) ?_
        exact hKK ht hk _ _ hw
      · have hw := hw.2 c8
        refine AW.iconst (v := 0) (pc := 877) dL_law_877 (by decide) ?_
        exact hw.elim
  · have hw := hw.2 c6
    refine AW.iconst (v := 0) (pc := 860) dL_law_860 (by decide) ?_
    exact hw.elim
def wc_13 (p1 : Int32) (p2 : Int32) (o : Nat → Int64) (m : Mem) (K : (Nat → Int64) → Mem → Prop) : Prop :=
  w_L_set p1 p2 o m (fun r2 o3 m1 => w_M_set p1 p2 m1 (fun r5 m4 => w_M_thrown  m4 (fun r7 m6 => ((r7 = r2 → ((¬ (r2 = 0) → K o3 m6) ∧ (r2 = 0 → (((lg_cmp (o3 0) r5.toInt64) = 0 → K o3 m6) ∧ (¬ ((lg_cmp (o3 0) r5.toInt64) = 0) → False))))) ∧ (¬ (r7 = r2) → False)))))
set_option maxRecDepth 100000 in
set_option maxHeartbeats 4000000 in
theorem b_law_13 {n : Nat} {xs : Nat → Int32} {d k0 mc ms cs ss k t : Nat} {ex : Hp} {o : Nat → Int64} {m : Mem} {K : (Nat → Int64) → Mem → Prop} {i : Int32} {p1 : Int32} {p2 : Int32} (hk0 : 0 < k0) (hd : 40 ≤ d) (hcs : cs + 837 ≤ mc) (hss : ss + 9372 ≤ ms) (ht : tok t) (hk : kok t k) (hx1 : vp_in (i + (1 : Int32)) n) (hp1 : xs (i + (1 : Int32)).toNatClampNeg = p1) (hx2 : vp_in (i + (2 : Int32)) n) (hp2 : xs (i + (2 : Int32)).toNatClampNeg = p2)
    (hKK : ∀ {t2 k2 : Nat} {ex2 : Hp}, tok t2 → kok t2 k2 → ∀ (o2 : Nat → Int64) (m2 : Mem), K o2 m2 → AW (aw_ZL n xs) mlaw d k0 mc ms aw_QL 1639 [.ref 0, .ref 1, .ref 47, .ref 61, .int i, .null, .null, .null, .null] [] (lay t2 ex2 o2 m2) k2 (cs + 837) (ss + 9372))
    (hw : wc_13 p1 p2 o m K) : AW (aw_ZL n xs) mlaw d k0 mc ms aw_QL 882 [.ref 0, .ref 1, .ref 47, .ref 61, .int i, .null, .null, .null, .null] [] (lay t ex o m) k cs ss := by
  unfold wc_13 at hw
  refine AW.aload_n (pc := 882) dL_law_882 rfl rfl ?_
  refine AW.aload_n (pc := 883) dL_law_883 rfl rfl ?_
  refine AW.iload (pc := 884) dL_law_884 rfl ?_
  refine AW.iconst (v := 1) (pc := 886) dL_law_886 (by decide) ?_
  refine AW.iadd (pc := 887) dL_law_887 ?_
  refine AW.sld (pc := 888) dL_law_888 hk0 hx1 hp1 ?_
  refine AW.aload_n (pc := 889) dL_law_889 rfl rfl ?_
  refine AW.iload (pc := 890) dL_law_890 rfl ?_
  refine AW.iconst (v := 2) (pc := 892) dL_law_892 (by decide) ?_
  refine AW.iadd (pc := 893) dL_law_893 ?_
  refine AW.sld (pc := 894) dL_law_894 hk0 hx2 hp2 ?_
  refine AW.aload_n (pc := 895) dL_law_895 rfl rfl ?_
  refine AW.callSH (pc := 896) (S' := []) dL_law_896 (c_L_set (d := d - 1) ht (by omega) hw) ok_L_set tw_700 tw_699 rfl (by omega) rfl (Nat.le_of_ble_eq_true rfl) (by omega) (by omega) ?_ (fun E h' k' hq => by obtain ⟨rfl, r2, o3, m1, hv, -⟩ := hq; cases hv)
  intro v h' k' hq
  obtain ⟨rfl, r2, o3, m1, hv, rfl, hw⟩ := hq
  cases hv
  show AW _ _ _ _ _ _ _ 899 [.ref 0, .ref 1, .ref 47, .ref 61, .int i, .null, .null, .null, .null] [.int r2] (lay t ex o3 m1) k _ _
  refine AW.istore (L' := [.ref 0, .ref 1, .ref 47, .ref 61, .int i, .int r2, .null, .null, .null]) (pc := 899) dL_law_899 (by decide) rfl rfl ?_
  refine AW.aload_n (pc := 901) dL_law_901 rfl rfl ?_
  refine AW.aload_n (pc := 902) dL_law_902 rfl rfl ?_
  refine AW.iload (pc := 903) dL_law_903 rfl ?_
  refine AW.iconst (v := 1) (pc := 905) dL_law_905 (by decide) ?_
  refine AW.iadd (pc := 906) dL_law_906 ?_
  refine AW.sld (pc := 907) dL_law_907 hk0 hx1 hp1 ?_
  refine AW.aload_n (pc := 908) dL_law_908 rfl rfl ?_
  refine AW.iload (pc := 909) dL_law_909 rfl ?_
  refine AW.iconst (v := 2) (pc := 911) dL_law_911 (by decide) ?_
  refine AW.iadd (pc := 912) dL_law_912 ?_
  refine AW.sld (pc := 913) dL_law_913 hk0 hx2 hp2 ?_
  refine AW.callV (pc := 914) (S' := []) dL_law_914 (c_M_set (d := d - 1) ht (by omega) hw) ok_X5_set tw_1023 tw_1024 tw_1022 (fix_pos (by decide)) (lay_at ht (by decide)) (show aw_cl[5]? = some _ from rfl) rfl rfl (by omega) rfl (Nat.le_of_ble_eq_true rfl) (by omega) (by omega) ?_ (fun E h' k' hq => by obtain ⟨rfl, r5, m4, hv, -⟩ := hq; cases hv)
  intro v h' k' hq
  obtain ⟨rfl, r5, m4, hv, rfl, hw⟩ := hq
  cases hv
  show AW _ _ _ _ _ _ _ 917 [.ref 0, .ref 1, .ref 47, .ref 61, .int i, .int r2, .null, .null, .null] [.int r5] (lay t ex o3 m4) k _ _
  refine AW.istore (L' := [.ref 0, .ref 1, .ref 47, .ref 61, .int i, .int r2, .int r5, .null, .null]) (pc := 917) dL_law_917 (by decide) rfl rfl ?_
  refine AW.aload_n (pc := 919) dL_law_919 rfl rfl ?_
  refine AW.callV (pc := 920) (S' := []) dL_law_920 (c_M_thrown (d := d - 1) ht (by omega) hw) ok_X5_thrown tw_848 tw_849 tw_847 (fix_pos (by decide)) (lay_at ht (by decide)) (show aw_cl[5]? = some _ from rfl) rfl rfl (by omega) rfl (Nat.le_of_ble_eq_true rfl) (by omega) (by omega) ?_ (fun E h' k' hq => by obtain ⟨rfl, r7, m6, hv, -⟩ := hq; cases hv)
  intro v h' k' hq
  obtain ⟨rfl, r7, m6, hv, rfl, hw⟩ := hq
  cases hv
  show AW _ _ _ _ _ _ _ 923 [.ref 0, .ref 1, .ref 47, .ref 61, .int i, .int r2, .int r5, .null, .null] [.int r7] (lay t ex o3 m6) k _ _
  refine AW.iload (pc := 923) dL_law_923 rfl ?_
  refine AW.icmp_eq (pc := 925) (tgt := 930) dL_law_925 (by decide) (fun c8 => ?_) (fun c8 => ?_)
  · have hw := hw.1 c8
    refine AW.iload (pc := 930) dL_law_930 rfl ?_
    refine AW.if_ne (pc := 932) (tgt := 947) dL_law_932 (by decide) (fun c9 => ?_) (fun c9 => ?_)
    · have hw := hw.1 c9
      refine AW.goto (pc := 947) (tgt := 1639) dL_law_947 (by decide) ?_
      refine AW.locals (L' := [.ref 0, .ref 1, .ref 47, .ref 61, .int i, .null, .null, .null, .null]) (aw_fewer_same (aw_fewer_same (aw_fewer_same (aw_fewer_same (aw_fewer_same (aw_fewer_null (aw_fewer_null (aw_fewer_null (aw_fewer_null aw_fewer_nil))))))))) ?_
      refine AW.widen (cs' := cs + 837) (ss' := ss + 9372) (by omega) (by omega) ?_
      exact hKK ht hk _ _ hw
    · have hw := hw.2 c9
      refine AW.aload_n (pc := 935) dL_law_935 rfl rfl ?_
      refine AW.iconst (v := 0) (pc := 936) dL_law_936 (by decide) ?_
      refine LW.laldo (pc := 937) ht dL_law_937 ?_
      refine AW.iload (pc := 938) dL_law_938 rfl ?_
      refine AW.i2l (pc := 940) dL_law_940 ?_
      refine AW.lcmp (pc := 941) dL_law_941 ?_
      refine AW.if_eq (pc := 942) (tgt := 947) dL_law_942 (by decide) (fun c10 => ?_) (fun c10 => ?_)
      · have hw := hw.1 c10
        refine AW.goto (pc := 947) (tgt := 1639) dL_law_947 (by decide) ?_
        refine AW.locals (L' := [.ref 0, .ref 1, .ref 47, .ref 61, .int i, .null, .null, .null, .null]) (aw_fewer_same (aw_fewer_same (aw_fewer_same (aw_fewer_same (aw_fewer_same (aw_fewer_null (aw_fewer_null (aw_fewer_null (aw_fewer_null aw_fewer_nil))))))))) ?_
        refine AW.widen (cs' := cs + 837) (ss' := ss + 9372) (by omega) (by omega) ?_
        exact hKK ht hk _ _ hw
      · have hw := hw.2 c10
        refine AW.iconst (v := 0) (pc := 945) dL_law_945 (by decide) ?_
        exact hw.elim
  · have hw := hw.2 c8
    refine AW.iconst (v := 0) (pc := 928) dL_law_928 (by decide) ?_
    exact hw.elim
def wc_14 (p1 : Int32) (o : Nat → Int64) (m : Mem) (K : (Nat → Int64) → Mem → Prop) : Prop :=
  w_L_pass p1 o m (fun r2 o3 m1 => w_M_pass p1 m1 (fun r5 m4 => w_M_thrown  m4 (fun r7 m6 => ((r7 = r2 → ((¬ (r2 = 0) → K o3 m6) ∧ (r2 = 0 → (((lg_cmp (o3 0) r5.toInt64) = 0 → K o3 m6) ∧ (¬ ((lg_cmp (o3 0) r5.toInt64) = 0) → False))))) ∧ (¬ (r7 = r2) → False)))))
set_option maxRecDepth 100000 in
set_option maxHeartbeats 4000000 in
theorem b_law_14 {n : Nat} {xs : Nat → Int32} {d k0 mc ms cs ss k t : Nat} {ex : Hp} {o : Nat → Int64} {m : Mem} {K : (Nat → Int64) → Mem → Prop} {i : Int32} {p1 : Int32} (hk0 : 0 < k0) (hd : 40 ≤ d) (hcs : cs + 837 ≤ mc) (hss : ss + 9372 ≤ ms) (ht : tok t) (hk : kok t k) (hx1 : vp_in (i + (1 : Int32)) n) (hp1 : xs (i + (1 : Int32)).toNatClampNeg = p1)
    (hKK : ∀ {t2 k2 : Nat} {ex2 : Hp}, tok t2 → kok t2 k2 → ∀ (o2 : Nat → Int64) (m2 : Mem), K o2 m2 → AW (aw_ZL n xs) mlaw d k0 mc ms aw_QL 1639 [.ref 0, .ref 1, .ref 47, .ref 61, .int i, .null, .null, .null, .null] [] (lay t2 ex2 o2 m2) k2 (cs + 837) (ss + 9372))
    (hw : wc_14 p1 o m K) : AW (aw_ZL n xs) mlaw d k0 mc ms aw_QL 950 [.ref 0, .ref 1, .ref 47, .ref 61, .int i, .null, .null, .null, .null] [] (lay t ex o m) k cs ss := by
  unfold wc_14 at hw
  refine AW.aload_n (pc := 950) dL_law_950 rfl rfl ?_
  refine AW.aload_n (pc := 951) dL_law_951 rfl rfl ?_
  refine AW.iload (pc := 952) dL_law_952 rfl ?_
  refine AW.iconst (v := 1) (pc := 954) dL_law_954 (by decide) ?_
  refine AW.iadd (pc := 955) dL_law_955 ?_
  refine AW.sld (pc := 956) dL_law_956 hk0 hx1 hp1 ?_
  refine AW.aload_n (pc := 957) dL_law_957 rfl rfl ?_
  refine AW.callSH (pc := 958) (S' := []) dL_law_958 (c_L_pass (d := d - 1) ht (by omega) hw) ok_L_pass tw_722 tw_721 rfl (by omega) rfl (Nat.le_of_ble_eq_true rfl) (by omega) (by omega) ?_ (fun E h' k' hq => by obtain ⟨rfl, r2, o3, m1, hv, -⟩ := hq; cases hv)
  intro v h' k' hq
  obtain ⟨rfl, r2, o3, m1, hv, rfl, hw⟩ := hq
  cases hv
  show AW _ _ _ _ _ _ _ 961 [.ref 0, .ref 1, .ref 47, .ref 61, .int i, .null, .null, .null, .null] [.int r2] (lay t ex o3 m1) k _ _
  refine AW.istore (L' := [.ref 0, .ref 1, .ref 47, .ref 61, .int i, .int r2, .null, .null, .null]) (pc := 961) dL_law_961 (by decide) rfl rfl ?_
  refine AW.aload_n (pc := 963) dL_law_963 rfl rfl ?_
  refine AW.aload_n (pc := 964) dL_law_964 rfl rfl ?_
  refine AW.iload (pc := 965) dL_law_965 rfl ?_
  refine AW.iconst (v := 1) (pc := 967) dL_law_967 (by decide) ?_
  refine AW.iadd (pc := 968) dL_law_968 ?_
  refine AW.sld (pc := 969) dL_law_969 hk0 hx1 hp1 ?_
  refine AW.callV (pc := 970) (S' := []) dL_law_970 (c_M_pass (d := d - 1) ht (by omega) hw) ok_X5_pass tw_1043 tw_1044 tw_1042 (fix_pos (by decide)) (lay_at ht (by decide)) (show aw_cl[5]? = some _ from rfl) rfl rfl (by omega) rfl (Nat.le_of_ble_eq_true rfl) (by omega) (by omega) ?_ (fun E h' k' hq => by obtain ⟨rfl, r5, m4, hv, -⟩ := hq; cases hv)
  intro v h' k' hq
  obtain ⟨rfl, r5, m4, hv, rfl, hw⟩ := hq
  cases hv
  show AW _ _ _ _ _ _ _ 973 [.ref 0, .ref 1, .ref 47, .ref 61, .int i, .int r2, .null, .null, .null] [.int r5] (lay t ex o3 m4) k _ _
  refine AW.istore (L' := [.ref 0, .ref 1, .ref 47, .ref 61, .int i, .int r2, .int r5, .null, .null]) (pc := 973) dL_law_973 (by decide) rfl rfl ?_
  refine AW.aload_n (pc := 975) dL_law_975 rfl rfl ?_
  refine AW.callV (pc := 976) (S' := []) dL_law_976 (c_M_thrown (d := d - 1) ht (by omega) hw) ok_X5_thrown tw_848 tw_849 tw_847 (fix_pos (by decide)) (lay_at ht (by decide)) (show aw_cl[5]? = some _ from rfl) rfl rfl (by omega) rfl (Nat.le_of_ble_eq_true rfl) (by omega) (by omega) ?_ (fun E h' k' hq => by obtain ⟨rfl, r7, m6, hv, -⟩ := hq; cases hv)
  intro v h' k' hq
  obtain ⟨rfl, r7, m6, hv, rfl, hw⟩ := hq
  cases hv
  show AW _ _ _ _ _ _ _ 979 [.ref 0, .ref 1, .ref 47, .ref 61, .int i, .int r2, .int r5, .null, .null] [.int r7] (lay t ex o3 m6) k _ _
  refine AW.iload (pc := 979) dL_law_979 rfl ?_
  refine AW.icmp_eq (pc := 981) (tgt := 986) dL_law_981 (by decide) (fun c8 => ?_) (fun c8 => ?_)
  · have hw := hw.1 c8
    refine AW.iload (pc := 986) dL_law_986 rfl ?_
    refine AW.if_ne (pc := 988) (tgt := 1003) dL_law_988 (by decide) (fun c9 => ?_) (fun c9 => ?_)
    · have hw := hw.1 c9
      refine AW.goto (pc := 1003) (tgt := 1639) dL_law_1003 (by decide) ?_
      refine AW.locals (L' := [.ref 0, .ref 1, .ref 47, .ref 61, .int i, .null, .null, .null, .null]) (aw_fewer_same (aw_fewer_same (aw_fewer_same (aw_fewer_same (aw_fewer_same (aw_fewer_null (aw_fewer_null (aw_fewer_null (aw_fewer_null aw_fewer_nil))))))))) ?_
      refine AW.widen (cs' := cs + 837) (ss' := ss + 9372) (by omega) (by omega) ?_
      exact hKK ht hk _ _ hw
    · have hw := hw.2 c9
      refine AW.aload_n (pc := 991) dL_law_991 rfl rfl ?_
      refine AW.iconst (v := 0) (pc := 992) dL_law_992 (by decide) ?_
      refine LW.laldo (pc := 993) ht dL_law_993 ?_
      refine AW.iload (pc := 994) dL_law_994 rfl ?_
      refine AW.i2l (pc := 996) dL_law_996 ?_
      refine AW.lcmp (pc := 997) dL_law_997 ?_
      refine AW.if_eq (pc := 998) (tgt := 1003) dL_law_998 (by decide) (fun c10 => ?_) (fun c10 => ?_)
      · have hw := hw.1 c10
        refine AW.goto (pc := 1003) (tgt := 1639) dL_law_1003 (by decide) ?_
        refine AW.locals (L' := [.ref 0, .ref 1, .ref 47, .ref 61, .int i, .null, .null, .null, .null]) (aw_fewer_same (aw_fewer_same (aw_fewer_same (aw_fewer_same (aw_fewer_same (aw_fewer_null (aw_fewer_null (aw_fewer_null (aw_fewer_null aw_fewer_nil))))))))) ?_
        refine AW.widen (cs' := cs + 837) (ss' := ss + 9372) (by omega) (by omega) ?_
        exact hKK ht hk _ _ hw
      · have hw := hw.2 c10
        refine AW.iconst (v := 0) (pc := 1001) dL_law_1001 (by decide) ?_
        exact hw.elim
  · have hw := hw.2 c8
    refine AW.iconst (v := 0) (pc := 984) dL_law_984 (by decide) ?_
    exact hw.elim
def wc_15 (o : Nat → Int64) (m : Mem) (K : (Nat → Int64) → Mem → Prop) : Prop :=
  w_L_settle  o m (fun r2 o3 m1 => w_M_settle  m1 (fun r5 m4 => w_M_thrown  m4 (fun r7 m6 => ((r7 = r2 → ((¬ (r2 = 0) → K o3 m6) ∧ (r2 = 0 → (((lg_cmp (o3 0) r5.toInt64) = 0 → K o3 m6) ∧ (¬ ((lg_cmp (o3 0) r5.toInt64) = 0) → False))))) ∧ (¬ (r7 = r2) → False)))))
set_option maxRecDepth 100000 in
set_option maxHeartbeats 4000000 in
theorem b_law_15 {n : Nat} {xs : Nat → Int32} {d k0 mc ms cs ss k t : Nat} {ex : Hp} {o : Nat → Int64} {m : Mem} {K : (Nat → Int64) → Mem → Prop} {i : Int32}  (hk0 : 0 < k0) (hd : 40 ≤ d) (hcs : cs + 837 ≤ mc) (hss : ss + 9372 ≤ ms) (ht : tok t) (hk : kok t k) 
    (hKK : ∀ {t2 k2 : Nat} {ex2 : Hp}, tok t2 → kok t2 k2 → ∀ (o2 : Nat → Int64) (m2 : Mem), K o2 m2 → AW (aw_ZL n xs) mlaw d k0 mc ms aw_QL 1639 [.ref 0, .ref 1, .ref 47, .ref 61, .int i, .null, .null, .null, .null] [] (lay t2 ex2 o2 m2) k2 (cs + 837) (ss + 9372))
    (hw : wc_15  o m K) : AW (aw_ZL n xs) mlaw d k0 mc ms aw_QL 1006 [.ref 0, .ref 1, .ref 47, .ref 61, .int i, .null, .null, .null, .null] [] (lay t ex o m) k cs ss := by
  unfold wc_15 at hw
  refine AW.aload_n (pc := 1006) dL_law_1006 rfl rfl ?_
  refine AW.aload_n (pc := 1007) dL_law_1007 rfl rfl ?_
  refine AW.callSH (pc := 1008) (S' := []) dL_law_1008 (c_L_settle (d := d - 1) ht (by omega) hw) ok_L_settle tw_730 tw_729 rfl (by omega) rfl (Nat.le_of_ble_eq_true rfl) (by omega) (by omega) ?_ (fun E h' k' hq => by obtain ⟨rfl, r2, o3, m1, hv, -⟩ := hq; cases hv)
  intro v h' k' hq
  obtain ⟨rfl, r2, o3, m1, hv, rfl, hw⟩ := hq
  cases hv
  show AW _ _ _ _ _ _ _ 1011 [.ref 0, .ref 1, .ref 47, .ref 61, .int i, .null, .null, .null, .null] [.int r2] (lay t ex o3 m1) k _ _
  refine AW.istore (L' := [.ref 0, .ref 1, .ref 47, .ref 61, .int i, .int r2, .null, .null, .null]) (pc := 1011) dL_law_1011 (by decide) rfl rfl ?_
  refine AW.aload_n (pc := 1013) dL_law_1013 rfl rfl ?_
  refine AW.callV (pc := 1014) (S' := []) dL_law_1014 (c_M_settle (d := d - 1) ht (by omega) hw) ok_X5_settle tw_1055 tw_1056 tw_1054 (fix_pos (by decide)) (lay_at ht (by decide)) (show aw_cl[5]? = some _ from rfl) rfl rfl (by omega) rfl (Nat.le_of_ble_eq_true rfl) (by omega) (by omega) ?_ (fun E h' k' hq => by obtain ⟨rfl, r5, m4, hv, -⟩ := hq; cases hv)
  intro v h' k' hq
  obtain ⟨rfl, r5, m4, hv, rfl, hw⟩ := hq
  cases hv
  show AW _ _ _ _ _ _ _ 1017 [.ref 0, .ref 1, .ref 47, .ref 61, .int i, .int r2, .null, .null, .null] [.int r5] (lay t ex o3 m4) k _ _
  refine AW.istore (L' := [.ref 0, .ref 1, .ref 47, .ref 61, .int i, .int r2, .int r5, .null, .null]) (pc := 1017) dL_law_1017 (by decide) rfl rfl ?_
  refine AW.aload_n (pc := 1019) dL_law_1019 rfl rfl ?_
  refine AW.callV (pc := 1020) (S' := []) dL_law_1020 (c_M_thrown (d := d - 1) ht (by omega) hw) ok_X5_thrown tw_848 tw_849 tw_847 (fix_pos (by decide)) (lay_at ht (by decide)) (show aw_cl[5]? = some _ from rfl) rfl rfl (by omega) rfl (Nat.le_of_ble_eq_true rfl) (by omega) (by omega) ?_ (fun E h' k' hq => by obtain ⟨rfl, r7, m6, hv, -⟩ := hq; cases hv)
  intro v h' k' hq
  obtain ⟨rfl, r7, m6, hv, rfl, hw⟩ := hq
  cases hv
  show AW _ _ _ _ _ _ _ 1023 [.ref 0, .ref 1, .ref 47, .ref 61, .int i, .int r2, .int r5, .null, .null] [.int r7] (lay t ex o3 m6) k _ _
  refine AW.iload (pc := 1023) dL_law_1023 rfl ?_
  refine AW.icmp_eq (pc := 1025) (tgt := 1030) dL_law_1025 (by decide) (fun c8 => ?_) (fun c8 => ?_)
  · have hw := hw.1 c8
    refine AW.iload (pc := 1030) dL_law_1030 rfl ?_
    refine AW.if_ne (pc := 1032) (tgt := 1047) dL_law_1032 (by decide) (fun c9 => ?_) (fun c9 => ?_)
    · have hw := hw.1 c9
      refine AW.goto (pc := 1047) (tgt := 1639) dL_law_1047 (by decide) ?_
      refine AW.locals (L' := [.ref 0, .ref 1, .ref 47, .ref 61, .int i, .null, .null, .null, .null]) (aw_fewer_same (aw_fewer_same (aw_fewer_same (aw_fewer_same (aw_fewer_same (aw_fewer_null (aw_fewer_null (aw_fewer_null (aw_fewer_null aw_fewer_nil))))))))) ?_
      refine AW.widen (cs' := cs + 837) (ss' := ss + 9372) (by omega) (by omega) ?_
      exact hKK ht hk _ _ hw
    · have hw := hw.2 c9
      refine AW.aload_n (pc := 1035) dL_law_1035 rfl rfl ?_
      refine AW.iconst (v := 0) (pc := 1036) dL_law_1036 (by decide) ?_
      refine LW.laldo (pc := 1037) ht dL_law_1037 ?_
      refine AW.iload (pc := 1038) dL_law_1038 rfl ?_
      refine AW.i2l (pc := 1040) dL_law_1040 ?_
      refine AW.lcmp (pc := 1041) dL_law_1041 ?_
      refine AW.if_eq (pc := 1042) (tgt := 1047) dL_law_1042 (by decide) (fun c10 => ?_) (fun c10 => ?_)
      · have hw := hw.1 c10
        refine AW.goto (pc := 1047) (tgt := 1639) dL_law_1047 (by decide) ?_
        refine AW.locals (L' := [.ref 0, .ref 1, .ref 47, .ref 61, .int i, .null, .null, .null, .null]) (aw_fewer_same (aw_fewer_same (aw_fewer_same (aw_fewer_same (aw_fewer_same (aw_fewer_null (aw_fewer_null (aw_fewer_null (aw_fewer_null aw_fewer_nil))))))))) ?_
        refine AW.widen (cs' := cs + 837) (ss' := ss + 9372) (by omega) (by omega) ?_
        exact hKK ht hk _ _ hw
      · have hw := hw.2 c10
        refine AW.iconst (v := 0) (pc := 1045) dL_law_1045 (by decide) ?_
        exact hw.elim
  · have hw := hw.2 c8
    refine AW.iconst (v := 0) (pc := 1028) dL_law_1028 (by decide) ?_
    exact hw.elim
def wc_16 (o : Nat → Int64) (m : Mem) (K : (Nat → Int64) → Mem → Prop) : Prop :=
  w_N_isRunning  m (fun r2 m1 => w_M_isRunning  m1 (fun r4 m3 => ((r2 = r4 → K o m3) ∧ (¬ (r2 = r4) → False))))
set_option maxRecDepth 100000 in
set_option maxHeartbeats 4000000 in
theorem b_law_16 {n : Nat} {xs : Nat → Int32} {d k0 mc ms cs ss k t : Nat} {ex : Hp} {o : Nat → Int64} {m : Mem} {K : (Nat → Int64) → Mem → Prop} {i : Int32}  (hk0 : 0 < k0) (hd : 40 ≤ d) (hcs : cs + 837 ≤ mc) (hss : ss + 9372 ≤ ms) (ht : tok t) (hk : kok t k) 
    (hKK : ∀ {t2 k2 : Nat} {ex2 : Hp}, tok t2 → kok t2 k2 → ∀ (o2 : Nat → Int64) (m2 : Mem), K o2 m2 → AW (aw_ZL n xs) mlaw d k0 mc ms aw_QL 1639 [.ref 0, .ref 1, .ref 47, .ref 61, .int i, .null, .null, .null, .null] [] (lay t2 ex2 o2 m2) k2 (cs + 837) (ss + 9372))
    (hw : wc_16  o m K) : AW (aw_ZL n xs) mlaw d k0 mc ms aw_QL 1050 [.ref 0, .ref 1, .ref 47, .ref 61, .int i, .null, .null, .null, .null] [] (lay t ex o m) k cs ss := by
  unfold wc_16 at hw
  refine AW.aload_n (pc := 1050) dL_law_1050 rfl rfl ?_
  refine AW.callV (pc := 1051) (S' := []) dL_law_1051 (c_N_isRunning (d := d - 1) ht (by omega) hw) ok_X4_isRunning tw_300 tw_301 tw_299 (fix_pos (by decide)) (lay_at ht (by decide)) (show aw_cl[4]? = some _ from rfl) rfl rfl (by omega) rfl (Nat.le_of_ble_eq_true rfl) (by omega) (by omega) ?_ (fun E h' k' hq => by obtain ⟨rfl, r2, m1, hv, -⟩ := hq; cases hv)
  intro v h' k' hq
  obtain ⟨rfl, r2, m1, hv, rfl, hw⟩ := hq
  cases hv
  show AW _ _ _ _ _ _ _ 1054 [.ref 0, .ref 1, .ref 47, .ref 61, .int i, .null, .null, .null, .null] [.int r2] (lay t ex o m1) k _ _
  refine AW.aload_n (pc := 1054) dL_law_1054 rfl rfl ?_
  refine AW.callV (pc := 1055) (S' := [.int r2]) dL_law_1055 (c_M_isRunning (d := d - 1) ht (by omega) hw) ok_X5_isRunning tw_1064 tw_1065 tw_1063 (fix_pos (by decide)) (lay_at ht (by decide)) (show aw_cl[5]? = some _ from rfl) rfl rfl (by omega) rfl (Nat.le_of_ble_eq_true rfl) (by omega) (by omega) ?_ (fun E h' k' hq => by obtain ⟨rfl, r4, m3, hv, -⟩ := hq; cases hv)
  intro v h' k' hq
  obtain ⟨rfl, r4, m3, hv, rfl, hw⟩ := hq
  cases hv
  show AW _ _ _ _ _ _ _ 1058 [.ref 0, .ref 1, .ref 47, .ref 61, .int i, .null, .null, .null, .null] [.int r4, .int r2] (lay t ex o m3) k _ _
  refine AW.icmp_eq (pc := 1058) (tgt := 1639) dL_law_1058 (by decide) (fun c5 => ?_) (fun c5 => ?_)
  · have hw := hw.1 c5
    refine AW.widen (cs' := cs + 837) (ss' := ss + 9372) (by omega) (by omega) ?_
    exact hKK ht hk _ _ hw
  · have hw := hw.2 c5
    refine AW.iconst (v := 0) (pc := 1061) dL_law_1061 (by decide) ?_
    exact hw.elim
def wc_17 (p1 : Int32) (o : Nat → Int64) (m : Mem) (K : (Nat → Int64) → Mem → Prop) : Prop :=
  w_L_told p1 o m (fun r2 o3 m1 => w_M_told p1 m1 (fun r5 m4 => w_M_thrown  m4 (fun r7 m6 => ((r7 = r2 → ((¬ (r2 = 0) → K o3 m6) ∧ (r2 = 0 → (((lg_cmp (o3 0) r5.toInt64) = 0 → K o3 m6) ∧ (¬ ((lg_cmp (o3 0) r5.toInt64) = 0) → False))))) ∧ (¬ (r7 = r2) → False)))))
set_option maxRecDepth 100000 in
set_option maxHeartbeats 4000000 in
theorem b_law_17 {n : Nat} {xs : Nat → Int32} {d k0 mc ms cs ss k t : Nat} {ex : Hp} {o : Nat → Int64} {m : Mem} {K : (Nat → Int64) → Mem → Prop} {i : Int32} {p1 : Int32} (hk0 : 0 < k0) (hd : 40 ≤ d) (hcs : cs + 837 ≤ mc) (hss : ss + 9372 ≤ ms) (ht : tok t) (hk : kok t k) (hx1 : vp_in (i + (1 : Int32)) n) (hp1 : xs (i + (1 : Int32)).toNatClampNeg = p1)
    (hKK : ∀ {t2 k2 : Nat} {ex2 : Hp}, tok t2 → kok t2 k2 → ∀ (o2 : Nat → Int64) (m2 : Mem), K o2 m2 → AW (aw_ZL n xs) mlaw d k0 mc ms aw_QL 1639 [.ref 0, .ref 1, .ref 47, .ref 61, .int i, .null, .null, .null, .null] [] (lay t2 ex2 o2 m2) k2 (cs + 837) (ss + 9372))
    (hw : wc_17 p1 o m K) : AW (aw_ZL n xs) mlaw d k0 mc ms aw_QL 1063 [.ref 0, .ref 1, .ref 47, .ref 61, .int i, .null, .null, .null, .null] [] (lay t ex o m) k cs ss := by
  unfold wc_17 at hw
  refine AW.aload_n (pc := 1063) dL_law_1063 rfl rfl ?_
  refine AW.aload_n (pc := 1064) dL_law_1064 rfl rfl ?_
  refine AW.iload (pc := 1065) dL_law_1065 rfl ?_
  refine AW.iconst (v := 1) (pc := 1067) dL_law_1067 (by decide) ?_
  refine AW.iadd (pc := 1068) dL_law_1068 ?_
  refine AW.sld (pc := 1069) dL_law_1069 hk0 hx1 hp1 ?_
  refine AW.aload_n (pc := 1070) dL_law_1070 rfl rfl ?_
  refine AW.callSH (pc := 1071) (S' := []) dL_law_1071 (c_L_told (d := d - 1) ht (by omega) hw) ok_L_told tw_748 tw_747 rfl (by omega) rfl (Nat.le_of_ble_eq_true rfl) (by omega) (by omega) ?_ (fun E h' k' hq => by obtain ⟨rfl, r2, o3, m1, hv, -⟩ := hq; cases hv)
  intro v h' k' hq
  obtain ⟨rfl, r2, o3, m1, hv, rfl, hw⟩ := hq
  cases hv
  show AW _ _ _ _ _ _ _ 1074 [.ref 0, .ref 1, .ref 47, .ref 61, .int i, .null, .null, .null, .null] [.int r2] (lay t ex o3 m1) k _ _
  refine AW.istore (L' := [.ref 0, .ref 1, .ref 47, .ref 61, .int i, .int r2, .null, .null, .null]) (pc := 1074) dL_law_1074 (by decide) rfl rfl ?_
  refine AW.aload_n (pc := 1076) dL_law_1076 rfl rfl ?_
  refine AW.aload_n (pc := 1077) dL_law_1077 rfl rfl ?_
  refine AW.iload (pc := 1078) dL_law_1078 rfl ?_
  refine AW.iconst (v := 1) (pc := 1080) dL_law_1080 (by decide) ?_
  refine AW.iadd (pc := 1081) dL_law_1081 ?_
  refine AW.sld (pc := 1082) dL_law_1082 hk0 hx1 hp1 ?_
  refine AW.callV (pc := 1083) (S' := []) dL_law_1083 (c_M_told (d := d - 1) ht (by omega) hw) ok_X5_told tw_1068 tw_1069 tw_1067 (fix_pos (by decide)) (lay_at ht (by decide)) (show aw_cl[5]? = some _ from rfl) rfl rfl (by omega) rfl (Nat.le_of_ble_eq_true rfl) (by omega) (by omega) ?_ (fun E h' k' hq => by obtain ⟨rfl, r5, m4, hv, -⟩ := hq; cases hv)
  intro v h' k' hq
  obtain ⟨rfl, r5, m4, hv, rfl, hw⟩ := hq
  cases hv
  show AW _ _ _ _ _ _ _ 1086 [.ref 0, .ref 1, .ref 47, .ref 61, .int i, .int r2, .null, .null, .null] [.int r5] (lay t ex o3 m4) k _ _
  refine AW.istore (L' := [.ref 0, .ref 1, .ref 47, .ref 61, .int i, .int r2, .int r5, .null, .null]) (pc := 1086) dL_law_1086 (by decide) rfl rfl ?_
  refine AW.aload_n (pc := 1088) dL_law_1088 rfl rfl ?_
  refine AW.callV (pc := 1089) (S' := []) dL_law_1089 (c_M_thrown (d := d - 1) ht (by omega) hw) ok_X5_thrown tw_848 tw_849 tw_847 (fix_pos (by decide)) (lay_at ht (by decide)) (show aw_cl[5]? = some _ from rfl) rfl rfl (by omega) rfl (Nat.le_of_ble_eq_true rfl) (by omega) (by omega) ?_ (fun E h' k' hq => by obtain ⟨rfl, r7, m6, hv, -⟩ := hq; cases hv)
  intro v h' k' hq
  obtain ⟨rfl, r7, m6, hv, rfl, hw⟩ := hq
  cases hv
  show AW _ _ _ _ _ _ _ 1092 [.ref 0, .ref 1, .ref 47, .ref 61, .int i, .int r2, .int r5, .null, .null] [.int r7] (lay t ex o3 m6) k _ _
  refine AW.iload (pc := 1092) dL_law_1092 rfl ?_
  refine AW.icmp_eq (pc := 1094) (tgt := 1099) dL_law_1094 (by decide) (fun c8 => ?_) (fun c8 => ?_)
  · have hw := hw.1 c8
    refine AW.iload (pc := 1099) dL_law_1099 rfl ?_
    refine AW.if_ne (pc := 1101) (tgt := 1116) dL_law_1101 (by decide) (fun c9 => ?_) (fun c9 => ?_)
    · have hw := hw.1 c9
      refine AW.goto (pc := 1116) (tgt := 1639) dL_law_1116 (by decide) ?_
      refine AW.locals (L' := [.ref 0, .ref 1, .ref 47, .ref 61, .int i, .null, .null, .null, .null]) (aw_fewer_same (aw_fewer_same (aw_fewer_same (aw_fewer_same (aw_fewer_same (aw_fewer_null (aw_fewer_null (aw_fewer_null (aw_fewer_null aw_fewer_nil))))))))) ?_
      refine AW.widen (cs' := cs + 837) (ss' := ss + 9372) (by omega) (by omega) ?_
      exact hKK ht hk _ _ hw
    · have hw := hw.2 c9
      refine AW.aload_n (pc := 1104) dL_law_1104 rfl rfl ?_
      refine AW.iconst (v := 0) (pc := 1105) dL_law_1105 (by decide) ?_
      refine LW.laldo (pc := 1106) ht dL_law_1106 ?_
      refine AW.iload (pc := 1107) dL_law_1107 rfl ?_
      refine AW.i2l (pc := 1109) dL_law_1109 ?_
      refine AW.lcmp (pc := 1110) dL_law_1110 ?_
      refine AW.if_eq (pc := 1111) (tgt := 1116) dL_law_1111 (by decide) (fun c10 => ?_) (fun c10 => ?_)
      · have hw := hw.1 c10
        refine AW.goto (pc := 1116) (tgt := 1639) dL_law_1116 (by decide) ?_
        refine AW.locals (L' := [.ref 0, .ref 1, .ref 47, .ref 61, .int i, .null, .null, .null, .null]) (aw_fewer_same (aw_fewer_same (aw_fewer_same (aw_fewer_same (aw_fewer_same (aw_fewer_null (aw_fewer_null (aw_fewer_null (aw_fewer_null aw_fewer_nil))))))))) ?_
        refine AW.widen (cs' := cs + 837) (ss' := ss + 9372) (by omega) (by omega) ?_
        exact hKK ht hk _ _ hw
      · have hw := hw.2 c10
        refine AW.iconst (v := 0) (pc := 1114) dL_law_1114 (by decide) ?_
        exact hw.elim
  · have hw := hw.2 c8
    refine AW.iconst (v := 0) (pc := 1097) dL_law_1097 (by decide) ?_
    exact hw.elim
def wc_18 (p1 : Int32) (p2 : Int32) (o : Nat → Int64) (m : Mem) (K : (Nat → Int64) → Mem → Prop) : Prop :=
  w_L_ofWire p1 p2 o m (fun r2 o3 m1 => w_M_ofWire p1 p2 m1 (fun r5 m4 => w_M_thrown  m4 (fun r7 m6 => ((r7 = r2 → ((¬ (r2 = 0) → K o3 m6) ∧ (r2 = 0 → (((lg_cmp (o3 0) r5.toInt64) = 0 → K o3 m6) ∧ (¬ ((lg_cmp (o3 0) r5.toInt64) = 0) → False))))) ∧ (¬ (r7 = r2) → False)))))
set_option maxRecDepth 100000 in
set_option maxHeartbeats 4000000 in
theorem b_law_18 {n : Nat} {xs : Nat → Int32} {d k0 mc ms cs ss k t : Nat} {ex : Hp} {o : Nat → Int64} {m : Mem} {K : (Nat → Int64) → Mem → Prop} {i : Int32} {p1 : Int32} {p2 : Int32} (hk0 : 0 < k0) (hd : 40 ≤ d) (hcs : cs + 837 ≤ mc) (hss : ss + 9372 ≤ ms) (ht : tok t) (hk : kok t k) (hx1 : vp_in (i + (1 : Int32)) n) (hp1 : xs (i + (1 : Int32)).toNatClampNeg = p1) (hx2 : vp_in (i + (2 : Int32)) n) (hp2 : xs (i + (2 : Int32)).toNatClampNeg = p2)
    (hKK : ∀ {t2 k2 : Nat} {ex2 : Hp}, tok t2 → kok t2 k2 → ∀ (o2 : Nat → Int64) (m2 : Mem), K o2 m2 → AW (aw_ZL n xs) mlaw d k0 mc ms aw_QL 1639 [.ref 0, .ref 1, .ref 47, .ref 61, .int i, .null, .null, .null, .null] [] (lay t2 ex2 o2 m2) k2 (cs + 837) (ss + 9372))
    (hw : wc_18 p1 p2 o m K) : AW (aw_ZL n xs) mlaw d k0 mc ms aw_QL 1119 [.ref 0, .ref 1, .ref 47, .ref 61, .int i, .null, .null, .null, .null] [] (lay t ex o m) k cs ss := by
  unfold wc_18 at hw
  refine AW.aload_n (pc := 1119) dL_law_1119 rfl rfl ?_
  refine AW.aload_n (pc := 1120) dL_law_1120 rfl rfl ?_
  refine AW.iload (pc := 1121) dL_law_1121 rfl ?_
  refine AW.iconst (v := 1) (pc := 1123) dL_law_1123 (by decide) ?_
  refine AW.iadd (pc := 1124) dL_law_1124 ?_
  refine AW.sld (pc := 1125) dL_law_1125 hk0 hx1 hp1 ?_
  refine AW.aload_n (pc := 1126) dL_law_1126 rfl rfl ?_
  refine AW.iload (pc := 1127) dL_law_1127 rfl ?_
  refine AW.iconst (v := 2) (pc := 1129) dL_law_1129 (by decide) ?_
  refine AW.iadd (pc := 1130) dL_law_1130 ?_
  refine AW.sld (pc := 1131) dL_law_1131 hk0 hx2 hp2 ?_
  refine AW.aload_n (pc := 1132) dL_law_1132 rfl rfl ?_
  refine AW.callSH (pc := 1133) (S' := []) dL_law_1133 (c_L_ofWire (d := d - 1) ht (by omega) hw) ok_L_ofWire tw_752 tw_751 rfl (by omega) rfl (Nat.le_of_ble_eq_true rfl) (by omega) (by omega) ?_ (fun E h' k' hq => by obtain ⟨rfl, r2, o3, m1, hv, -⟩ := hq; cases hv)
  intro v h' k' hq
  obtain ⟨rfl, r2, o3, m1, hv, rfl, hw⟩ := hq
  cases hv
  show AW _ _ _ _ _ _ _ 1136 [.ref 0, .ref 1, .ref 47, .ref 61, .int i, .null, .null, .null, .null] [.int r2] (lay t ex o3 m1) k _ _
  refine AW.istore (L' := [.ref 0, .ref 1, .ref 47, .ref 61, .int i, .int r2, .null, .null, .null]) (pc := 1136) dL_law_1136 (by decide) rfl rfl ?_
  refine AW.aload_n (pc := 1138) dL_law_1138 rfl rfl ?_
  refine AW.aload_n (pc := 1139) dL_law_1139 rfl rfl ?_
  refine AW.iload (pc := 1140) dL_law_1140 rfl ?_
  refine AW.iconst (v := 1) (pc := 1142) dL_law_1142 (by decide) ?_
  refine AW.iadd (pc := 1143) dL_law_1143 ?_
  refine AW.sld (pc := 1144) dL_law_1144 hk0 hx1 hp1 ?_
  refine AW.aload_n (pc := 1145) dL_law_1145 rfl rfl ?_
  refine AW.iload (pc := 1146) dL_law_1146 rfl ?_
  refine AW.iconst (v := 2) (pc := 1148) dL_law_1148 (by decide) ?_
  refine AW.iadd (pc := 1149) dL_law_1149 ?_
  refine AW.sld (pc := 1150) dL_law_1150 hk0 hx2 hp2 ?_
  refine AW.callV (pc := 1151) (S' := []) dL_law_1151 (c_M_ofWire (d := d - 1) ht (by omega) hw) ok_X5_ofWire tw_1076 tw_1077 tw_1075 (fix_pos (by decide)) (lay_at ht (by decide)) (show aw_cl[5]? = some _ from rfl) rfl rfl (by omega) rfl (Nat.le_of_ble_eq_true rfl) (by omega) (by omega) ?_ (fun E h' k' hq => by obtain ⟨rfl, r5, m4, hv, -⟩ := hq; cases hv)
  intro v h' k' hq
  obtain ⟨rfl, r5, m4, hv, rfl, hw⟩ := hq
  cases hv
  show AW _ _ _ _ _ _ _ 1154 [.ref 0, .ref 1, .ref 47, .ref 61, .int i, .int r2, .null, .null, .null] [.int r5] (lay t ex o3 m4) k _ _
  refine AW.istore (L' := [.ref 0, .ref 1, .ref 47, .ref 61, .int i, .int r2, .int r5, .null, .null]) (pc := 1154) dL_law_1154 (by decide) rfl rfl ?_
  refine AW.aload_n (pc := 1156) dL_law_1156 rfl rfl ?_
  refine AW.callV (pc := 1157) (S' := []) dL_law_1157 (c_M_thrown (d := d - 1) ht (by omega) hw) ok_X5_thrown tw_848 tw_849 tw_847 (fix_pos (by decide)) (lay_at ht (by decide)) (show aw_cl[5]? = some _ from rfl) rfl rfl (by omega) rfl (Nat.le_of_ble_eq_true rfl) (by omega) (by omega) ?_ (fun E h' k' hq => by obtain ⟨rfl, r7, m6, hv, -⟩ := hq; cases hv)
  intro v h' k' hq
  obtain ⟨rfl, r7, m6, hv, rfl, hw⟩ := hq
  cases hv
  show AW _ _ _ _ _ _ _ 1160 [.ref 0, .ref 1, .ref 47, .ref 61, .int i, .int r2, .int r5, .null, .null] [.int r7] (lay t ex o3 m6) k _ _
  refine AW.iload (pc := 1160) dL_law_1160 rfl ?_
  refine AW.icmp_eq (pc := 1162) (tgt := 1167) dL_law_1162 (by decide) (fun c8 => ?_) (fun c8 => ?_)
  · have hw := hw.1 c8
    refine AW.iload (pc := 1167) dL_law_1167 rfl ?_
    refine AW.if_ne (pc := 1169) (tgt := 1184) dL_law_1169 (by decide) (fun c9 => ?_) (fun c9 => ?_)
    · have hw := hw.1 c9
      refine AW.goto (pc := 1184) (tgt := 1639) dL_law_1184 (by decide) ?_
      refine AW.locals (L' := [.ref 0, .ref 1, .ref 47, .ref 61, .int i, .null, .null, .null, .null]) (aw_fewer_same (aw_fewer_same (aw_fewer_same (aw_fewer_same (aw_fewer_same (aw_fewer_null (aw_fewer_null (aw_fewer_null (aw_fewer_null aw_fewer_nil))))))))) ?_
      refine AW.widen (cs' := cs + 837) (ss' := ss + 9372) (by omega) (by omega) ?_
      exact hKK ht hk _ _ hw
    · have hw := hw.2 c9
      refine AW.aload_n (pc := 1172) dL_law_1172 rfl rfl ?_
      refine AW.iconst (v := 0) (pc := 1173) dL_law_1173 (by decide) ?_
      refine LW.laldo (pc := 1174) ht dL_law_1174 ?_
      refine AW.iload (pc := 1175) dL_law_1175 rfl ?_
      refine AW.i2l (pc := 1177) dL_law_1177 ?_
      refine AW.lcmp (pc := 1178) dL_law_1178 ?_
      refine AW.if_eq (pc := 1179) (tgt := 1184) dL_law_1179 (by decide) (fun c10 => ?_) (fun c10 => ?_)
      · have hw := hw.1 c10
        refine AW.goto (pc := 1184) (tgt := 1639) dL_law_1184 (by decide) ?_
        refine AW.locals (L' := [.ref 0, .ref 1, .ref 47, .ref 61, .int i, .null, .null, .null, .null]) (aw_fewer_same (aw_fewer_same (aw_fewer_same (aw_fewer_same (aw_fewer_same (aw_fewer_null (aw_fewer_null (aw_fewer_null (aw_fewer_null aw_fewer_nil))))))))) ?_
        refine AW.widen (cs' := cs + 837) (ss' := ss + 9372) (by omega) (by omega) ?_
        exact hKK ht hk _ _ hw
      · have hw := hw.2 c10
        refine AW.iconst (v := 0) (pc := 1182) dL_law_1182 (by decide) ?_
        exact hw.elim
  · have hw := hw.2 c8
    refine AW.iconst (v := 0) (pc := 1165) dL_law_1165 (by decide) ?_
    exact hw.elim
def wc_19 (p1 : Int32) (o : Nat → Int64) (m : Mem) (K : (Nat → Int64) → Mem → Prop) : Prop :=
  w_L_pending p1 o m (fun r2 o3 m1 => w_M_pending p1 m1 (fun r5 m4 => w_M_thrown  m4 (fun r7 m6 => ((r7 = r2 → ((¬ (r2 = 0) → K o3 m6) ∧ (r2 = 0 → (((lg_cmp (o3 0) r5.toInt64) = 0 → K o3 m6) ∧ (¬ ((lg_cmp (o3 0) r5.toInt64) = 0) → False))))) ∧ (¬ (r7 = r2) → False)))))
set_option maxRecDepth 100000 in
set_option maxHeartbeats 4000000 in
theorem b_law_19 {n : Nat} {xs : Nat → Int32} {d k0 mc ms cs ss k t : Nat} {ex : Hp} {o : Nat → Int64} {m : Mem} {K : (Nat → Int64) → Mem → Prop} {i : Int32} {p1 : Int32} (hk0 : 0 < k0) (hd : 40 ≤ d) (hcs : cs + 837 ≤ mc) (hss : ss + 9372 ≤ ms) (ht : tok t) (hk : kok t k) (hx1 : vp_in (i + (1 : Int32)) n) (hp1 : xs (i + (1 : Int32)).toNatClampNeg = p1)
    (hKK : ∀ {t2 k2 : Nat} {ex2 : Hp}, tok t2 → kok t2 k2 → ∀ (o2 : Nat → Int64) (m2 : Mem), K o2 m2 → AW (aw_ZL n xs) mlaw d k0 mc ms aw_QL 1639 [.ref 0, .ref 1, .ref 47, .ref 61, .int i, .null, .null, .null, .null] [] (lay t2 ex2 o2 m2) k2 (cs + 837) (ss + 9372))
    (hw : wc_19 p1 o m K) : AW (aw_ZL n xs) mlaw d k0 mc ms aw_QL 1187 [.ref 0, .ref 1, .ref 47, .ref 61, .int i, .null, .null, .null, .null] [] (lay t ex o m) k cs ss := by
  unfold wc_19 at hw
  refine AW.aload_n (pc := 1187) dL_law_1187 rfl rfl ?_
  refine AW.aload_n (pc := 1188) dL_law_1188 rfl rfl ?_
  refine AW.iload (pc := 1189) dL_law_1189 rfl ?_
  refine AW.iconst (v := 1) (pc := 1191) dL_law_1191 (by decide) ?_
  refine AW.iadd (pc := 1192) dL_law_1192 ?_
  refine AW.sld (pc := 1193) dL_law_1193 hk0 hx1 hp1 ?_
  refine AW.aload_n (pc := 1194) dL_law_1194 rfl rfl ?_
  refine AW.callSH (pc := 1195) (S' := []) dL_law_1195 (c_L_pending (d := d - 1) ht (by omega) hw) ok_L_pending tw_756 tw_755 rfl (by omega) rfl (Nat.le_of_ble_eq_true rfl) (by omega) (by omega) ?_ (fun E h' k' hq => by obtain ⟨rfl, r2, o3, m1, hv, -⟩ := hq; cases hv)
  intro v h' k' hq
  obtain ⟨rfl, r2, o3, m1, hv, rfl, hw⟩ := hq
  cases hv
  show AW _ _ _ _ _ _ _ 1198 [.ref 0, .ref 1, .ref 47, .ref 61, .int i, .null, .null, .null, .null] [.int r2] (lay t ex o3 m1) k _ _
  refine AW.istore (L' := [.ref 0, .ref 1, .ref 47, .ref 61, .int i, .int r2, .null, .null, .null]) (pc := 1198) dL_law_1198 (by decide) rfl rfl ?_
  refine AW.aload_n (pc := 1200) dL_law_1200 rfl rfl ?_
  refine AW.aload_n (pc := 1201) dL_law_1201 rfl rfl ?_
  refine AW.iload (pc := 1202) dL_law_1202 rfl ?_
  refine AW.iconst (v := 1) (pc := 1204) dL_law_1204 (by decide) ?_
  refine AW.iadd (pc := 1205) dL_law_1205 ?_
  refine AW.sld (pc := 1206) dL_law_1206 hk0 hx1 hp1 ?_
  refine AW.callV (pc := 1207) (S' := []) dL_law_1207 (c_M_pending (d := d - 1) ht (by omega) hw) ok_X5_pending tw_1080 tw_1081 tw_1079 (fix_pos (by decide)) (lay_at ht (by decide)) (show aw_cl[5]? = some _ from rfl) rfl rfl (by omega) rfl (Nat.le_of_ble_eq_true rfl) (by omega) (by omega) ?_ (fun E h' k' hq => by obtain ⟨rfl, r5, m4, hv, -⟩ := hq; cases hv)
  intro v h' k' hq
  obtain ⟨rfl, r5, m4, hv, rfl, hw⟩ := hq
  cases hv
  show AW _ _ _ _ _ _ _ 1210 [.ref 0, .ref 1, .ref 47, .ref 61, .int i, .int r2, .null, .null, .null] [.int r5] (lay t ex o3 m4) k _ _
  refine AW.istore (L' := [.ref 0, .ref 1, .ref 47, .ref 61, .int i, .int r2, .int r5, .null, .null]) (pc := 1210) dL_law_1210 (by decide) rfl rfl ?_
  refine AW.aload_n (pc := 1212) dL_law_1212 rfl rfl ?_
  refine AW.callV (pc := 1213) (S' := []) dL_law_1213 (c_M_thrown (d := d - 1) ht (by omega) hw) ok_X5_thrown tw_848 tw_849 tw_847 (fix_pos (by decide)) (lay_at ht (by decide)) (show aw_cl[5]? = some _ from rfl) rfl rfl (by omega) rfl (Nat.le_of_ble_eq_true rfl) (by omega) (by omega) ?_ (fun E h' k' hq => by obtain ⟨rfl, r7, m6, hv, -⟩ := hq; cases hv)
  intro v h' k' hq
  obtain ⟨rfl, r7, m6, hv, rfl, hw⟩ := hq
  cases hv
  show AW _ _ _ _ _ _ _ 1216 [.ref 0, .ref 1, .ref 47, .ref 61, .int i, .int r2, .int r5, .null, .null] [.int r7] (lay t ex o3 m6) k _ _
  refine AW.iload (pc := 1216) dL_law_1216 rfl ?_
  refine AW.icmp_eq (pc := 1218) (tgt := 1223) dL_law_1218 (by decide) (fun c8 => ?_) (fun c8 => ?_)
  · have hw := hw.1 c8
    refine AW.iload (pc := 1223) dL_law_1223 rfl ?_
    refine AW.if_ne (pc := 1225) (tgt := 1240) dL_law_1225 (by decide) (fun c9 => ?_) (fun c9 => ?_)
    · have hw := hw.1 c9
      refine AW.goto (pc := 1240) (tgt := 1639) dL_law_1240 (by decide) ?_
      refine AW.locals (L' := [.ref 0, .ref 1, .ref 47, .ref 61, .int i, .null, .null, .null, .null]) (aw_fewer_same (aw_fewer_same (aw_fewer_same (aw_fewer_same (aw_fewer_same (aw_fewer_null (aw_fewer_null (aw_fewer_null (aw_fewer_null aw_fewer_nil))))))))) ?_
      refine AW.widen (cs' := cs + 837) (ss' := ss + 9372) (by omega) (by omega) ?_
      exact hKK ht hk _ _ hw
    · have hw := hw.2 c9
      refine AW.aload_n (pc := 1228) dL_law_1228 rfl rfl ?_
      refine AW.iconst (v := 0) (pc := 1229) dL_law_1229 (by decide) ?_
      refine LW.laldo (pc := 1230) ht dL_law_1230 ?_
      refine AW.iload (pc := 1231) dL_law_1231 rfl ?_
      refine AW.i2l (pc := 1233) dL_law_1233 ?_
      refine AW.lcmp (pc := 1234) dL_law_1234 ?_
      refine AW.if_eq (pc := 1235) (tgt := 1240) dL_law_1235 (by decide) (fun c10 => ?_) (fun c10 => ?_)
      · have hw := hw.1 c10
        refine AW.goto (pc := 1240) (tgt := 1639) dL_law_1240 (by decide) ?_
        refine AW.locals (L' := [.ref 0, .ref 1, .ref 47, .ref 61, .int i, .null, .null, .null, .null]) (aw_fewer_same (aw_fewer_same (aw_fewer_same (aw_fewer_same (aw_fewer_same (aw_fewer_null (aw_fewer_null (aw_fewer_null (aw_fewer_null aw_fewer_nil))))))))) ?_
        refine AW.widen (cs' := cs + 837) (ss' := ss + 9372) (by omega) (by omega) ?_
        exact hKK ht hk _ _ hw
      · have hw := hw.2 c10
        refine AW.iconst (v := 0) (pc := 1238) dL_law_1238 (by decide) ?_
        exact hw.elim
  · have hw := hw.2 c8
    refine AW.iconst (v := 0) (pc := 1221) dL_law_1221 (by decide) ?_
    exact hw.elim
def wc_20 (o : Nat → Int64) (m : Mem) (K : (Nat → Int64) → Mem → Prop) : Prop :=
  w_N_hazards  m (fun r2 m1 => w_M_hazards  m1 (fun r4 m3 => ((r2 = r4 → K o m3) ∧ (¬ (r2 = r4) → False))))
set_option maxRecDepth 100000 in
set_option maxHeartbeats 4000000 in
theorem b_law_20 {n : Nat} {xs : Nat → Int32} {d k0 mc ms cs ss k t : Nat} {ex : Hp} {o : Nat → Int64} {m : Mem} {K : (Nat → Int64) → Mem → Prop} {i : Int32}  (hk0 : 0 < k0) (hd : 40 ≤ d) (hcs : cs + 837 ≤ mc) (hss : ss + 9372 ≤ ms) (ht : tok t) (hk : kok t k) 
    (hKK : ∀ {t2 k2 : Nat} {ex2 : Hp}, tok t2 → kok t2 k2 → ∀ (o2 : Nat → Int64) (m2 : Mem), K o2 m2 → AW (aw_ZL n xs) mlaw d k0 mc ms aw_QL 1639 [.ref 0, .ref 1, .ref 47, .ref 61, .int i, .null, .null, .null, .null] [] (lay t2 ex2 o2 m2) k2 (cs + 837) (ss + 9372))
    (hw : wc_20  o m K) : AW (aw_ZL n xs) mlaw d k0 mc ms aw_QL 1243 [.ref 0, .ref 1, .ref 47, .ref 61, .int i, .null, .null, .null, .null] [] (lay t ex o m) k cs ss := by
  unfold wc_20 at hw
  refine AW.aload_n (pc := 1243) dL_law_1243 rfl rfl ?_
  refine AW.callV (pc := 1244) (S' := []) dL_law_1244 (c_N_hazards (d := d - 1) ht (by omega) hw) ok_X4_hazards tw_304 tw_305 tw_303 (fix_pos (by decide)) (lay_at ht (by decide)) (show aw_cl[4]? = some _ from rfl) rfl rfl (by omega) rfl (Nat.le_of_ble_eq_true rfl) (by omega) (by omega) ?_ (fun E h' k' hq => by obtain ⟨rfl, r2, m1, hv, -⟩ := hq; cases hv)
  intro v h' k' hq
  obtain ⟨rfl, r2, m1, hv, rfl, hw⟩ := hq
  cases hv
  show AW _ _ _ _ _ _ _ 1247 [.ref 0, .ref 1, .ref 47, .ref 61, .int i, .null, .null, .null, .null] [.int r2] (lay t ex o m1) k _ _
  refine AW.aload_n (pc := 1247) dL_law_1247 rfl rfl ?_
  refine AW.callV (pc := 1248) (S' := [.int r2]) dL_law_1248 (c_M_hazards (d := d - 1) ht (by omega) hw) ok_X5_hazards tw_1084 tw_1085 tw_1083 (fix_pos (by decide)) (lay_at ht (by decide)) (show aw_cl[5]? = some _ from rfl) rfl rfl (by omega) rfl (Nat.le_of_ble_eq_true rfl) (by omega) (by omega) ?_ (fun E h' k' hq => by obtain ⟨rfl, r4, m3, hv, -⟩ := hq; cases hv)
  intro v h' k' hq
  obtain ⟨rfl, r4, m3, hv, rfl, hw⟩ := hq
  cases hv
  show AW _ _ _ _ _ _ _ 1251 [.ref 0, .ref 1, .ref 47, .ref 61, .int i, .null, .null, .null, .null] [.int r4, .int r2] (lay t ex o m3) k _ _
  refine AW.icmp_eq (pc := 1251) (tgt := 1639) dL_law_1251 (by decide) (fun c5 => ?_) (fun c5 => ?_)
  · have hw := hw.1 c5
    refine AW.widen (cs' := cs + 837) (ss' := ss + 9372) (by omega) (by omega) ?_
    exact hKK ht hk _ _ hw
  · have hw := hw.2 c5
    refine AW.iconst (v := 0) (pc := 1254) dL_law_1254 (by decide) ?_
    exact hw.elim
def wc_21 (p1 : Int32) (p2 : Int32) (o : Nat → Int64) (m : Mem) (K : (Nat → Int64) → Mem → Prop) : Prop :=
  w_L_ofHazard p1 p2 o m (fun r2 o3 m1 => w_M_ofHazard p1 p2 m1 (fun r5 m4 => w_M_thrown  m4 (fun r7 m6 => ((r7 = r2 → ((¬ (r2 = 0) → K o3 m6) ∧ (r2 = 0 → (((lg_cmp (o3 0) r5.toInt64) = 0 → K o3 m6) ∧ (¬ ((lg_cmp (o3 0) r5.toInt64) = 0) → False))))) ∧ (¬ (r7 = r2) → False)))))
set_option maxRecDepth 100000 in
set_option maxHeartbeats 4000000 in
theorem b_law_21 {n : Nat} {xs : Nat → Int32} {d k0 mc ms cs ss k t : Nat} {ex : Hp} {o : Nat → Int64} {m : Mem} {K : (Nat → Int64) → Mem → Prop} {i : Int32} {p1 : Int32} {p2 : Int32} (hk0 : 0 < k0) (hd : 40 ≤ d) (hcs : cs + 837 ≤ mc) (hss : ss + 9372 ≤ ms) (ht : tok t) (hk : kok t k) (hx1 : vp_in (i + (1 : Int32)) n) (hp1 : xs (i + (1 : Int32)).toNatClampNeg = p1) (hx2 : vp_in (i + (2 : Int32)) n) (hp2 : xs (i + (2 : Int32)).toNatClampNeg = p2)
    (hKK : ∀ {t2 k2 : Nat} {ex2 : Hp}, tok t2 → kok t2 k2 → ∀ (o2 : Nat → Int64) (m2 : Mem), K o2 m2 → AW (aw_ZL n xs) mlaw d k0 mc ms aw_QL 1639 [.ref 0, .ref 1, .ref 47, .ref 61, .int i, .null, .null, .null, .null] [] (lay t2 ex2 o2 m2) k2 (cs + 837) (ss + 9372))
    (hw : wc_21 p1 p2 o m K) : AW (aw_ZL n xs) mlaw d k0 mc ms aw_QL 1256 [.ref 0, .ref 1, .ref 47, .ref 61, .int i, .null, .null, .null, .null] [] (lay t ex o m) k cs ss := by
  unfold wc_21 at hw
  refine AW.aload_n (pc := 1256) dL_law_1256 rfl rfl ?_
  refine AW.aload_n (pc := 1257) dL_law_1257 rfl rfl ?_
  refine AW.iload (pc := 1258) dL_law_1258 rfl ?_
  refine AW.iconst (v := 1) (pc := 1260) dL_law_1260 (by decide) ?_
  refine AW.iadd (pc := 1261) dL_law_1261 ?_
  refine AW.sld (pc := 1262) dL_law_1262 hk0 hx1 hp1 ?_
  refine AW.aload_n (pc := 1263) dL_law_1263 rfl rfl ?_
  refine AW.iload (pc := 1264) dL_law_1264 rfl ?_
  refine AW.iconst (v := 2) (pc := 1266) dL_law_1266 (by decide) ?_
  refine AW.iadd (pc := 1267) dL_law_1267 ?_
  refine AW.sld (pc := 1268) dL_law_1268 hk0 hx2 hp2 ?_
  refine AW.aload_n (pc := 1269) dL_law_1269 rfl rfl ?_
  refine AW.callSH (pc := 1270) (S' := []) dL_law_1270 (c_L_ofHazard (d := d - 1) ht (by omega) hw) ok_L_ofHazard tw_760 tw_759 rfl (by omega) rfl (Nat.le_of_ble_eq_true rfl) (by omega) (by omega) ?_ (fun E h' k' hq => by obtain ⟨rfl, r2, o3, m1, hv, -⟩ := hq; cases hv)
  intro v h' k' hq
  obtain ⟨rfl, r2, o3, m1, hv, rfl, hw⟩ := hq
  cases hv
  show AW _ _ _ _ _ _ _ 1273 [.ref 0, .ref 1, .ref 47, .ref 61, .int i, .null, .null, .null, .null] [.int r2] (lay t ex o3 m1) k _ _
  refine AW.istore (L' := [.ref 0, .ref 1, .ref 47, .ref 61, .int i, .int r2, .null, .null, .null]) (pc := 1273) dL_law_1273 (by decide) rfl rfl ?_
  refine AW.aload_n (pc := 1275) dL_law_1275 rfl rfl ?_
  refine AW.aload_n (pc := 1276) dL_law_1276 rfl rfl ?_
  refine AW.iload (pc := 1277) dL_law_1277 rfl ?_
  refine AW.iconst (v := 1) (pc := 1279) dL_law_1279 (by decide) ?_
  refine AW.iadd (pc := 1280) dL_law_1280 ?_
  refine AW.sld (pc := 1281) dL_law_1281 hk0 hx1 hp1 ?_
  refine AW.aload_n (pc := 1282) dL_law_1282 rfl rfl ?_
  refine AW.iload (pc := 1283) dL_law_1283 rfl ?_
  refine AW.iconst (v := 2) (pc := 1285) dL_law_1285 (by decide) ?_
  refine AW.iadd (pc := 1286) dL_law_1286 ?_
  refine AW.sld (pc := 1287) dL_law_1287 hk0 hx2 hp2 ?_
  refine AW.callV (pc := 1288) (S' := []) dL_law_1288 (c_M_ofHazard (d := d - 1) ht (by omega) hw) ok_X5_ofHazard tw_1088 tw_1089 tw_1087 (fix_pos (by decide)) (lay_at ht (by decide)) (show aw_cl[5]? = some _ from rfl) rfl rfl (by omega) rfl (Nat.le_of_ble_eq_true rfl) (by omega) (by omega) ?_ (fun E h' k' hq => by obtain ⟨rfl, r5, m4, hv, -⟩ := hq; cases hv)
  intro v h' k' hq
  obtain ⟨rfl, r5, m4, hv, rfl, hw⟩ := hq
  cases hv
  show AW _ _ _ _ _ _ _ 1291 [.ref 0, .ref 1, .ref 47, .ref 61, .int i, .int r2, .null, .null, .null] [.int r5] (lay t ex o3 m4) k _ _
  refine AW.istore (L' := [.ref 0, .ref 1, .ref 47, .ref 61, .int i, .int r2, .int r5, .null, .null]) (pc := 1291) dL_law_1291 (by decide) rfl rfl ?_
  refine AW.aload_n (pc := 1293) dL_law_1293 rfl rfl ?_
  refine AW.callV (pc := 1294) (S' := []) dL_law_1294 (c_M_thrown (d := d - 1) ht (by omega) hw) ok_X5_thrown tw_848 tw_849 tw_847 (fix_pos (by decide)) (lay_at ht (by decide)) (show aw_cl[5]? = some _ from rfl) rfl rfl (by omega) rfl (Nat.le_of_ble_eq_true rfl) (by omega) (by omega) ?_ (fun E h' k' hq => by obtain ⟨rfl, r7, m6, hv, -⟩ := hq; cases hv)
  intro v h' k' hq
  obtain ⟨rfl, r7, m6, hv, rfl, hw⟩ := hq
  cases hv
  show AW _ _ _ _ _ _ _ 1297 [.ref 0, .ref 1, .ref 47, .ref 61, .int i, .int r2, .int r5, .null, .null] [.int r7] (lay t ex o3 m6) k _ _
  refine AW.iload (pc := 1297) dL_law_1297 rfl ?_
  refine AW.icmp_eq (pc := 1299) (tgt := 1304) dL_law_1299 (by decide) (fun c8 => ?_) (fun c8 => ?_)
  · have hw := hw.1 c8
    refine AW.iload (pc := 1304) dL_law_1304 rfl ?_
    refine AW.if_ne (pc := 1306) (tgt := 1321) dL_law_1306 (by decide) (fun c9 => ?_) (fun c9 => ?_)
    · have hw := hw.1 c9
      refine AW.goto (pc := 1321) (tgt := 1639) dL_law_1321 (by decide) ?_
      refine AW.locals (L' := [.ref 0, .ref 1, .ref 47, .ref 61, .int i, .null, .null, .null, .null]) (aw_fewer_same (aw_fewer_same (aw_fewer_same (aw_fewer_same (aw_fewer_same (aw_fewer_null (aw_fewer_null (aw_fewer_null (aw_fewer_null aw_fewer_nil))))))))) ?_
      refine AW.widen (cs' := cs + 837) (ss' := ss + 9372) (by omega) (by omega) ?_
      exact hKK ht hk _ _ hw
    · have hw := hw.2 c9
      refine AW.aload_n (pc := 1309) dL_law_1309 rfl rfl ?_
      refine AW.iconst (v := 0) (pc := 1310) dL_law_1310 (by decide) ?_
      refine LW.laldo (pc := 1311) ht dL_law_1311 ?_
      refine AW.iload (pc := 1312) dL_law_1312 rfl ?_
      refine AW.i2l (pc := 1314) dL_law_1314 ?_
      refine AW.lcmp (pc := 1315) dL_law_1315 ?_
      refine AW.if_eq (pc := 1316) (tgt := 1321) dL_law_1316 (by decide) (fun c10 => ?_) (fun c10 => ?_)
      · have hw := hw.1 c10
        refine AW.goto (pc := 1321) (tgt := 1639) dL_law_1321 (by decide) ?_
        refine AW.locals (L' := [.ref 0, .ref 1, .ref 47, .ref 61, .int i, .null, .null, .null, .null]) (aw_fewer_same (aw_fewer_same (aw_fewer_same (aw_fewer_same (aw_fewer_same (aw_fewer_null (aw_fewer_null (aw_fewer_null (aw_fewer_null aw_fewer_nil))))))))) ?_
        refine AW.widen (cs' := cs + 837) (ss' := ss + 9372) (by omega) (by omega) ?_
        exact hKK ht hk _ _ hw
      · have hw := hw.2 c10
        refine AW.iconst (v := 0) (pc := 1319) dL_law_1319 (by decide) ?_
        exact hw.elim
  · have hw := hw.2 c8
    refine AW.iconst (v := 0) (pc := 1302) dL_law_1302 (by decide) ?_
    exact hw.elim
def wc_22 (p1 : Int32) (p2 : Int32) (p3 : Int32) (o : Nat → Int64) (m : Mem) (K : (Nat → Int64) → Mem → Prop) : Prop :=
  w_L_wouldBe p1 p2 p3 o m (fun r2 o3 m1 => w_M_wouldBe p1 p2 p3 m1 (fun r5 m4 => w_M_thrown  m4 (fun r10 m9 => ((r10 = r2 → ((¬ (r2 = 0) → K o3 m9) ∧ (r2 = 0 → (((lg_cmp (o3 0) r5.toInt64) = 0 → K o3 m9) ∧ (¬ ((lg_cmp (o3 0) r5.toInt64) = 0) → False))))) ∧ (¬ (r10 = r2) → False)))))
set_option maxRecDepth 100000 in
set_option maxHeartbeats 4000000 in
theorem b_law_22 {n : Nat} {xs : Nat → Int32} {d k0 mc ms cs ss k t : Nat} {ex : Hp} {o : Nat → Int64} {m : Mem} {K : (Nat → Int64) → Mem → Prop} {i : Int32} {p1 : Int32} {p2 : Int32} {p3 : Int32} (hk0 : 0 < k0) (hd : 40 ≤ d) (hcs : cs + 837 ≤ mc) (hss : ss + 9372 ≤ ms) (ht : tok t) (hk : kok t k) (hx1 : vp_in (i + (1 : Int32)) n) (hp1 : xs (i + (1 : Int32)).toNatClampNeg = p1) (hx2 : vp_in (i + (2 : Int32)) n) (hp2 : xs (i + (2 : Int32)).toNatClampNeg = p2) (hx3 : vp_in (i + (3 : Int32)) n) (hp3 : xs (i + (3 : Int32)).toNatClampNeg = p3)
    (hKK : ∀ {t2 k2 : Nat} {ex2 : Hp}, tok t2 → kok t2 k2 → ∀ (o2 : Nat → Int64) (m2 : Mem), K o2 m2 → AW (aw_ZL n xs) mlaw d k0 mc ms aw_QL 1639 [.ref 0, .ref 1, .ref 47, .ref 61, .int i, .null, .null, .null, .null] [] (lay t2 ex2 o2 m2) k2 (cs + 837) (ss + 9372))
    (hw : wc_22 p1 p2 p3 o m K) : AW (aw_ZL n xs) mlaw d k0 mc ms aw_QL 1324 [.ref 0, .ref 1, .ref 47, .ref 61, .int i, .null, .null, .null, .null] [] (lay t ex o m) k cs ss := by
  unfold wc_22 at hw
  refine AW.aload_n (pc := 1324) dL_law_1324 rfl rfl ?_
  refine AW.aload_n (pc := 1325) dL_law_1325 rfl rfl ?_
  refine AW.iload (pc := 1326) dL_law_1326 rfl ?_
  refine AW.iconst (v := 1) (pc := 1328) dL_law_1328 (by decide) ?_
  refine AW.iadd (pc := 1329) dL_law_1329 ?_
  refine AW.sld (pc := 1330) dL_law_1330 hk0 hx1 hp1 ?_
  refine AW.aload_n (pc := 1331) dL_law_1331 rfl rfl ?_
  refine AW.iload (pc := 1332) dL_law_1332 rfl ?_
  refine AW.iconst (v := 2) (pc := 1334) dL_law_1334 (by decide) ?_
  refine AW.iadd (pc := 1335) dL_law_1335 ?_
  refine AW.sld (pc := 1336) dL_law_1336 hk0 hx2 hp2 ?_
  refine AW.aload_n (pc := 1337) dL_law_1337 rfl rfl ?_
  refine AW.iload (pc := 1338) dL_law_1338 rfl ?_
  refine AW.iconst (v := 3) (pc := 1340) dL_law_1340 (by decide) ?_
  refine AW.iadd (pc := 1341) dL_law_1341 ?_
  refine AW.sld (pc := 1342) dL_law_1342 hk0 hx3 hp3 ?_
  refine AW.aload_n (pc := 1343) dL_law_1343 rfl rfl ?_
  refine AW.callSH (pc := 1344) (S' := []) dL_law_1344 (c_L_wouldBe (d := d - 1) ht (by omega) hw) ok_L_wouldBe tw_764 tw_763 rfl (by omega) rfl (Nat.le_of_ble_eq_true rfl) (by omega) (by omega) ?_ (fun E h' k' hq => by obtain ⟨rfl, r2, o3, m1, hv, -⟩ := hq; cases hv)
  intro v h' k' hq
  obtain ⟨rfl, r2, o3, m1, hv, rfl, hw⟩ := hq
  cases hv
  show AW _ _ _ _ _ _ _ 1347 [.ref 0, .ref 1, .ref 47, .ref 61, .int i, .null, .null, .null, .null] [.int r2] (lay t ex o3 m1) k _ _
  refine AW.istore (L' := [.ref 0, .ref 1, .ref 47, .ref 61, .int i, .int r2, .null, .null, .null]) (pc := 1347) dL_law_1347 (by decide) rfl rfl ?_
  refine AW.aload_n (pc := 1349) dL_law_1349 rfl rfl ?_
  refine AW.aload_n (pc := 1350) dL_law_1350 rfl rfl ?_
  refine AW.iload (pc := 1351) dL_law_1351 rfl ?_
  refine AW.iconst (v := 1) (pc := 1353) dL_law_1353 (by decide) ?_
  refine AW.iadd (pc := 1354) dL_law_1354 ?_
  refine AW.sld (pc := 1355) dL_law_1355 hk0 hx1 hp1 ?_
  refine AW.aload_n (pc := 1356) dL_law_1356 rfl rfl ?_
  refine AW.iload (pc := 1357) dL_law_1357 rfl ?_
  refine AW.iconst (v := 2) (pc := 1359) dL_law_1359 (by decide) ?_
  refine AW.iadd (pc := 1360) dL_law_1360 ?_
  refine AW.sld (pc := 1361) dL_law_1361 hk0 hx2 hp2 ?_
  refine AW.aload_n (pc := 1362) dL_law_1362 rfl rfl ?_
  refine AW.iload (pc := 1363) dL_law_1363 rfl ?_
  refine AW.iconst (v := 3) (pc := 1365) dL_law_1365 (by decide) ?_
  refine AW.iadd (pc := 1366) dL_law_1366 ?_
  refine AW.sld (pc := 1367) dL_law_1367 hk0 hx3 hp3 ?_
  refine AW.callV (pc := 1368) (S' := []) dL_law_1368 (c_M_wouldBe (d := d - 1) ht (by omega) hk hw) ok_X5_wouldBe tw_1092 tw_1093 tw_1091 (fix_pos (by decide)) (lay_at ht (by decide)) (show aw_cl[5]? = some _ from rfl) rfl rfl (by omega) rfl (Nat.le_of_ble_eq_true rfl) (by omega) (by omega) ?_ (fun E h' k' hq => by obtain ⟨ex7, r5, m4, hx8, hv, -⟩ := hq; cases hv)
  intro v h' k6 hq
  obtain ⟨ex7, r5, m4, hx8, hv, rfl, hw⟩ := hq
  cases hv
  show AW _ _ _ _ _ _ _ 1371 [.ref 0, .ref 1, .ref 47, .ref 61, .int i, .int r2, .null, .null, .null] [.int r5] (lay t ex7 o3 m4) k6 _ _
  refine AW.istore (L' := [.ref 0, .ref 1, .ref 47, .ref 61, .int i, .int r2, .int r5, .null, .null]) (pc := 1371) dL_law_1371 (by decide) rfl rfl ?_
  refine AW.aload_n (pc := 1373) dL_law_1373 rfl rfl ?_
  refine AW.callV (pc := 1374) (S' := []) dL_law_1374 (c_M_thrown (d := d - 1) ht (by omega) hw) ok_X5_thrown tw_848 tw_849 tw_847 (fix_pos (by decide)) (lay_at ht (by decide)) (show aw_cl[5]? = some _ from rfl) rfl rfl (by omega) rfl (Nat.le_of_ble_eq_true rfl) (by omega) (by omega) ?_ (fun E h' k' hq => by obtain ⟨rfl, r10, m9, hv, -⟩ := hq; cases hv)
  intro v h' k' hq
  obtain ⟨rfl, r10, m9, hv, rfl, hw⟩ := hq
  cases hv
  show AW _ _ _ _ _ _ _ 1377 [.ref 0, .ref 1, .ref 47, .ref 61, .int i, .int r2, .int r5, .null, .null] [.int r10] (lay t ex7 o3 m9) k6 _ _
  refine AW.iload (pc := 1377) dL_law_1377 rfl ?_
  refine AW.icmp_eq (pc := 1379) (tgt := 1384) dL_law_1379 (by decide) (fun c11 => ?_) (fun c11 => ?_)
  · have hw := hw.1 c11
    refine AW.iload (pc := 1384) dL_law_1384 rfl ?_
    refine AW.if_ne (pc := 1386) (tgt := 1401) dL_law_1386 (by decide) (fun c12 => ?_) (fun c12 => ?_)
    · have hw := hw.1 c12
      refine AW.goto (pc := 1401) (tgt := 1639) dL_law_1401 (by decide) ?_
      refine AW.locals (L' := [.ref 0, .ref 1, .ref 47, .ref 61, .int i, .null, .null, .null, .null]) (aw_fewer_same (aw_fewer_same (aw_fewer_same (aw_fewer_same (aw_fewer_same (aw_fewer_null (aw_fewer_null (aw_fewer_null (aw_fewer_null aw_fewer_nil))))))))) ?_
      refine AW.widen (cs' := cs + 837) (ss' := ss + 9372) (by omega) (by omega) ?_
      exact hKK ht (hk.le hx8) _ _ hw
    · have hw := hw.2 c12
      refine AW.aload_n (pc := 1389) dL_law_1389 rfl rfl ?_
      refine AW.iconst (v := 0) (pc := 1390) dL_law_1390 (by decide) ?_
      refine LW.laldo (pc := 1391) ht dL_law_1391 ?_
      refine AW.iload (pc := 1392) dL_law_1392 rfl ?_
      refine AW.i2l (pc := 1394) dL_law_1394 ?_
      refine AW.lcmp (pc := 1395) dL_law_1395 ?_
      refine AW.if_eq (pc := 1396) (tgt := 1401) dL_law_1396 (by decide) (fun c13 => ?_) (fun c13 => ?_)
      · have hw := hw.1 c13
        refine AW.goto (pc := 1401) (tgt := 1639) dL_law_1401 (by decide) ?_
        refine AW.locals (L' := [.ref 0, .ref 1, .ref 47, .ref 61, .int i, .null, .null, .null, .null]) (aw_fewer_same (aw_fewer_same (aw_fewer_same (aw_fewer_same (aw_fewer_same (aw_fewer_null (aw_fewer_null (aw_fewer_null (aw_fewer_null aw_fewer_nil))))))))) ?_
        refine AW.widen (cs' := cs + 837) (ss' := ss + 9372) (by omega) (by omega) ?_
        exact hKK ht (hk.le hx8) _ _ hw
      · have hw := hw.2 c13
        refine AW.iconst (v := 0) (pc := 1399) dL_law_1399 (by decide) ?_
        exact hw.elim
  · have hw := hw.2 c11
    refine AW.iconst (v := 0) (pc := 1382) dL_law_1382 (by decide) ?_
    exact hw.elim
def wc_23 (p1 : Int32) (p2 : Int32) (o : Nat → Int64) (m : Mem) (K : (Nat → Int64) → Mem → Prop) : Prop :=
  w_L_hazardsWith p1 p2 o m (fun r2 o3 m1 => w_M_hazardsWith p1 p2 m1 (fun r5 m4 => w_M_thrown  m4 (fun r10 m9 => ((r10 = r2 → ((¬ (r2 = 0) → K o3 m9) ∧ (r2 = 0 → (((lg_cmp (o3 0) r5.toInt64) = 0 → K o3 m9) ∧ (¬ ((lg_cmp (o3 0) r5.toInt64) = 0) → False))))) ∧ (¬ (r10 = r2) → False)))))
set_option maxRecDepth 100000 in
set_option maxHeartbeats 4000000 in
theorem b_law_23 {n : Nat} {xs : Nat → Int32} {d k0 mc ms cs ss k t : Nat} {ex : Hp} {o : Nat → Int64} {m : Mem} {K : (Nat → Int64) → Mem → Prop} {i : Int32} {p1 : Int32} {p2 : Int32} (hk0 : 0 < k0) (hd : 40 ≤ d) (hcs : cs + 837 ≤ mc) (hss : ss + 9372 ≤ ms) (ht : tok t) (hk : kok t k) (hx1 : vp_in (i + (1 : Int32)) n) (hp1 : xs (i + (1 : Int32)).toNatClampNeg = p1) (hx2 : vp_in (i + (2 : Int32)) n) (hp2 : xs (i + (2 : Int32)).toNatClampNeg = p2)
    (hKK : ∀ {t2 k2 : Nat} {ex2 : Hp}, tok t2 → kok t2 k2 → ∀ (o2 : Nat → Int64) (m2 : Mem), K o2 m2 → AW (aw_ZL n xs) mlaw d k0 mc ms aw_QL 1639 [.ref 0, .ref 1, .ref 47, .ref 61, .int i, .null, .null, .null, .null] [] (lay t2 ex2 o2 m2) k2 (cs + 837) (ss + 9372))
    (hw : wc_23 p1 p2 o m K) : AW (aw_ZL n xs) mlaw d k0 mc ms aw_QL 1404 [.ref 0, .ref 1, .ref 47, .ref 61, .int i, .null, .null, .null, .null] [] (lay t ex o m) k cs ss := by
  unfold wc_23 at hw
  refine AW.aload_n (pc := 1404) dL_law_1404 rfl rfl ?_
  refine AW.aload_n (pc := 1405) dL_law_1405 rfl rfl ?_
  refine AW.iload (pc := 1406) dL_law_1406 rfl ?_
  refine AW.iconst (v := 1) (pc := 1408) dL_law_1408 (by decide) ?_
  refine AW.iadd (pc := 1409) dL_law_1409 ?_
  refine AW.sld (pc := 1410) dL_law_1410 hk0 hx1 hp1 ?_
  refine AW.aload_n (pc := 1411) dL_law_1411 rfl rfl ?_
  refine AW.iload (pc := 1412) dL_law_1412 rfl ?_
  refine AW.iconst (v := 2) (pc := 1414) dL_law_1414 (by decide) ?_
  refine AW.iadd (pc := 1415) dL_law_1415 ?_
  refine AW.sld (pc := 1416) dL_law_1416 hk0 hx2 hp2 ?_
  refine AW.aload_n (pc := 1417) dL_law_1417 rfl rfl ?_
  refine AW.callSH (pc := 1418) (S' := []) dL_law_1418 (c_L_hazardsWith (d := d - 1) ht (by omega) hw) ok_L_hazardsWith tw_771 tw_770 rfl (by omega) rfl (Nat.le_of_ble_eq_true rfl) (by omega) (by omega) ?_ (fun E h' k' hq => by obtain ⟨rfl, r2, o3, m1, hv, -⟩ := hq; cases hv)
  intro v h' k' hq
  obtain ⟨rfl, r2, o3, m1, hv, rfl, hw⟩ := hq
  cases hv
  show AW _ _ _ _ _ _ _ 1421 [.ref 0, .ref 1, .ref 47, .ref 61, .int i, .null, .null, .null, .null] [.int r2] (lay t ex o3 m1) k _ _
  refine AW.istore (L' := [.ref 0, .ref 1, .ref 47, .ref 61, .int i, .int r2, .null, .null, .null]) (pc := 1421) dL_law_1421 (by decide) rfl rfl ?_
  refine AW.aload_n (pc := 1423) dL_law_1423 rfl rfl ?_
  refine AW.aload_n (pc := 1424) dL_law_1424 rfl rfl ?_
  refine AW.iload (pc := 1425) dL_law_1425 rfl ?_
  refine AW.iconst (v := 1) (pc := 1427) dL_law_1427 (by decide) ?_
  refine AW.iadd (pc := 1428) dL_law_1428 ?_
  refine AW.sld (pc := 1429) dL_law_1429 hk0 hx1 hp1 ?_
  refine AW.aload_n (pc := 1430) dL_law_1430 rfl rfl ?_
  refine AW.iload (pc := 1431) dL_law_1431 rfl ?_
  refine AW.iconst (v := 2) (pc := 1433) dL_law_1433 (by decide) ?_
  refine AW.iadd (pc := 1434) dL_law_1434 ?_
  refine AW.sld (pc := 1435) dL_law_1435 hk0 hx2 hp2 ?_
  refine AW.callV (pc := 1436) (S' := []) dL_law_1436 (c_M_hazardsWith (d := d - 1) ht (by omega) hk hw) ok_X5_hazardsWith tw_1101 tw_1102 tw_1100 (fix_pos (by decide)) (lay_at ht (by decide)) (show aw_cl[5]? = some _ from rfl) rfl rfl (by omega) rfl (Nat.le_of_ble_eq_true rfl) (by omega) (by omega) ?_ (fun E h' k' hq => by obtain ⟨ex7, r5, m4, hx8, hv, -⟩ := hq; cases hv)
  intro v h' k6 hq
  obtain ⟨ex7, r5, m4, hx8, hv, rfl, hw⟩ := hq
  cases hv
  show AW _ _ _ _ _ _ _ 1439 [.ref 0, .ref 1, .ref 47, .ref 61, .int i, .int r2, .null, .null, .null] [.int r5] (lay t ex7 o3 m4) k6 _ _
  refine AW.istore (L' := [.ref 0, .ref 1, .ref 47, .ref 61, .int i, .int r2, .int r5, .null, .null]) (pc := 1439) dL_law_1439 (by decide) rfl rfl ?_
  refine AW.aload_n (pc := 1441) dL_law_1441 rfl rfl ?_
  refine AW.callV (pc := 1442) (S' := []) dL_law_1442 (c_M_thrown (d := d - 1) ht (by omega) hw) ok_X5_thrown tw_848 tw_849 tw_847 (fix_pos (by decide)) (lay_at ht (by decide)) (show aw_cl[5]? = some _ from rfl) rfl rfl (by omega) rfl (Nat.le_of_ble_eq_true rfl) (by omega) (by omega) ?_ (fun E h' k' hq => by obtain ⟨rfl, r10, m9, hv, -⟩ := hq; cases hv)
  intro v h' k' hq
  obtain ⟨rfl, r10, m9, hv, rfl, hw⟩ := hq
  cases hv
  show AW _ _ _ _ _ _ _ 1445 [.ref 0, .ref 1, .ref 47, .ref 61, .int i, .int r2, .int r5, .null, .null] [.int r10] (lay t ex7 o3 m9) k6 _ _
  refine AW.iload (pc := 1445) dL_law_1445 rfl ?_
  refine AW.icmp_eq (pc := 1447) (tgt := 1452) dL_law_1447 (by decide) (fun c11 => ?_) (fun c11 => ?_)
  · have hw := hw.1 c11
    refine AW.iload (pc := 1452) dL_law_1452 rfl ?_
    refine AW.if_ne (pc := 1454) (tgt := 1469) dL_law_1454 (by decide) (fun c12 => ?_) (fun c12 => ?_)
    · have hw := hw.1 c12
      refine AW.goto (pc := 1469) (tgt := 1639) dL_law_1469 (by decide) ?_
      refine AW.locals (L' := [.ref 0, .ref 1, .ref 47, .ref 61, .int i, .null, .null, .null, .null]) (aw_fewer_same (aw_fewer_same (aw_fewer_same (aw_fewer_same (aw_fewer_same (aw_fewer_null (aw_fewer_null (aw_fewer_null (aw_fewer_null aw_fewer_nil))))))))) ?_
      refine AW.widen (cs' := cs + 837) (ss' := ss + 9372) (by omega) (by omega) ?_
      exact hKK ht (hk.le hx8) _ _ hw
    · have hw := hw.2 c12
      refine AW.aload_n (pc := 1457) dL_law_1457 rfl rfl ?_
      refine AW.iconst (v := 0) (pc := 1458) dL_law_1458 (by decide) ?_
      refine LW.laldo (pc := 1459) ht dL_law_1459 ?_
      refine AW.iload (pc := 1460) dL_law_1460 rfl ?_
      refine AW.i2l (pc := 1462) dL_law_1462 ?_
      refine AW.lcmp (pc := 1463) dL_law_1463 ?_
      refine AW.if_eq (pc := 1464) (tgt := 1469) dL_law_1464 (by decide) (fun c13 => ?_) (fun c13 => ?_)
      · have hw := hw.1 c13
        refine AW.goto (pc := 1469) (tgt := 1639) dL_law_1469 (by decide) ?_
        refine AW.locals (L' := [.ref 0, .ref 1, .ref 47, .ref 61, .int i, .null, .null, .null, .null]) (aw_fewer_same (aw_fewer_same (aw_fewer_same (aw_fewer_same (aw_fewer_same (aw_fewer_null (aw_fewer_null (aw_fewer_null (aw_fewer_null aw_fewer_nil))))))))) ?_
        refine AW.widen (cs' := cs + 837) (ss' := ss + 9372) (by omega) (by omega) ?_
        exact hKK ht (hk.le hx8) _ _ hw
      · have hw := hw.2 c13
        refine AW.iconst (v := 0) (pc := 1467) dL_law_1467 (by decide) ?_
        exact hw.elim
  · have hw := hw.2 c11
    refine AW.iconst (v := 0) (pc := 1450) dL_law_1450 (by decide) ?_
    exact hw.elim
def wc_24 (o : Nat → Int64) (m : Mem) (K : (Nat → Int64) → Mem → Prop) : Prop :=
  w_L_settlesIn  o m (fun r2 o3 m1 => w_M_settlesIn  m1 (fun r5 m4 => w_M_thrown  m4 (fun r10 m9 => ((r10 = r2 → ((¬ (r2 = 0) → K o3 m9) ∧ (r2 = 0 → (((lg_cmp (o3 0) r5.toInt64) = 0 → K o3 m9) ∧ (¬ ((lg_cmp (o3 0) r5.toInt64) = 0) → False))))) ∧ (¬ (r10 = r2) → False)))))
set_option maxRecDepth 100000 in
set_option maxHeartbeats 4000000 in
theorem b_law_24 {n : Nat} {xs : Nat → Int32} {d k0 mc ms cs ss k t : Nat} {ex : Hp} {o : Nat → Int64} {m : Mem} {K : (Nat → Int64) → Mem → Prop} {i : Int32}  (hk0 : 0 < k0) (hd : 40 ≤ d) (hcs : cs + 837 ≤ mc) (hss : ss + 9372 ≤ ms) (ht : tok t) (hk : kok t k) 
    (hKK : ∀ {t2 k2 : Nat} {ex2 : Hp}, tok t2 → kok t2 k2 → ∀ (o2 : Nat → Int64) (m2 : Mem), K o2 m2 → AW (aw_ZL n xs) mlaw d k0 mc ms aw_QL 1639 [.ref 0, .ref 1, .ref 47, .ref 61, .int i, .null, .null, .null, .null] [] (lay t2 ex2 o2 m2) k2 (cs + 837) (ss + 9372))
    (hw : wc_24  o m K) : AW (aw_ZL n xs) mlaw d k0 mc ms aw_QL 1472 [.ref 0, .ref 1, .ref 47, .ref 61, .int i, .null, .null, .null, .null] [] (lay t ex o m) k cs ss := by
  unfold wc_24 at hw
  refine AW.aload_n (pc := 1472) dL_law_1472 rfl rfl ?_
  refine AW.aload_n (pc := 1473) dL_law_1473 rfl rfl ?_
  refine AW.callSH (pc := 1474) (S' := []) dL_law_1474 (c_L_settlesIn (d := d - 1) ht (by omega) hw) ok_L_settlesIn tw_778 tw_777 rfl (by omega) rfl (Nat.le_of_ble_eq_true rfl) (by omega) (by omega) ?_ (fun E h' k' hq => by obtain ⟨rfl, r2, o3, m1, hv, -⟩ := hq; cases hv)
  intro v h' k' hq
  obtain ⟨rfl, r2, o3, m1, hv, rfl, hw⟩ := hq
  cases hv
  show AW _ _ _ _ _ _ _ 1477 [.ref 0, .ref 1, .ref 47, .ref 61, .int i, .null, .null, .null, .null] [.int r2] (lay t ex o3 m1) k _ _
  refine AW.istore (L' := [.ref 0, .ref 1, .ref 47, .ref 61, .int i, .int r2, .null, .null, .null]) (pc := 1477) dL_law_1477 (by decide) rfl rfl ?_
  refine AW.aload_n (pc := 1479) dL_law_1479 rfl rfl ?_
  refine AW.callV (pc := 1480) (S' := []) dL_law_1480 (c_M_settlesIn (d := d - 1) ht (by omega) hk hw) ok_X5_settlesIn tw_1105 tw_1106 tw_1104 (fix_pos (by decide)) (lay_at ht (by decide)) (show aw_cl[5]? = some _ from rfl) rfl rfl (by omega) rfl (Nat.le_of_ble_eq_true rfl) (by omega) (by omega) ?_ (fun E h' k' hq => by obtain ⟨ex7, r5, m4, hx8, hv, -⟩ := hq; cases hv)
  intro v h' k6 hq
  obtain ⟨ex7, r5, m4, hx8, hv, rfl, hw⟩ := hq
  cases hv
  show AW _ _ _ _ _ _ _ 1483 [.ref 0, .ref 1, .ref 47, .ref 61, .int i, .int r2, .null, .null, .null] [.int r5] (lay t ex7 o3 m4) k6 _ _
  refine AW.istore (L' := [.ref 0, .ref 1, .ref 47, .ref 61, .int i, .int r2, .int r5, .null, .null]) (pc := 1483) dL_law_1483 (by decide) rfl rfl ?_
  refine AW.aload_n (pc := 1485) dL_law_1485 rfl rfl ?_
  refine AW.callV (pc := 1486) (S' := []) dL_law_1486 (c_M_thrown (d := d - 1) ht (by omega) hw) ok_X5_thrown tw_848 tw_849 tw_847 (fix_pos (by decide)) (lay_at ht (by decide)) (show aw_cl[5]? = some _ from rfl) rfl rfl (by omega) rfl (Nat.le_of_ble_eq_true rfl) (by omega) (by omega) ?_ (fun E h' k' hq => by obtain ⟨rfl, r10, m9, hv, -⟩ := hq; cases hv)
  intro v h' k' hq
  obtain ⟨rfl, r10, m9, hv, rfl, hw⟩ := hq
  cases hv
  show AW _ _ _ _ _ _ _ 1489 [.ref 0, .ref 1, .ref 47, .ref 61, .int i, .int r2, .int r5, .null, .null] [.int r10] (lay t ex7 o3 m9) k6 _ _
  refine AW.iload (pc := 1489) dL_law_1489 rfl ?_
  refine AW.icmp_eq (pc := 1491) (tgt := 1496) dL_law_1491 (by decide) (fun c11 => ?_) (fun c11 => ?_)
  · have hw := hw.1 c11
    refine AW.iload (pc := 1496) dL_law_1496 rfl ?_
    refine AW.if_ne (pc := 1498) (tgt := 1513) dL_law_1498 (by decide) (fun c12 => ?_) (fun c12 => ?_)
    · have hw := hw.1 c12
      refine AW.goto (pc := 1513) (tgt := 1639) dL_law_1513 (by decide) ?_
      refine AW.locals (L' := [.ref 0, .ref 1, .ref 47, .ref 61, .int i, .null, .null, .null, .null]) (aw_fewer_same (aw_fewer_same (aw_fewer_same (aw_fewer_same (aw_fewer_same (aw_fewer_null (aw_fewer_null (aw_fewer_null (aw_fewer_null aw_fewer_nil))))))))) ?_
      refine AW.widen (cs' := cs + 837) (ss' := ss + 9372) (by omega) (by omega) ?_
      exact hKK ht (hk.le hx8) _ _ hw
    · have hw := hw.2 c12
      refine AW.aload_n (pc := 1501) dL_law_1501 rfl rfl ?_
      refine AW.iconst (v := 0) (pc := 1502) dL_law_1502 (by decide) ?_
      refine LW.laldo (pc := 1503) ht dL_law_1503 ?_
      refine AW.iload (pc := 1504) dL_law_1504 rfl ?_
      refine AW.i2l (pc := 1506) dL_law_1506 ?_
      refine AW.lcmp (pc := 1507) dL_law_1507 ?_
      refine AW.if_eq (pc := 1508) (tgt := 1513) dL_law_1508 (by decide) (fun c13 => ?_) (fun c13 => ?_)
      · have hw := hw.1 c13
        refine AW.goto (pc := 1513) (tgt := 1639) dL_law_1513 (by decide) ?_
        refine AW.locals (L' := [.ref 0, .ref 1, .ref 47, .ref 61, .int i, .null, .null, .null, .null]) (aw_fewer_same (aw_fewer_same (aw_fewer_same (aw_fewer_same (aw_fewer_same (aw_fewer_null (aw_fewer_null (aw_fewer_null (aw_fewer_null aw_fewer_nil))))))))) ?_
        refine AW.widen (cs' := cs + 837) (ss' := ss + 9372) (by omega) (by omega) ?_
        exact hKK ht (hk.le hx8) _ _ hw
      · have hw := hw.2 c13
        refine AW.iconst (v := 0) (pc := 1511) dL_law_1511 (by decide) ?_
        exact hw.elim
  · have hw := hw.2 c11
    refine AW.iconst (v := 0) (pc := 1494) dL_law_1494 (by decide) ?_
    exact hw.elim
def wc_25 (p1 : Int32) (p2 : Int32) (o : Nat → Int64) (m : Mem) (K : (Nat → Int64) → Mem → Prop) : Prop :=
  w_L_longestWith p1 p2 o m (fun r2 o3 m1 => w_M_longestWith p1 p2 m1 (fun r5 m4 => w_M_thrown  m4 (fun r10 m9 => ((r10 = r2 → ((¬ (r2 = 0) → K o3 m9) ∧ (r2 = 0 → (((lg_cmp (o3 0) r5.toInt64) = 0 → K o3 m9) ∧ (¬ ((lg_cmp (o3 0) r5.toInt64) = 0) → False))))) ∧ (¬ (r10 = r2) → False)))))
set_option maxRecDepth 100000 in
set_option maxHeartbeats 4000000 in
theorem b_law_25 {n : Nat} {xs : Nat → Int32} {d k0 mc ms cs ss k t : Nat} {ex : Hp} {o : Nat → Int64} {m : Mem} {K : (Nat → Int64) → Mem → Prop} {i : Int32} {p1 : Int32} {p2 : Int32} (hk0 : 0 < k0) (hd : 40 ≤ d) (hcs : cs + 837 ≤ mc) (hss : ss + 9372 ≤ ms) (ht : tok t) (hk : kok t k) (hx1 : vp_in (i + (1 : Int32)) n) (hp1 : xs (i + (1 : Int32)).toNatClampNeg = p1) (hx2 : vp_in (i + (2 : Int32)) n) (hp2 : xs (i + (2 : Int32)).toNatClampNeg = p2)
    (hKK : ∀ {t2 k2 : Nat} {ex2 : Hp}, tok t2 → kok t2 k2 → ∀ (o2 : Nat → Int64) (m2 : Mem), K o2 m2 → AW (aw_ZL n xs) mlaw d k0 mc ms aw_QL 1639 [.ref 0, .ref 1, .ref 47, .ref 61, .int i, .null, .null, .null, .null] [] (lay t2 ex2 o2 m2) k2 (cs + 837) (ss + 9372))
    (hw : wc_25 p1 p2 o m K) : AW (aw_ZL n xs) mlaw d k0 mc ms aw_QL 1516 [.ref 0, .ref 1, .ref 47, .ref 61, .int i, .null, .null, .null, .null] [] (lay t ex o m) k cs ss := by
  unfold wc_25 at hw
  refine AW.aload_n (pc := 1516) dL_law_1516 rfl rfl ?_
  refine AW.aload_n (pc := 1517) dL_law_1517 rfl rfl ?_
  refine AW.iload (pc := 1518) dL_law_1518 rfl ?_
  refine AW.iconst (v := 1) (pc := 1520) dL_law_1520 (by decide) ?_
  refine AW.iadd (pc := 1521) dL_law_1521 ?_
  refine AW.sld (pc := 1522) dL_law_1522 hk0 hx1 hp1 ?_
  refine AW.aload_n (pc := 1523) dL_law_1523 rfl rfl ?_
  refine AW.iload (pc := 1524) dL_law_1524 rfl ?_
  refine AW.iconst (v := 2) (pc := 1526) dL_law_1526 (by decide) ?_
  refine AW.iadd (pc := 1527) dL_law_1527 ?_
  refine AW.sld (pc := 1528) dL_law_1528 hk0 hx2 hp2 ?_
  refine AW.aload_n (pc := 1529) dL_law_1529 rfl rfl ?_
  refine AW.callSH (pc := 1530) (S' := []) dL_law_1530 (c_L_longestWith (d := d - 1) ht (by omega) hw) ok_L_longestWith tw_782 tw_781 rfl (by omega) rfl (Nat.le_of_ble_eq_true rfl) (by omega) (by omega) ?_ (fun E h' k' hq => by obtain ⟨rfl, r2, o3, m1, hv, -⟩ := hq; cases hv)
  intro v h' k' hq
  obtain ⟨rfl, r2, o3, m1, hv, rfl, hw⟩ := hq
  cases hv
  show AW _ _ _ _ _ _ _ 1533 [.ref 0, .ref 1, .ref 47, .ref 61, .int i, .null, .null, .null, .null] [.int r2] (lay t ex o3 m1) k _ _
  refine AW.istore (L' := [.ref 0, .ref 1, .ref 47, .ref 61, .int i, .int r2, .null, .null, .null]) (pc := 1533) dL_law_1533 (by decide) rfl rfl ?_
  refine AW.aload_n (pc := 1535) dL_law_1535 rfl rfl ?_
  refine AW.aload_n (pc := 1536) dL_law_1536 rfl rfl ?_
  refine AW.iload (pc := 1537) dL_law_1537 rfl ?_
  refine AW.iconst (v := 1) (pc := 1539) dL_law_1539 (by decide) ?_
  refine AW.iadd (pc := 1540) dL_law_1540 ?_
  refine AW.sld (pc := 1541) dL_law_1541 hk0 hx1 hp1 ?_
  refine AW.aload_n (pc := 1542) dL_law_1542 rfl rfl ?_
  refine AW.iload (pc := 1543) dL_law_1543 rfl ?_
  refine AW.iconst (v := 2) (pc := 1545) dL_law_1545 (by decide) ?_
  refine AW.iadd (pc := 1546) dL_law_1546 ?_
  refine AW.sld (pc := 1547) dL_law_1547 hk0 hx2 hp2 ?_
  refine AW.callV (pc := 1548) (S' := []) dL_law_1548 (c_M_longestWith (d := d - 1) ht (by omega) hk hw) ok_X5_longestWith tw_1113 tw_1114 tw_1112 (fix_pos (by decide)) (lay_at ht (by decide)) (show aw_cl[5]? = some _ from rfl) rfl rfl (by omega) rfl (Nat.le_of_ble_eq_true rfl) (by omega) (by omega) ?_ (fun E h' k' hq => by obtain ⟨ex7, r5, m4, hx8, hv, -⟩ := hq; cases hv)
  intro v h' k6 hq
  obtain ⟨ex7, r5, m4, hx8, hv, rfl, hw⟩ := hq
  cases hv
  show AW _ _ _ _ _ _ _ 1551 [.ref 0, .ref 1, .ref 47, .ref 61, .int i, .int r2, .null, .null, .null] [.int r5] (lay t ex7 o3 m4) k6 _ _
  refine AW.istore (L' := [.ref 0, .ref 1, .ref 47, .ref 61, .int i, .int r2, .int r5, .null, .null]) (pc := 1551) dL_law_1551 (by decide) rfl rfl ?_
  refine AW.aload_n (pc := 1553) dL_law_1553 rfl rfl ?_
  refine AW.callV (pc := 1554) (S' := []) dL_law_1554 (c_M_thrown (d := d - 1) ht (by omega) hw) ok_X5_thrown tw_848 tw_849 tw_847 (fix_pos (by decide)) (lay_at ht (by decide)) (show aw_cl[5]? = some _ from rfl) rfl rfl (by omega) rfl (Nat.le_of_ble_eq_true rfl) (by omega) (by omega) ?_ (fun E h' k' hq => by obtain ⟨rfl, r10, m9, hv, -⟩ := hq; cases hv)
  intro v h' k' hq
  obtain ⟨rfl, r10, m9, hv, rfl, hw⟩ := hq
  cases hv
  show AW _ _ _ _ _ _ _ 1557 [.ref 0, .ref 1, .ref 47, .ref 61, .int i, .int r2, .int r5, .null, .null] [.int r10] (lay t ex7 o3 m9) k6 _ _
  refine AW.iload (pc := 1557) dL_law_1557 rfl ?_
  refine AW.icmp_eq (pc := 1559) (tgt := 1564) dL_law_1559 (by decide) (fun c11 => ?_) (fun c11 => ?_)
  · have hw := hw.1 c11
    refine AW.iload (pc := 1564) dL_law_1564 rfl ?_
    refine AW.if_ne (pc := 1566) (tgt := 1581) dL_law_1566 (by decide) (fun c12 => ?_) (fun c12 => ?_)
    · have hw := hw.1 c12
      refine AW.goto (pc := 1581) (tgt := 1639) dL_law_1581 (by decide) ?_
      refine AW.locals (L' := [.ref 0, .ref 1, .ref 47, .ref 61, .int i, .null, .null, .null, .null]) (aw_fewer_same (aw_fewer_same (aw_fewer_same (aw_fewer_same (aw_fewer_same (aw_fewer_null (aw_fewer_null (aw_fewer_null (aw_fewer_null aw_fewer_nil))))))))) ?_
      refine AW.widen (cs' := cs + 837) (ss' := ss + 9372) (by omega) (by omega) ?_
      exact hKK ht (hk.le hx8) _ _ hw
    · have hw := hw.2 c12
      refine AW.aload_n (pc := 1569) dL_law_1569 rfl rfl ?_
      refine AW.iconst (v := 0) (pc := 1570) dL_law_1570 (by decide) ?_
      refine LW.laldo (pc := 1571) ht dL_law_1571 ?_
      refine AW.iload (pc := 1572) dL_law_1572 rfl ?_
      refine AW.i2l (pc := 1574) dL_law_1574 ?_
      refine AW.lcmp (pc := 1575) dL_law_1575 ?_
      refine AW.if_eq (pc := 1576) (tgt := 1581) dL_law_1576 (by decide) (fun c13 => ?_) (fun c13 => ?_)
      · have hw := hw.1 c13
        refine AW.goto (pc := 1581) (tgt := 1639) dL_law_1581 (by decide) ?_
        refine AW.locals (L' := [.ref 0, .ref 1, .ref 47, .ref 61, .int i, .null, .null, .null, .null]) (aw_fewer_same (aw_fewer_same (aw_fewer_same (aw_fewer_same (aw_fewer_same (aw_fewer_null (aw_fewer_null (aw_fewer_null (aw_fewer_null aw_fewer_nil))))))))) ?_
        refine AW.widen (cs' := cs + 837) (ss' := ss + 9372) (by omega) (by omega) ?_
        exact hKK ht (hk.le hx8) _ _ hw
      · have hw := hw.2 c13
        refine AW.iconst (v := 0) (pc := 1579) dL_law_1579 (by decide) ?_
        exact hw.elim
  · have hw := hw.2 c11
    refine AW.iconst (v := 0) (pc := 1562) dL_law_1562 (by decide) ?_
    exact hw.elim
def wc_26 (o : Nat → Int64) (m : Mem) (K : (Nat → Int64) → Mem → Prop) : Prop :=
  w_N_meanArrival  m (fun r2 m1 => w_M_meanArrival  m1 (fun r4 m3 => (((Op.cmpValue (FP.dcmp r2 r4) .l) = 0 → K o m3) ∧ (¬ ((Op.cmpValue (FP.dcmp r2 r4) .l) = 0) → (((Op.cmpValue (FP.dcmp r2 r2) .l) = 0 → False) ∧ (¬ ((Op.cmpValue (FP.dcmp r2 r2) .l) = 0) → ((¬ ((Op.cmpValue (FP.dcmp r4 r4) .l) = 0) → K o m3) ∧ ((Op.cmpValue (FP.dcmp r4 r4) .l) = 0 → False))))))))
set_option maxRecDepth 100000 in
set_option maxHeartbeats 4000000 in
theorem b_law_26 {n : Nat} {xs : Nat → Int32} {d k0 mc ms cs ss k t : Nat} {ex : Hp} {o : Nat → Int64} {m : Mem} {K : (Nat → Int64) → Mem → Prop} {i : Int32}  (hk0 : 0 < k0) (hd : 40 ≤ d) (hcs : cs + 837 ≤ mc) (hss : ss + 9372 ≤ ms) (ht : tok t) (hk : kok t k) 
    (hKK : ∀ {t2 k2 : Nat} {ex2 : Hp}, tok t2 → kok t2 k2 → ∀ (o2 : Nat → Int64) (m2 : Mem), K o2 m2 → AW (aw_ZL n xs) mlaw d k0 mc ms aw_QL 1639 [.ref 0, .ref 1, .ref 47, .ref 61, .int i, .null, .null, .null, .null] [] (lay t2 ex2 o2 m2) k2 (cs + 837) (ss + 9372))
    (hw : wc_26  o m K) : AW (aw_ZL n xs) mlaw d k0 mc ms aw_QL 1584 [.ref 0, .ref 1, .ref 47, .ref 61, .int i, .null, .null, .null, .null] [] (lay t ex o m) k cs ss := by
  unfold wc_26 at hw
  refine AW.aload_n (pc := 1584) dL_law_1584 rfl rfl ?_
  refine AW.callV (pc := 1585) (S' := []) dL_law_1585 (c_N_meanArrival (d := d - 1) ht (by omega) hw) ok_X4_meanArrival tw_308 tw_309 tw_307 (fix_pos (by decide)) (lay_at ht (by decide)) (show aw_cl[4]? = some _ from rfl) rfl rfl (by omega) rfl (Nat.le_of_ble_eq_true rfl) (by omega) (by omega) ?_ (fun E h' k' hq => by obtain ⟨rfl, r2, m1, hv, -⟩ := hq; cases hv)
  intro v h' k' hq
  obtain ⟨rfl, r2, m1, hv, rfl, hw⟩ := hq
  cases hv
  show AW _ _ _ _ _ _ _ 1588 [.ref 0, .ref 1, .ref 47, .ref 61, .int i, .null, .null, .null, .null] [.double r2] (lay t ex o m1) k _ _
  refine AW.dstore (L' := [.ref 0, .ref 1, .ref 47, .ref 61, .int i, .double r2, .null, .null, .null]) (pc := 1588) dL_law_1588 (by decide) rfl rfl ?_
  refine AW.aload_n (pc := 1590) dL_law_1590 rfl rfl ?_
  refine AW.callV (pc := 1591) (S' := []) dL_law_1591 (c_M_meanArrival (d := d - 1) ht (by omega) hk hw) ok_X5_meanArrival tw_1117 tw_1118 tw_1116 (fix_pos (by decide)) (lay_at ht (by decide)) (show aw_cl[5]? = some _ from rfl) rfl rfl (by omega) rfl (Nat.le_of_ble_eq_true rfl) (by omega) (by omega) ?_ (fun E h' k' hq => by obtain ⟨ex6, r4, m3, hx7, hv, -⟩ := hq; cases hv)
  intro v h' k5 hq
  obtain ⟨ex6, r4, m3, hx7, hv, rfl, hw⟩ := hq
  cases hv
  show AW _ _ _ _ _ _ _ 1594 [.ref 0, .ref 1, .ref 47, .ref 61, .int i, .double r2, .null, .null, .null] [.double r4] (lay t ex6 o m3) k5 _ _
  refine AW.dstore (L' := [.ref 0, .ref 1, .ref 47, .ref 61, .int i, .double r2, .null, .double r4, .null]) (pc := 1594) dL_law_1594 (by decide) rfl rfl ?_
  refine AW.dload (pc := 1596) dL_law_1596 rfl ?_
  refine AW.dload (pc := 1598) dL_law_1598 rfl ?_
  refine AW.dcmp (pc := 1600) dL_law_1600 ?_
  refine AW.if_eq (pc := 1601) (tgt := 1622) dL_law_1601 (by decide) (fun c8 => ?_) (fun c8 => ?_)
  · have hw := hw.1 c8
    refine AW.goto (pc := 1622) (tgt := 1639) dL_law_1622 (by decide) ?_
    refine AW.locals (L' := [.ref 0, .ref 1, .ref 47, .ref 61, .int i, .null, .null, .null, .null]) (aw_fewer_same (aw_fewer_same (aw_fewer_same (aw_fewer_same (aw_fewer_same (aw_fewer_null (aw_fewer_null (aw_fewer_null (aw_fewer_null aw_fewer_nil))))))))) ?_
    refine AW.widen (cs' := cs + 837) (ss' := ss + 9372) (by omega) (by omega) ?_
    exact hKK ht (hk.le hx7) _ _ hw
  · have hw := hw.2 c8
    refine AW.dload (pc := 1604) dL_law_1604 rfl ?_
    refine AW.dload (pc := 1606) dL_law_1606 rfl ?_
    refine AW.dcmp (pc := 1608) dL_law_1608 ?_
    refine AW.if_eq (pc := 1609) (tgt := 1620) dL_law_1609 (by decide) (fun c9 => ?_) (fun c9 => ?_)
    · have hw := hw.1 c9
      refine AW.iconst (v := 0) (pc := 1620) dL_law_1620 (by decide) ?_
      exact hw.elim
    · have hw := hw.2 c9
      refine AW.dload (pc := 1612) dL_law_1612 rfl ?_
      refine AW.dload (pc := 1614) dL_law_1614 rfl ?_
      refine AW.dcmp (pc := 1616) dL_law_1616 ?_
      refine AW.if_ne (pc := 1617) (tgt := 1622) dL_law_1617 (by decide) (fun c10 => ?_) (fun c10 => ?_)
      · have hw := hw.1 c10
        refine AW.goto (pc := 1622) (tgt := 1639) dL_law_1622 (by decide) ?_
        refine AW.locals (L' := [.ref 0, .ref 1, .ref 47, .ref 61, .int i, .null, .null, .null, .null]) (aw_fewer_same (aw_fewer_same (aw_fewer_same (aw_fewer_same (aw_fewer_same (aw_fewer_null (aw_fewer_null (aw_fewer_null (aw_fewer_null aw_fewer_nil))))))))) ?_
        refine AW.widen (cs' := cs + 837) (ss' := ss + 9372) (by omega) (by omega) ?_
        exact hKK ht (hk.le hx7) _ _ hw
      · have hw := hw.2 c10
        refine AW.iconst (v := 0) (pc := 1620) dL_law_1620 (by decide) ?_
        exact hw.elim
def wc_27 (o : Nat → Int64) (m : Mem) (K : (Nat → Int64) → Mem → Prop) : Prop :=
  w_N_digest  m (fun r2 m1 => w_M_digest  m1 (fun r4 m3 => (((lg_cmp r2 r4) = 0 → K o m3) ∧ (¬ ((lg_cmp r2 r4) = 0) → False)))) (fun _ _ => False)
set_option maxRecDepth 100000 in
set_option maxHeartbeats 4000000 in
theorem b_law_27 {n : Nat} {xs : Nat → Int32} {d k0 mc ms cs ss k t : Nat} {ex : Hp} {o : Nat → Int64} {m : Mem} {K : (Nat → Int64) → Mem → Prop} {i : Int32}  (hk0 : 0 < k0) (hd : 40 ≤ d) (hcs : cs + 837 ≤ mc) (hss : ss + 9372 ≤ ms) (ht : tok t) (hk : kok t k) 
    (hKK : ∀ {t2 k2 : Nat} {ex2 : Hp}, tok t2 → kok t2 k2 → ∀ (o2 : Nat → Int64) (m2 : Mem), K o2 m2 → AW (aw_ZL n xs) mlaw d k0 mc ms aw_QL 1639 [.ref 0, .ref 1, .ref 47, .ref 61, .int i, .null, .null, .null, .null] [] (lay t2 ex2 o2 m2) k2 (cs + 837) (ss + 9372))
    (hw : wc_27  o m K) : AW (aw_ZL n xs) mlaw d k0 mc ms aw_QL 1625 [.ref 0, .ref 1, .ref 47, .ref 61, .int i, .null, .null, .null, .null] [] (lay t ex o m) k cs ss := by
  unfold wc_27 at hw
  refine AW.aload_n (pc := 1625) dL_law_1625 rfl rfl ?_
  refine AW.callV (pc := 1626) (S' := []) dL_law_1626 (c_N_digest (d := d - 1) ht (by omega) hw) ok_X4_digest tw_312 tw_313 tw_311 (fix_pos (by decide)) (lay_at ht (by decide)) (show aw_cl[4]? = some _ from rfl) rfl rfl (by omega) rfl (Nat.le_of_ble_eq_true rfl) (by omega) (by omega) ?_ ?_
  · intro v h' k' hq
    obtain ⟨rfl, m1, rfl, (⟨r2, hv, hw⟩ | ⟨E, hv, hw⟩)⟩ := hq
    · cases hv
      show AW _ _ _ _ _ _ _ 1629 [.ref 0, .ref 1, .ref 47, .ref 61, .int i, .null, .null, .null, .null] [.long r2] (lay t ex o m1) k _ _
      refine AW.aload_n (pc := 1629) dL_law_1629 rfl rfl ?_
      refine AW.callV (pc := 1630) (S' := [.long r2]) dL_law_1630 (c_M_digest (d := d - 1) ht (by omega) hk hw) ok_X5_digest tw_1121 tw_1122 tw_1120 (fix_pos (by decide)) (lay_at ht (by decide)) (show aw_cl[5]? = some _ from rfl) rfl rfl (by omega) rfl (Nat.le_of_ble_eq_true rfl) (by omega) (by omega) ?_ (fun E h' k' hq => by obtain ⟨ex6, r4, m3, hx7, hv, -⟩ := hq; cases hv)
      intro v h' k5 hq
      obtain ⟨ex6, r4, m3, hx7, hv, rfl, hw⟩ := hq
      cases hv
      show AW _ _ _ _ _ _ _ 1633 [.ref 0, .ref 1, .ref 47, .ref 61, .int i, .null, .null, .null, .null] [.long r4, .long r2] (lay t ex6 o m3) k5 _ _
      refine AW.lcmp (pc := 1633) dL_law_1633 ?_
      refine AW.if_eq (pc := 1634) (tgt := 1639) dL_law_1634 (by decide) (fun c8 => ?_) (fun c8 => ?_)
      · have hw := hw.1 c8
        refine AW.widen (cs' := cs + 837) (ss' := ss + 9372) (by omega) (by omega) ?_
        exact hKK ht (hk.le hx7) _ _ hw
      · have hw := hw.2 c8
        refine AW.iconst (v := 0) (pc := 1637) dL_law_1637 (by decide) ?_
        exact hw.elim
    · cases hv
  · intro E h' k' hq
    obtain ⟨rfl, m1, rfl, (⟨r2, hv, hw⟩ | ⟨E2, hv, hw⟩)⟩ := hq
    · cases hv
    · cases hv; exact hw.elim
