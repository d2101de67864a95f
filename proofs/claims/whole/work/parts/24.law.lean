/-! a round of the law, by its cases -/
def g_0 (fu : Nat) (xs : List Int32) (a1 a2 a3 a4 : Nat) (a5 : Int32) (M : List Ob) (k : List Ob → Option (Int32 × List Ob)) : Option (Int32 × List Ob) :=
  (sGet xs (a5 + 1)).bind fun v1 =>
  (sGet xs (a5 + 2)).bind fun v3 =>
  (sGet xs (a5 + 3)).bind fun v5 =>
  (sGet xs (a5 + 4)).bind fun v7 =>
  (sGet xs (a5 + 5)).bind fun v9 =>
  bd2 (f_L_append fu a1 v1 v3 v5 v7 v9 a3 M) fun v11 M12 =>
  (sGet xs (a5 + 1)).bind fun v15 =>
  (sGet xs (a5 + 2)).bind fun v17 =>
  (sGet xs (a5 + 3)).bind fun v19 =>
  (sGet xs (a5 + 4)).bind fun v21 =>
  (sGet xs (a5 + 5)).bind fun v23 =>
  (hasO M12 a2 11).bind fun _ =>
  bd2 (f_X11_append fu a2 v15 v17 v19 v21 v23 M12) fun v25 M26 =>
  (hasO M26 a2 11).bind fun _ =>
  bd2 (f_X11_thrown fu a2 M26) fun v29 M30 =>
  if v29 = v11 then (if v11 = 0 then ((aJ M30 a3 0).bind fun v34 =>
  if (lg_cmp v34 ((v25 : Int32).toInt64)) = 0 then (k M30)
  else (some (0, M30)))
  else (k M30))
  else (some (0, M30))
set_option maxHeartbeats 4000000 in
theorem okg_0 {G : GT} (hz : gZ G = false) {fu : Nat} {xs : List Int32} (hX : gX G = xs) {a1 a2 a3 a4 : Nat} {a5 : Int32} {M : List Ob} {kk nn : Nat} (hkk : kk + 8 ≤ 601024) (hnn : nn + 48 ≤ 7293033) {k : List Ob → Option (Int32 × List Ob)} {out : Int32 × List Ob} (hk : ∀ M, k M = some out → X G t_L_law [] 2157 [some (.ref 3000000), some (.ref a1), some (.ref a2), some (.ref a3), some (.ref a4), some (.int a5), none, none] [] M (kk + 4) (nn + 24) (oI out)) (h : g_0 fu xs a1 a2 a3 a4 a5 M k = some out) : X G t_L_law [] 196 [some (.ref 3000000), some (.ref a1), some (.ref a2), some (.ref a3), some (.ref a4), some (.int a5), none, none] [] M (kk + 0) (nn + 0) (oI out) := by
  unfold g_0 at h
  refine X.aload_n (x := a1) (pc' := 197) dL_law_196 rfl rfl rfl ?_
  refine X.aload_n (x := 3000000) (pc' := 198) dL_law_197 rfl rfl rfl ?_
  refine X.iload (x := a5) (pc' := 200) dL_law_198 rfl rfl ?_
  refine X.iconst (v := 1) (pc' := 201) dL_law_200 rfl (by decide) ?_
  refine X.iadd (pc' := 202) dL_law_201 rfl ?_
  obtain ⟨v1, e2, h⟩ := bindE h
  refine X.sld (pc' := 203) dL_law_202 rfl (by rw [hX]; exact e2) ?_
  refine X.aload_n (x := 3000000) (pc' := 204) dL_law_203 rfl rfl rfl ?_
  refine X.iload (x := a5) (pc' := 206) dL_law_204 rfl rfl ?_
  refine X.iconst (v := 2) (pc' := 207) dL_law_206 rfl (by decide) ?_
  refine X.iadd (pc' := 208) dL_law_207 rfl ?_
  obtain ⟨v3, e4, h⟩ := bindE h
  refine X.sld (pc' := 209) dL_law_208 rfl (by rw [hX]; exact e4) ?_
  refine X.aload_n (x := 3000000) (pc' := 210) dL_law_209 rfl rfl rfl ?_
  refine X.iload (x := a5) (pc' := 212) dL_law_210 rfl rfl ?_
  refine X.iconst (v := 3) (pc' := 213) dL_law_212 rfl (by decide) ?_
  refine X.iadd (pc' := 214) dL_law_213 rfl ?_
  obtain ⟨v5, e6, h⟩ := bindE h
  refine X.sld (pc' := 215) dL_law_214 rfl (by rw [hX]; exact e6) ?_
  refine X.aload_n (x := 3000000) (pc' := 216) dL_law_215 rfl rfl rfl ?_
  refine X.iload (x := a5) (pc' := 218) dL_law_216 rfl rfl ?_
  refine X.iconst (v := 4) (pc' := 219) dL_law_218 rfl (by decide) ?_
  refine X.iadd (pc' := 220) dL_law_219 rfl ?_
  obtain ⟨v7, e8, h⟩ := bindE h
  refine X.sld (pc' := 221) dL_law_220 rfl (by rw [hX]; exact e8) ?_
  refine X.aload_n (x := 3000000) (pc' := 222) dL_law_221 rfl rfl rfl ?_
  refine X.iload (x := a5) (pc' := 224) dL_law_222 rfl rfl ?_
  refine X.iconst (v := 5) (pc' := 225) dL_law_224 rfl (by decide) ?_
  refine X.iadd (pc' := 226) dL_law_225 rfl ?_
  obtain ⟨v9, e10, h⟩ := bindE h
  refine X.sld (pc' := 227) dL_law_226 rfl (by rw [hX]; exact e10) ?_
  refine X.aload_n (x := a3) (pc' := 228) dL_law_227 rfl rfl rfl ?_
  obtain ⟨v11, M12, e13, h⟩ := bd2E h
  refine X.callW (v := some (.int v11)) (As := [.ref a1, .int v1, .int v3, .int v5, .int v7, .int v9, .ref a3]) (st := []) (M' := M12) (pc' := 231) dL_law_228 rfl cw_L_121 ⟨⟨Nat.le_of_ble_eq_true rfl, Nat.le_of_ble_eq_true rfl⟩, (by show kk + 0 + 1 ≤ 601024; omega), (by show nn + 0 + 6 ≤ 7293033; omega)⟩ rfl (Nat.le_of_ble_eq_true rfl) (ok_L_append (G := zs G) (hz := hz) e13) ?_
  show X G t_L_law [] 231 [some (.ref 3000000), some (.ref a1), some (.ref a2), some (.ref a3), some (.ref a4), some (.int a5), none, none] [.int v11] M12 (kk + 1) (nn + 6) _
  refine X.istore (L' := [some (.ref 3000000), some (.ref a1), some (.ref a2), some (.ref a3), some (.ref a4), some (.int a5), some (.int v11), none]) (pc' := 233) dL_law_231 rfl (Nat.le_of_ble_eq_true rfl) rfl ?_
  refine X.aload_n (x := a2) (pc' := 234) dL_law_233 rfl rfl rfl ?_
  refine X.aload_n (x := 3000000) (pc' := 235) dL_law_234 rfl rfl rfl ?_
  refine X.iload (x := a5) (pc' := 237) dL_law_235 rfl rfl ?_
  refine X.iconst (v := 1) (pc' := 238) dL_law_237 rfl (by decide) ?_
  refine X.iadd (pc' := 239) dL_law_238 rfl ?_
  obtain ⟨v15, e16, h⟩ := bindE h
  refine X.sld (pc' := 240) dL_law_239 rfl (by rw [hX]; exact e16) ?_
  refine X.aload_n (x := 3000000) (pc' := 241) dL_law_240 rfl rfl rfl ?_
  refine X.iload (x := a5) (pc' := 243) dL_law_241 rfl rfl ?_
  refine X.iconst (v := 2) (pc' := 244) dL_law_243 rfl (by decide) ?_
  refine X.iadd (pc' := 245) dL_law_244 rfl ?_
  obtain ⟨v17, e18, h⟩ := bindE h
  refine X.sld (pc' := 246) dL_law_245 rfl (by rw [hX]; exact e18) ?_
  refine X.aload_n (x := 3000000) (pc' := 247) dL_law_246 rfl rfl rfl ?_
  refine X.iload (x := a5) (pc' := 249) dL_law_247 rfl rfl ?_
  refine X.iconst (v := 3) (pc' := 250) dL_law_249 rfl (by decide) ?_
  refine X.iadd (pc' := 251) dL_law_250 rfl ?_
  obtain ⟨v19, e20, h⟩ := bindE h
  refine X.sld (pc' := 252) dL_law_251 rfl (by rw [hX]; exact e20) ?_
  refine X.aload_n (x := 3000000) (pc' := 253) dL_law_252 rfl rfl rfl ?_
  refine X.iload (x := a5) (pc' := 255) dL_law_253 rfl rfl ?_
  refine X.iconst (v := 4) (pc' := 256) dL_law_255 rfl (by decide) ?_
  refine X.iadd (pc' := 257) dL_law_256 rfl ?_
  obtain ⟨v21, e22, h⟩ := bindE h
  refine X.sld (pc' := 258) dL_law_257 rfl (by rw [hX]; exact e22) ?_
  refine X.aload_n (x := 3000000) (pc' := 259) dL_law_258 rfl rfl rfl ?_
  refine X.iload (x := a5) (pc' := 261) dL_law_259 rfl rfl ?_
  refine X.iconst (v := 5) (pc' := 262) dL_law_261 rfl (by decide) ?_
  refine X.iadd (pc' := 263) dL_law_262 rfl ?_
  obtain ⟨v23, e24, h⟩ := bindE h
  refine X.sld (pc' := 264) dL_law_263 rfl (by rw [hX]; exact e24) ?_
  obtain ⟨⟨⟩, e28, h⟩ := bindE h
  obtain ⟨v25, M26, e27, h⟩ := bd2E h
  refine X.callV (b := a2) (v := some (.int v25)) (As := [.int v15, .int v17, .int v19, .int v21, .int v23]) (st := []) (M' := M26) (pc' := 267) dL_law_264 rfl cl_L_126 mi_X11_append me_X11_append mr_X11_append e28 ⟨⟨Nat.le_of_ble_eq_true rfl, Nat.le_of_ble_eq_true rfl⟩, (by show kk + 1 + 0 ≤ 601024; omega), (by show nn + 6 + 0 ≤ 7293033; omega)⟩ rfl (Nat.le_of_ble_eq_true rfl) (ok_X11_append (G := zs G) e27) ?_
  show X G t_L_law [] 267 [some (.ref 3000000), some (.ref a1), some (.ref a2), some (.ref a3), some (.ref a4), some (.int a5), some (.int v11), none] [.int v25] M26 (kk + 1) (nn + 6) _
  refine X.istore (L' := [some (.ref 3000000), some (.ref a1), some (.ref a2), some (.ref a3), some (.ref a4), some (.int a5), some (.int v11), some (.int v25)]) (pc' := 269) dL_law_267 rfl (Nat.le_of_ble_eq_true rfl) rfl ?_
  refine X.aload_n (x := a2) (pc' := 270) dL_law_269 rfl rfl rfl ?_
  obtain ⟨⟨⟩, e32, h⟩ := bindE h
  obtain ⟨v29, M30, e31, h⟩ := bd2E h
  refine X.callV (b := a2) (v := some (.int v29)) (As := []) (st := []) (M' := M30) (pc' := 273) dL_law_270 rfl cl_L_127 mi_X11_thrown me_X11_thrown mr_X11_thrown e32 ⟨⟨Nat.le_of_ble_eq_true rfl, Nat.le_of_ble_eq_true rfl⟩, (by show kk + 1 + 0 ≤ 601024; omega), (by show nn + 6 + 0 ≤ 7293033; omega)⟩ rfl (Nat.le_of_ble_eq_true rfl) (ok_X11_thrown (G := zs G) e31) ?_
  show X G t_L_law [] 273 [some (.ref 3000000), some (.ref a1), some (.ref a2), some (.ref a3), some (.ref a4), some (.int a5), some (.int v11), some (.int v25)] [.int v29] M30 (kk + 1) (nn + 6) _
  refine X.iload (x := v11) (pc' := 275) dL_law_273 rfl rfl ?_
  refine X.icmp_eq (tgt := 280) (pc' := 278) dL_law_275 (by decide) rfl (fun hc => ?_) (fun hc => ?_)
  · rw [if_pos hc] at h
    refine X.iload (x := v11) (pc' := 282) dL_law_280 rfl rfl ?_
    refine X.if_ne (tgt := 297) (pc' := 285) dL_law_282 (by decide) rfl (fun hc => ?_) (fun hc => ?_)
    · rw [if_neg hc] at h
      refine X.goto (pc' := 2157) dL_law_297 (by decide) ?_
      refine X.sub (L := [some (.ref 3000000), some (.ref a1), some (.ref a2), some (.ref a3), some (.ref a4), some (.int a5), none, none]) ?_ (⟨rfl, ⟨rfl, ⟨rfl, ⟨rfl, ⟨rfl, ⟨rfl, trivial⟩⟩⟩⟩⟩⟩)
      refine X.widen (k' := kk + 4) (n' := nn + 24) (by omega) (by omega) ?_
      exact hk _ h
    · rw [if_pos hc] at h
      refine X.aload_n (x := a3) (pc' := 286) dL_law_285 rfl rfl rfl ?_
      refine X.iconst (v := 0) (pc' := 287) dL_law_286 rfl (by decide) ?_
      obtain ⟨v34, e33, h⟩ := bindE h
      refine X.lald (pc' := 288) dL_law_287 rfl e33 ?_
      refine X.iload (x := v25) (pc' := 290) dL_law_288 rfl rfl ?_
      refine X.i2l (pc' := 291) dL_law_290 rfl ?_
      refine X.lcmp (pc' := 292) dL_law_291 rfl ?_
      refine X.if_eq (tgt := 297) (pc' := 295) dL_law_292 (by decide) rfl (fun hc => ?_) (fun hc => ?_)
      · rw [if_pos hc] at h
        refine X.goto (pc' := 2157) dL_law_297 (by decide) ?_
        refine X.sub (L := [some (.ref 3000000), some (.ref a1), some (.ref a2), some (.ref a3), some (.ref a4), some (.int a5), none, none]) ?_ (⟨rfl, ⟨rfl, ⟨rfl, ⟨rfl, ⟨rfl, ⟨rfl, trivial⟩⟩⟩⟩⟩⟩)
        refine X.widen (k' := kk + 4) (n' := nn + 24) (by omega) (by omega) ?_
        exact hk _ h
      · rw [if_neg hc] at h
        refine X.iconst (v := 0) (pc' := 296) dL_law_295 rfl (by decide) ?_
        cases h
        exact X.iret (ty := .boolean) dL_law_296 rfl (by decide) (by show kk + 1 ≤ 601024; omega) (by show nn + 6 ≤ 7293033; omega) rfl
  · rw [if_neg hc] at h
    refine X.iconst (v := 0) (pc' := 279) dL_law_278 rfl (by decide) ?_
    cases h
    exact X.iret (ty := .boolean) dL_law_279 rfl (by decide) (by show kk + 1 ≤ 601024; omega) (by show nn + 6 ≤ 7293033; omega) rfl
def g_1 (fu : Nat) (xs : List Int32) (a1 a2 a3 a4 : Nat) (a5 : Int32) (M : List Ob) (k : List Ob → Option (Int32 × List Ob)) : Option (Int32 × List Ob) :=
  (sGet xs (a5 + 1)).bind fun v1 =>
  bd2 (f_L_load fu a1 v1 a3 M) fun v3 M4 =>
  (sGet xs (a5 + 1)).bind fun v7 =>
  (hasO M4 a2 11).bind fun _ =>
  bd2 (f_X11_load fu a2 v7 M4) fun v9 M10 =>
  (hasO M10 a2 11).bind fun _ =>
  bd2 (f_X11_thrown fu a2 M10) fun v13 M14 =>
  if v13 = v3 then (if v3 = 0 then ((aJ M14 a3 0).bind fun v18 =>
  if (lg_cmp v18 ((v9 : Int32).toInt64)) = 0 then (k M14)
  else (some (0, M14)))
  else (k M14))
  else (some (0, M14))
set_option maxHeartbeats 4000000 in
theorem okg_1 {G : GT} (hz : gZ G = false) {fu : Nat} {xs : List Int32} (hX : gX G = xs) {a1 a2 a3 a4 : Nat} {a5 : Int32} {M : List Ob} {kk nn : Nat} (hkk : kk + 8 ≤ 601024) (hnn : nn + 48 ≤ 7293033) {k : List Ob → Option (Int32 × List Ob)} {out : Int32 × List Ob} (hk : ∀ M, k M = some out → X G t_L_law [] 2157 [some (.ref 3000000), some (.ref a1), some (.ref a2), some (.ref a3), some (.ref a4), some (.int a5), none, none] [] M (kk + 4) (nn + 24) (oI out)) (h : g_1 fu xs a1 a2 a3 a4 a5 M k = some out) : X G t_L_law [] 300 [some (.ref 3000000), some (.ref a1), some (.ref a2), some (.ref a3), some (.ref a4), some (.int a5), none, none] [] M (kk + 0) (nn + 0) (oI out) := by
  unfold g_1 at h
  refine X.aload_n (x := a1) (pc' := 301) dL_law_300 rfl rfl rfl ?_
  refine X.aload_n (x := 3000000) (pc' := 302) dL_law_301 rfl rfl rfl ?_
  refine X.iload (x := a5) (pc' := 304) dL_law_302 rfl rfl ?_
  refine X.iconst (v := 1) (pc' := 305) dL_law_304 rfl (by decide) ?_
  refine X.iadd (pc' := 306) dL_law_305 rfl ?_
  obtain ⟨v1, e2, h⟩ := bindE h
  refine X.sld (pc' := 307) dL_law_306 rfl (by rw [hX]; exact e2) ?_
  refine X.aload_n (x := a3) (pc' := 308) dL_law_307 rfl rfl rfl ?_
  obtain ⟨v3, M4, e5, h⟩ := bd2E h
  refine X.callW (v := some (.int v3)) (As := [.ref a1, .int v1, .ref a3]) (st := []) (M' := M4) (pc' := 311) dL_law_308 rfl cw_L_130 ⟨⟨Nat.le_of_ble_eq_true rfl, Nat.le_of_ble_eq_true rfl⟩, (by show kk + 0 + 1 ≤ 601024; omega), (by show nn + 0 + 6 ≤ 7293033; omega)⟩ rfl (Nat.le_of_ble_eq_true rfl) (ok_L_load (G := zs G) (hz := hz) e5) ?_
  show X G t_L_law [] 311 [some (.ref 3000000), some (.ref a1), some (.ref a2), some (.ref a3), some (.ref a4), some (.int a5), none, none] [.int v3] M4 (kk + 1) (nn + 6) _
  refine X.istore (L' := [some (.ref 3000000), some (.ref a1), some (.ref a2), some (.ref a3), some (.ref a4), some (.int a5), some (.int v3), none]) (pc' := 313) dL_law_311 rfl (Nat.le_of_ble_eq_true rfl) rfl ?_
  refine X.aload_n (x := a2) (pc' := 314) dL_law_313 rfl rfl rfl ?_
  refine X.aload_n (x := 3000000) (pc' := 315) dL_law_314 rfl rfl rfl ?_
  refine X.iload (x := a5) (pc' := 317) dL_law_315 rfl rfl ?_
  refine X.iconst (v := 1) (pc' := 318) dL_law_317 rfl (by decide) ?_
  refine X.iadd (pc' := 319) dL_law_318 rfl ?_
  obtain ⟨v7, e8, h⟩ := bindE h
  refine X.sld (pc' := 320) dL_law_319 rfl (by rw [hX]; exact e8) ?_
  obtain ⟨⟨⟩, e12, h⟩ := bindE h
  obtain ⟨v9, M10, e11, h⟩ := bd2E h
  refine X.callV (b := a2) (v := some (.int v9)) (As := [.int v7]) (st := []) (M' := M10) (pc' := 323) dL_law_320 rfl cl_L_133 mi_X11_load me_X11_load mr_X11_load e12 ⟨⟨Nat.le_of_ble_eq_true rfl, Nat.le_of_ble_eq_true rfl⟩, (by show kk + 1 + 0 ≤ 601024; omega), (by show nn + 6 + 0 ≤ 7293033; omega)⟩ rfl (Nat.le_of_ble_eq_true rfl) (ok_X11_load (G := zs G) e11) ?_
  show X G t_L_law [] 323 [some (.ref 3000000), some (.ref a1), some (.ref a2), some (.ref a3), some (.ref a4), some (.int a5), some (.int v3), none] [.int v9] M10 (kk + 1) (nn + 6) _
  refine X.istore (L' := [some (.ref 3000000), some (.ref a1), some (.ref a2), some (.ref a3), some (.ref a4), some (.int a5), some (.int v3), some (.int v9)]) (pc' := 325) dL_law_323 rfl (Nat.le_of_ble_eq_true rfl) rfl ?_
  refine X.aload_n (x := a2) (pc' := 326) dL_law_325 rfl rfl rfl ?_
  obtain ⟨⟨⟩, e16, h⟩ := bindE h
  obtain ⟨v13, M14, e15, h⟩ := bd2E h
  refine X.callV (b := a2) (v := some (.int v13)) (As := []) (st := []) (M' := M14) (pc' := 329) dL_law_326 rfl cl_L_127 mi_X11_thrown me_X11_thrown mr_X11_thrown e16 ⟨⟨Nat.le_of_ble_eq_true rfl, Nat.le_of_ble_eq_true rfl⟩, (by show kk + 1 + 0 ≤ 601024; omega), (by show nn + 6 + 0 ≤ 7293033; omega)⟩ rfl (Nat.le_of_ble_eq_true rfl) (ok_X11_thrown (G := zs G) e15) ?_
  show X G t_L_law [] 329 [some (.ref 3000000), some (.ref a1), some (.ref a2), some (.ref a3), some (.ref a4), some (.int a5), some (.int v3), some (.int v9)] [.int v13] M14 (kk + 1) (nn + 6) _
  refine X.iload (x := v3) (pc' := 331) dL_law_329 rfl rfl ?_
  refine X.icmp_eq (tgt := 336) (pc' := 334) dL_law_331 (by decide) rfl (fun hc => ?_) (fun hc => ?_)
  · rw [if_pos hc] at h
    refine X.iload (x := v3) (pc' := 338) dL_law_336 rfl rfl ?_
    refine X.if_ne (tgt := 353) (pc' := 341) dL_law_338 (by decide) rfl (fun hc => ?_) (fun hc => ?_)
    · rw [if_neg hc] at h
      refine X.goto (pc' := 2157) dL_law_353 (by decide) ?_
      refine X.sub (L := [some (.ref 3000000), some (.ref a1), some (.ref a2), some (.ref a3), some (.ref a4), some (.int a5), none, none]) ?_ (⟨rfl, ⟨rfl, ⟨rfl, ⟨rfl, ⟨rfl, ⟨rfl, trivial⟩⟩⟩⟩⟩⟩)
      refine X.widen (k' := kk + 4) (n' := nn + 24) (by omega) (by omega) ?_
      exact hk _ h
    · rw [if_pos hc] at h
      refine X.aload_n (x := a3) (pc' := 342) dL_law_341 rfl rfl rfl ?_
      refine X.iconst (v := 0) (pc' := 343) dL_law_342 rfl (by decide) ?_
      obtain ⟨v18, e17, h⟩ := bindE h
      refine X.lald (pc' := 344) dL_law_343 rfl e17 ?_
      refine X.iload (x := v9) (pc' := 346) dL_law_344 rfl rfl ?_
      refine X.i2l (pc' := 347) dL_law_346 rfl ?_
      refine X.lcmp (pc' := 348) dL_law_347 rfl ?_
      refine X.if_eq (tgt := 353) (pc' := 351) dL_law_348 (by decide) rfl (fun hc => ?_) (fun hc => ?_)
      · rw [if_pos hc] at h
        refine X.goto (pc' := 2157) dL_law_353 (by decide) ?_
        refine X.sub (L := [some (.ref 3000000), some (.ref a1), some (.ref a2), some (.ref a3), some (.ref a4), some (.int a5), none, none]) ?_ (⟨rfl, ⟨rfl, ⟨rfl, ⟨rfl, ⟨rfl, ⟨rfl, trivial⟩⟩⟩⟩⟩⟩)
        refine X.widen (k' := kk + 4) (n' := nn + 24) (by omega) (by omega) ?_
        exact hk _ h
      · rw [if_neg hc] at h
        refine X.iconst (v := 0) (pc' := 352) dL_law_351 rfl (by decide) ?_
        cases h
        exact X.iret (ty := .boolean) dL_law_352 rfl (by decide) (by show kk + 1 ≤ 601024; omega) (by show nn + 6 ≤ 7293033; omega) rfl
  · rw [if_neg hc] at h
    refine X.iconst (v := 0) (pc' := 335) dL_law_334 rfl (by decide) ?_
    cases h
    exact X.iret (ty := .boolean) dL_law_335 rfl (by decide) (by show kk + 1 ≤ 601024; omega) (by show nn + 6 ≤ 7293033; omega) rfl
def g_2 (fu : Nat) (xs : List Int32) (a1 a2 a3 a4 : Nat) (a5 : Int32) (M : List Ob) (k : List Ob → Option (Int32 × List Ob)) : Option (Int32 × List Ob) :=
  (hasO M a1 10).bind fun _ =>
  bd2 (f_X10_errorPosition fu a1 M) fun v1 M2 =>
  (hasO M2 a2 11).bind fun _ =>
  bd2 (f_X11_errorPosition fu a2 M2) fun v5 M6 =>
  if v1 = v5 then (k M6)
  else (some (0, M6))
set_option maxHeartbeats 4000000 in
theorem okg_2 {G : GT} (hz : gZ G = false) {fu : Nat} {xs : List Int32} (hX : gX G = xs) {a1 a2 a3 a4 : Nat} {a5 : Int32} {M : List Ob} {kk nn : Nat} (hkk : kk + 8 ≤ 601024) (hnn : nn + 48 ≤ 7293033) {k : List Ob → Option (Int32 × List Ob)} {out : Int32 × List Ob} (hk : ∀ M, k M = some out → X G t_L_law [] 2157 [some (.ref 3000000), some (.ref a1), some (.ref a2), some (.ref a3), some (.ref a4), some (.int a5), none, none] [] M (kk + 4) (nn + 24) (oI out)) (h : g_2 fu xs a1 a2 a3 a4 a5 M k = some out) : X G t_L_law [] 356 [some (.ref 3000000), some (.ref a1), some (.ref a2), some (.ref a3), some (.ref a4), some (.int a5), none, none] [] M (kk + 0) (nn + 0) (oI out) := by
  unfold g_2 at h
  refine X.aload_n (x := a1) (pc' := 357) dL_law_356 rfl rfl rfl ?_
  obtain ⟨⟨⟩, e4, h⟩ := bindE h
  obtain ⟨v1, M2, e3, h⟩ := bd2E h
  refine X.callV (b := a1) (v := some (.int v1)) (As := []) (st := []) (M' := M2) (pc' := 360) dL_law_357 rfl cl_L_134 mi_X10_errorPosition me_X10_errorPosition mr_X10_errorPosition e4 ⟨⟨Nat.le_of_ble_eq_true rfl, Nat.le_of_ble_eq_true rfl⟩, (by show kk + 0 + 0 ≤ 601024; omega), (by show nn + 0 + 0 ≤ 7293033; omega)⟩ rfl (Nat.le_of_ble_eq_true rfl) (ok_X10_errorPosition (G := zs G) e3) ?_
  show X G t_L_law [] 360 [some (.ref 3000000), some (.ref a1), some (.ref a2), some (.ref a3), some (.ref a4), some (.int a5), none, none] [.int v1] M2 (kk + 0) (nn + 0) _
  refine X.aload_n (x := a2) (pc' := 361) dL_law_360 rfl rfl rfl ?_
  obtain ⟨⟨⟩, e8, h⟩ := bindE h
  obtain ⟨v5, M6, e7, h⟩ := bd2E h
  refine X.callV (b := a2) (v := some (.int v5)) (As := []) (st := [.int v1]) (M' := M6) (pc' := 364) dL_law_361 rfl cl_L_137 mi_X11_errorPosition me_X11_errorPosition mr_X11_errorPosition e8 ⟨⟨Nat.le_of_ble_eq_true rfl, Nat.le_of_ble_eq_true rfl⟩, (by show kk + 0 + 0 ≤ 601024; omega), (by show nn + 0 + 0 ≤ 7293033; omega)⟩ rfl (Nat.le_of_ble_eq_true rfl) (ok_X11_errorPosition (G := zs G) e7) ?_
  show X G t_L_law [] 364 [some (.ref 3000000), some (.ref a1), some (.ref a2), some (.ref a3), some (.ref a4), some (.int a5), none, none] [.int v5, .int v1] M6 (kk + 0) (nn + 0) _
  refine X.icmp_eq (tgt := 2157) (pc' := 367) dL_law_364 (by decide) rfl (fun hc => ?_) (fun hc => ?_)
  · rw [if_pos hc] at h
    refine X.sub (L := [some (.ref 3000000), some (.ref a1), some (.ref a2), some (.ref a3), some (.ref a4), some (.int a5), none, none]) ?_ (⟨rfl, ⟨rfl, ⟨rfl, ⟨rfl, ⟨rfl, ⟨rfl, trivial⟩⟩⟩⟩⟩⟩)
    refine X.widen (k' := kk + 4) (n' := nn + 24) (by omega) (by omega) ?_
    exact hk _ h
  · rw [if_neg hc] at h
    refine X.iconst (v := 0) (pc' := 368) dL_law_367 rfl (by decide) ?_
    cases h
    exact X.iret (ty := .boolean) dL_law_368 rfl (by decide) (by show kk + 0 ≤ 601024; omega) (by show nn + 0 ≤ 7293033; omega) rfl
def g_3 (fu : Nat) (xs : List Int32) (a1 a2 a3 a4 : Nat) (a5 : Int32) (M : List Ob) (k : List Ob → Option (Int32 × List Ob)) : Option (Int32 × List Ob) :=
  (sGet xs (a5 + 1)).bind fun v1 =>
  bd2 (f_L_count fu a1 v1 a3 M) fun v3 M4 =>
  (sGet xs (a5 + 1)).bind fun v7 =>
  (hasO M4 a2 11).bind fun _ =>
  bd2 (f_X11_count fu a2 v7 M4) fun v9 M10 =>
  (hasO M10 a2 11).bind fun _ =>
  bd2 (f_X11_thrown fu a2 M10) fun v13 M14 =>
  if v13 = v3 then (if v3 = 0 then ((aJ M14 a3 0).bind fun v18 =>
  if (lg_cmp v18 ((v9 : Int32).toInt64)) = 0 then (k M14)
  else (some (0, M14)))
  else (k M14))
  else (some (0, M14))
set_option maxHeartbeats 4000000 in
theorem okg_3 {G : GT} (hz : gZ G = false) {fu : Nat} {xs : List Int32} (hX : gX G = xs) {a1 a2 a3 a4 : Nat} {a5 : Int32} {M : List Ob} {kk nn : Nat} (hkk : kk + 8 ≤ 601024) (hnn : nn + 48 ≤ 7293033) {k : List Ob → Option (Int32 × List Ob)} {out : Int32 × List Ob} (hk : ∀ M, k M = some out → X G t_L_law [] 2157 [some (.ref 3000000), some (.ref a1), some (.ref a2), some (.ref a3), some (.ref a4), some (.int a5), none, none] [] M (kk + 4) (nn + 24) (oI out)) (h : g_3 fu xs a1 a2 a3 a4 a5 M k = some out) : X G t_L_law [] 369 [some (.ref 3000000), some (.ref a1), some (.ref a2), some (.ref a3), some (.ref a4), some (.int a5), none, none] [] M (kk + 0) (nn + 0) (oI out) := by
  unfold g_3 at h
  refine X.aload_n (x := a1) (pc' := 370) dL_law_369 rfl rfl rfl ?_
  refine X.aload_n (x := 3000000) (pc' := 371) dL_law_370 rfl rfl rfl ?_
  refine X.iload (x := a5) (pc' := 373) dL_law_371 rfl rfl ?_
  refine X.iconst (v := 1) (pc' := 374) dL_law_373 rfl (by decide) ?_
  refine X.iadd (pc' := 375) dL_law_374 rfl ?_
  obtain ⟨v1, e2, h⟩ := bindE h
  refine X.sld (pc' := 376) dL_law_375 rfl (by rw [hX]; exact e2) ?_
  refine X.aload_n (x := a3) (pc' := 377) dL_law_376 rfl rfl rfl ?_
  obtain ⟨v3, M4, e5, h⟩ := bd2E h
  refine X.callW (v := some (.int v3)) (As := [.ref a1, .int v1, .ref a3]) (st := []) (M' := M4) (pc' := 380) dL_law_377 rfl cw_L_138 ⟨⟨Nat.le_of_ble_eq_true rfl, Nat.le_of_ble_eq_true rfl⟩, (by show kk + 0 + 1 ≤ 601024; omega), (by show nn + 0 + 6 ≤ 7293033; omega)⟩ rfl (Nat.le_of_ble_eq_true rfl) (ok_L_count (G := zs G) (hz := hz) e5) ?_
  show X G t_L_law [] 380 [some (.ref 3000000), some (.ref a1), some (.ref a2), some (.ref a3), some (.ref a4), some (.int a5), none, none] [.int v3] M4 (kk + 1) (nn + 6) _
  refine X.istore (L' := [some (.ref 3000000), some (.ref a1), some (.ref a2), some (.ref a3), some (.ref a4), some (.int a5), some (.int v3), none]) (pc' := 382) dL_law_380 rfl (Nat.le_of_ble_eq_true rfl) rfl ?_
  refine X.aload_n (x := a2) (pc' := 383) dL_law_382 rfl rfl rfl ?_
  refine X.aload_n (x := 3000000) (pc' := 384) dL_law_383 rfl rfl rfl ?_
  refine X.iload (x := a5) (pc' := 386) dL_law_384 rfl rfl ?_
  refine X.iconst (v := 1) (pc' := 387) dL_law_386 rfl (by decide) ?_
  refine X.iadd (pc' := 388) dL_law_387 rfl ?_
  obtain ⟨v7, e8, h⟩ := bindE h
  refine X.sld (pc' := 389) dL_law_388 rfl (by rw [hX]; exact e8) ?_
  obtain ⟨⟨⟩, e12, h⟩ := bindE h
  obtain ⟨v9, M10, e11, h⟩ := bd2E h
  refine X.callV (b := a2) (v := some (.int v9)) (As := [.int v7]) (st := []) (M' := M10) (pc' := 392) dL_law_389 rfl cl_L_140 mi_X11_count me_X11_count mr_X11_count e12 ⟨⟨Nat.le_of_ble_eq_true rfl, Nat.le_of_ble_eq_true rfl⟩, (by show kk + 1 + 0 ≤ 601024; omega), (by show nn + 6 + 0 ≤ 7293033; omega)⟩ rfl (Nat.le_of_ble_eq_true rfl) (ok_X11_count (G := zs G) e11) ?_
  show X G t_L_law [] 392 [some (.ref 3000000), some (.ref a1), some (.ref a2), some (.ref a3), some (.ref a4), some (.int a5), some (.int v3), none] [.int v9] M10 (kk + 1) (nn + 6) _
  refine X.istore (L' := [some (.ref 3000000), some (.ref a1), some (.ref a2), some (.ref a3), some (.ref a4), some (.int a5), some (.int v3), some (.int v9)]) (pc' := 394) dL_law_392 rfl (Nat.le_of_ble_eq_true rfl) rfl ?_
  refine X.aload_n (x := a2) (pc' := 395) dL_law_394 rfl rfl rfl ?_
  obtain ⟨⟨⟩, e16, h⟩ := bindE h
  obtain ⟨v13, M14, e15, h⟩ := bd2E h
  refine X.callV (b := a2) (v := some (.int v13)) (As := []) (st := []) (M' := M14) (pc' := 398) dL_law_395 rfl cl_L_127 mi_X11_thrown me_X11_thrown mr_X11_thrown e16 ⟨⟨Nat.le_of_ble_eq_true rfl, Nat.le_of_ble_eq_true rfl⟩, (by show kk + 1 + 0 ≤ 601024; omega), (by show nn + 6 + 0 ≤ 7293033; omega)⟩ rfl (Nat.le_of_ble_eq_true rfl) (ok_X11_thrown (G := zs G) e15) ?_
  show X G t_L_law [] 398 [some (.ref 3000000), some (.ref a1), some (.ref a2), some (.ref a3), some (.ref a4), some (.int a5), some (.int v3), some (.int v9)] [.int v13] M14 (kk + 1) (nn + 6) _
  refine X.iload (x := v3) (pc' := 400) dL_law_398 rfl rfl ?_
  refine X.icmp_eq (tgt := 405) (pc' := 403) dL_law_400 (by decide) rfl (fun hc => ?_) (fun hc => ?_)
  · rw [if_pos hc] at h
    refine X.iload (x := v3) (pc' := 407) dL_law_405 rfl rfl ?_
    refine X.if_ne (tgt := 422) (pc' := 410) dL_law_407 (by decide) rfl (fun hc => ?_) (fun hc => ?_)
    · rw [if_neg hc] at h
      refine X.goto (pc' := 2157) dL_law_422 (by decide) ?_
      refine X.sub (L := [some (.ref 3000000), some (.ref a1), some (.ref a2), some (.ref a3), some (.ref a4), some (.int a5), none, none]) ?_ (⟨rfl, ⟨rfl, ⟨rfl, ⟨rfl, ⟨rfl, ⟨rfl, trivial⟩⟩⟩⟩⟩⟩)
      refine X.widen (k' := kk + 4) (n' := nn + 24) (by omega) (by omega) ?_
      exact hk _ h
    · rw [if_pos hc] at h
      refine X.aload_n (x := a3) (pc' := 411) dL_law_410 rfl rfl rfl ?_
      refine X.iconst (v := 0) (pc' := 412) dL_law_411 rfl (by decide) ?_
      obtain ⟨v18, e17, h⟩ := bindE h
      refine X.lald (pc' := 413) dL_law_412 rfl e17 ?_
      refine X.iload (x := v9) (pc' := 415) dL_law_413 rfl rfl ?_
      refine X.i2l (pc' := 416) dL_law_415 rfl ?_
      refine X.lcmp (pc' := 417) dL_law_416 rfl ?_
      refine X.if_eq (tgt := 422) (pc' := 420) dL_law_417 (by decide) rfl (fun hc => ?_) (fun hc => ?_)
      · rw [if_pos hc] at h
        refine X.goto (pc' := 2157) dL_law_422 (by decide) ?_
        refine X.sub (L := [some (.ref 3000000), some (.ref a1), some (.ref a2), some (.ref a3), some (.ref a4), some (.int a5), none, none]) ?_ (⟨rfl, ⟨rfl, ⟨rfl, ⟨rfl, ⟨rfl, ⟨rfl, trivial⟩⟩⟩⟩⟩⟩)
        refine X.widen (k' := kk + 4) (n' := nn + 24) (by omega) (by omega) ?_
        exact hk _ h
      · rw [if_neg hc] at h
        refine X.iconst (v := 0) (pc' := 421) dL_law_420 rfl (by decide) ?_
        cases h
        exact X.iret (ty := .boolean) dL_law_421 rfl (by decide) (by show kk + 1 ≤ 601024; omega) (by show nn + 6 ≤ 7293033; omega) rfl
  · rw [if_neg hc] at h
    refine X.iconst (v := 0) (pc' := 404) dL_law_403 rfl (by decide) ?_
    cases h
    exact X.iret (ty := .boolean) dL_law_404 rfl (by decide) (by show kk + 1 ≤ 601024; omega) (by show nn + 6 ≤ 7293033; omega) rfl
def g_4 (fu : Nat) (xs : List Int32) (a1 a2 a3 a4 : Nat) (a5 : Int32) (M : List Ob) (k : List Ob → Option (Int32 × List Ob)) : Option (Int32 × List Ob) :=
  (sGet xs (a5 + 1)).bind fun v1 =>
  (sGet xs (a5 + 2)).bind fun v3 =>
  bd2 (f_L_arc fu a1 v1 v3 a3 M) fun v5 M6 =>
  (sGet xs (a5 + 1)).bind fun v9 =>
  (sGet xs (a5 + 2)).bind fun v11 =>
  (hasO M6 a2 11).bind fun _ =>
  bd2 (f_X11_arc fu a2 v9 v11 M6) fun v13 M14 =>
  (hasO M14 a2 11).bind fun _ =>
  bd2 (f_X11_thrown fu a2 M14) fun v17 M18 =>
  if v17 = v5 then (if v5 = 0 then ((aJ M18 a3 0).bind fun v22 =>
  if (lg_cmp v22 ((v13 : Int32).toInt64)) = 0 then (k M18)
  else (some (0, M18)))
  else (k M18))
  else (some (0, M18))
set_option maxHeartbeats 4000000 in
theorem okg_4 {G : GT} (hz : gZ G = false) {fu : Nat} {xs : List Int32} (hX : gX G = xs) {a1 a2 a3 a4 : Nat} {a5 : Int32} {M : List Ob} {kk nn : Nat} (hkk : kk + 8 ≤ 601024) (hnn : nn + 48 ≤ 7293033) {k : List Ob → Option (Int32 × List Ob)} {out : Int32 × List Ob} (hk : ∀ M, k M = some out → X G t_L_law [] 2157 [some (.ref 3000000), some (.ref a1), some (.ref a2), some (.ref a3), some (.ref a4), some (.int a5), none, none] [] M (kk + 4) (nn + 24) (oI out)) (h : g_4 fu xs a1 a2 a3 a4 a5 M k = some out) : X G t_L_law [] 425 [some (.ref 3000000), some (.ref a1), some (.ref a2), some (.ref a3), some (.ref a4), some (.int a5), none, none] [] M (kk + 0) (nn + 0) (oI out) := by
  unfold g_4 at h
  refine X.aload_n (x := a1) (pc' := 426) dL_law_425 rfl rfl rfl ?_
  refine X.aload_n (x := 3000000) (pc' := 427) dL_law_426 rfl rfl rfl ?_
  refine X.iload (x := a5) (pc' := 429) dL_law_427 rfl rfl ?_
  refine X.iconst (v := 1) (pc' := 430) dL_law_429 rfl (by decide) ?_
  refine X.iadd (pc' := 431) dL_law_430 rfl ?_
  obtain ⟨v1, e2, h⟩ := bindE h
  refine X.sld (pc' := 432) dL_law_431 rfl (by rw [hX]; exact e2) ?_
  refine X.aload_n (x := 3000000) (pc' := 433) dL_law_432 rfl rfl rfl ?_
  refine X.iload (x := a5) (pc' := 435) dL_law_433 rfl rfl ?_
  refine X.iconst (v := 2) (pc' := 436) dL_law_435 rfl (by decide) ?_
  refine X.iadd (pc' := 437) dL_law_436 rfl ?_
  obtain ⟨v3, e4, h⟩ := bindE h
  refine X.sld (pc' := 438) dL_law_437 rfl (by rw [hX]; exact e4) ?_
  refine X.aload_n (x := a3) (pc' := 439) dL_law_438 rfl rfl rfl ?_
  obtain ⟨v5, M6, e7, h⟩ := bd2E h
  refine X.callW (v := some (.int v5)) (As := [.ref a1, .int v1, .int v3, .ref a3]) (st := []) (M' := M6) (pc' := 442) dL_law_439 rfl cw_L_141 ⟨⟨Nat.le_of_ble_eq_true rfl, Nat.le_of_ble_eq_true rfl⟩, (by show kk + 0 + 2 ≤ 601024; omega), (by show nn + 0 + 12 ≤ 7293033; omega)⟩ rfl (Nat.le_of_ble_eq_true rfl) (ok_L_arc (G := zs G) (hz := hz) e7) ?_
  show X G t_L_law [] 442 [some (.ref 3000000), some (.ref a1), some (.ref a2), some (.ref a3), some (.ref a4), some (.int a5), none, none] [.int v5] M6 (kk + 2) (nn + 12) _
  refine X.istore (L' := [some (.ref 3000000), some (.ref a1), some (.ref a2), some (.ref a3), some (.ref a4), some (.int a5), some (.int v5), none]) (pc' := 444) dL_law_442 rfl (Nat.le_of_ble_eq_true rfl) rfl ?_
  refine X.aload_n (x := a2) (pc' := 445) dL_law_444 rfl rfl rfl ?_
  refine X.aload_n (x := 3000000) (pc' := 446) dL_law_445 rfl rfl rfl ?_
  refine X.iload (x := a5) (pc' := 448) dL_law_446 rfl rfl ?_
  refine X.iconst (v := 1) (pc' := 449) dL_law_448 rfl (by decide) ?_
  refine X.iadd (pc' := 450) dL_law_449 rfl ?_
  obtain ⟨v9, e10, h⟩ := bindE h
  refine X.sld (pc' := 451) dL_law_450 rfl (by rw [hX]; exact e10) ?_
  refine X.aload_n (x := 3000000) (pc' := 452) dL_law_451 rfl rfl rfl ?_
  refine X.iload (x := a5) (pc' := 454) dL_law_452 rfl rfl ?_
  refine X.iconst (v := 2) (pc' := 455) dL_law_454 rfl (by decide) ?_
  refine X.iadd (pc' := 456) dL_law_455 rfl ?_
  obtain ⟨v11, e12, h⟩ := bindE h
  refine X.sld (pc' := 457) dL_law_456 rfl (by rw [hX]; exact e12) ?_
  obtain ⟨⟨⟩, e16, h⟩ := bindE h
  obtain ⟨v13, M14, e15, h⟩ := bd2E h
  refine X.callV (b := a2) (v := some (.int v13)) (As := [.int v9, .int v11]) (st := []) (M' := M14) (pc' := 460) dL_law_457 rfl cl_L_144 mi_X11_arc me_X11_arc mr_X11_arc e16 ⟨⟨Nat.le_of_ble_eq_true rfl, Nat.le_of_ble_eq_true rfl⟩, (by show kk + 2 + 0 ≤ 601024; omega), (by show nn + 12 + 0 ≤ 7293033; omega)⟩ rfl (Nat.le_of_ble_eq_true rfl) (ok_X11_arc (G := zs G) e15) ?_
  show X G t_L_law [] 460 [some (.ref 3000000), some (.ref a1), some (.ref a2), some (.ref a3), some (.ref a4), some (.int a5), some (.int v5), none] [.int v13] M14 (kk + 2) (nn + 12) _
  refine X.istore (L' := [some (.ref 3000000), some (.ref a1), some (.ref a2), some (.ref a3), some (.ref a4), some (.int a5), some (.int v5), some (.int v13)]) (pc' := 462) dL_law_460 rfl (Nat.le_of_ble_eq_true rfl) rfl ?_
  refine X.aload_n (x := a2) (pc' := 463) dL_law_462 rfl rfl rfl ?_
  obtain ⟨⟨⟩, e20, h⟩ := bindE h
  obtain ⟨v17, M18, e19, h⟩ := bd2E h
  refine X.callV (b := a2) (v := some (.int v17)) (As := []) (st := []) (M' := M18) (pc' := 466) dL_law_463 rfl cl_L_127 mi_X11_thrown me_X11_thrown mr_X11_thrown e20 ⟨⟨Nat.le_of_ble_eq_true rfl, Nat.le_of_ble_eq_true rfl⟩, (by show kk + 2 + 0 ≤ 601024; omega), (by show nn + 12 + 0 ≤ 7293033; omega)⟩ rfl (Nat.le_of_ble_eq_true rfl) (ok_X11_thrown (G := zs G) e19) ?_
  show X G t_L_law [] 466 [some (.ref 3000000), some (.ref a1), some (.ref a2), some (.ref a3), some (.ref a4), some (.int a5), some (.int v5), some (.int v13)] [.int v17] M18 (kk + 2) (nn + 12) _
  refine X.iload (x := v5) (pc' := 468) dL_law_466 rfl rfl ?_
  refine X.icmp_eq (tgt := 473) (pc' := 471) dL_law_468 (by decide) rfl (fun hc => ?_) (fun hc => ?_)
  · rw [if_pos hc] at h
    refine X.iload (x := v5) (pc' := 475) dL_law_473 rfl rfl ?_
    refine X.if_ne (tgt := 490) (pc' := 478) dL_law_475 (by decide) rfl (fun hc => ?_) (fun hc => ?_)
    · rw [if_neg hc] at h
      refine X.goto (pc' := 2157) dL_law_490 (by decide) ?_
      refine X.sub (L := [some (.ref 3000000), some (.ref a1), some (.ref a2), some (.ref a3), some (.ref a4), some (.int a5), none, none]) ?_ (⟨rfl, ⟨rfl, ⟨rfl, ⟨rfl, ⟨rfl, ⟨rfl, trivial⟩⟩⟩⟩⟩⟩)
      refine X.widen (k' := kk + 4) (n' := nn + 24) (by omega) (by omega) ?_
      exact hk _ h
    · rw [if_pos hc] at h
      refine X.aload_n (x := a3) (pc' := 479) dL_law_478 rfl rfl rfl ?_
      refine X.iconst (v := 0) (pc' := 480) dL_law_479 rfl (by decide) ?_
      obtain ⟨v22, e21, h⟩ := bindE h
      refine X.lald (pc' := 481) dL_law_480 rfl e21 ?_
      refine X.iload (x := v13) (pc' := 483) dL_law_481 rfl rfl ?_
      refine X.i2l (pc' := 484) dL_law_483 rfl ?_
      refine X.lcmp (pc' := 485) dL_law_484 rfl ?_
      refine X.if_eq (tgt := 490) (pc' := 488) dL_law_485 (by decide) rfl (fun hc => ?_) (fun hc => ?_)
      · rw [if_pos hc] at h
        refine X.goto (pc' := 2157) dL_law_490 (by decide) ?_
        refine X.sub (L := [some (.ref 3000000), some (.ref a1), some (.ref a2), some (.ref a3), some (.ref a4), some (.int a5), none, none]) ?_ (⟨rfl, ⟨rfl, ⟨rfl, ⟨rfl, ⟨rfl, ⟨rfl, trivial⟩⟩⟩⟩⟩⟩)
        refine X.widen (k' := kk + 4) (n' := nn + 24) (by omega) (by omega) ?_
        exact hk _ h
      · rw [if_neg hc] at h
        refine X.iconst (v := 0) (pc' := 489) dL_law_488 rfl (by decide) ?_
        cases h
        exact X.iret (ty := .boolean) dL_law_489 rfl (by decide) (by show kk + 2 ≤ 601024; omega) (by show nn + 12 ≤ 7293033; omega) rfl
  · rw [if_neg hc] at h
    refine X.iconst (v := 0) (pc' := 472) dL_law_471 rfl (by decide) ?_
    cases h
    exact X.iret (ty := .boolean) dL_law_472 rfl (by decide) (by show kk + 2 ≤ 601024; omega) (by show nn + 12 ≤ 7293033; omega) rfl
def g_5 (fu : Nat) (xs : List Int32) (a1 a2 a3 a4 : Nat) (a5 : Int32) (M : List Ob) (k : List Ob → Option (Int32 × List Ob)) : Option (Int32 × List Ob) :=
  (sGet xs (a5 + 1)).bind fun v1 =>
  (sGet xs (a5 + 2)).bind fun v3 =>
  (sGet xs (a5 + 3)).bind fun v5 =>
  (sGet xs (a5 + 4)).bind fun v7 =>
  bd2 (f_L_addArc fu a1 v1 v3 v5 v7 a3 M) fun v9 M10 =>
  (sGet xs (a5 + 1)).bind fun v13 =>
  (sGet xs (a5 + 2)).bind fun v15 =>
  (sGet xs (a5 + 3)).bind fun v17 =>
  (sGet xs (a5 + 4)).bind fun v19 =>
  (hasO M10 a2 11).bind fun _ =>
  bd2 (f_X11_addArc fu a2 v13 v15 v17 v19 M10) fun v21 M22 =>
  (hasO M22 a2 11).bind fun _ =>
  bd2 (f_X11_thrown fu a2 M22) fun v25 M26 =>
  if v25 = v9 then (if v9 = 0 then ((aJ M26 a3 0).bind fun v30 =>
  if (lg_cmp v30 ((v21 : Int32).toInt64)) = 0 then (k M26)
  else (some (0, M26)))
  else (k M26))
  else (some (0, M26))
set_option maxHeartbeats 4000000 in
theorem okg_5 {G : GT} (hz : gZ G = false) {fu : Nat} {xs : List Int32} (hX : gX G = xs) {a1 a2 a3 a4 : Nat} {a5 : Int32} {M : List Ob} {kk nn : Nat} (hkk : kk + 8 ≤ 601024) (hnn : nn + 48 ≤ 7293033) {k : List Ob → Option (Int32 × List Ob)} {out : Int32 × List Ob} (hk : ∀ M, k M = some out → X G t_L_law [] 2157 [some (.ref 3000000), some (.ref a1), some (.ref a2), some (.ref a3), some (.ref a4), some (.int a5), none, none] [] M (kk + 4) (nn + 24) (oI out)) (h : g_5 fu xs a1 a2 a3 a4 a5 M k = some out) : X G t_L_law [] 493 [some (.ref 3000000), some (.ref a1), some (.ref a2), some (.ref a3), some (.ref a4), some (.int a5), none, none] [] M (kk + 0) (nn + 0) (oI out) := by
  unfold g_5 at h
  refine X.aload_n (x := a1) (pc' := 494) dL_law_493 rfl rfl rfl ?_
  refine X.aload_n (x := 3000000) (pc' := 495) dL_law_494 rfl rfl rfl ?_
  refine X.iload (x := a5) (pc' := 497) dL_law_495 rfl rfl ?_
  refine X.iconst (v := 1) (pc' := 498) dL_law_497 rfl (by decide) ?_
  refine X.iadd (pc' := 499) dL_law_498 rfl ?_
  obtain ⟨v1, e2, h⟩ := bindE h
  refine X.sld (pc' := 500) dL_law_499 rfl (by rw [hX]; exact e2) ?_
  refine X.aload_n (x := 3000000) (pc' := 501) dL_law_500 rfl rfl rfl ?_
  refine X.iload (x := a5) (pc' := 503) dL_law_501 rfl rfl ?_
  refine X.iconst (v := 2) (pc' := 504) dL_law_503 rfl (by decide) ?_
  refine X.iadd (pc' := 505) dL_law_504 rfl ?_
  obtain ⟨v3, e4, h⟩ := bindE h
  refine X.sld (pc' := 506) dL_law_505 rfl (by rw [hX]; exact e4) ?_
  refine X.aload_n (x := 3000000) (pc' := 507) dL_law_506 rfl rfl rfl ?_
  refine X.iload (x := a5) (pc' := 509) dL_law_507 rfl rfl ?_
  refine X.iconst (v := 3) (pc' := 510) dL_law_509 rfl (by decide) ?_
  refine X.iadd (pc' := 511) dL_law_510 rfl ?_
  obtain ⟨v5, e6, h⟩ := bindE h
  refine X.sld (pc' := 512) dL_law_511 rfl (by rw [hX]; exact e6) ?_
  refine X.aload_n (x := 3000000) (pc' := 513) dL_law_512 rfl rfl rfl ?_
  refine X.iload (x := a5) (pc' := 515) dL_law_513 rfl rfl ?_
  refine X.iconst (v := 4) (pc' := 516) dL_law_515 rfl (by decide) ?_
  refine X.iadd (pc' := 517) dL_law_516 rfl ?_
  obtain ⟨v7, e8, h⟩ := bindE h
  refine X.sld (pc' := 518) dL_law_517 rfl (by rw [hX]; exact e8) ?_
  refine X.aload_n (x := a3) (pc' := 519) dL_law_518 rfl rfl rfl ?_
  obtain ⟨v9, M10, e11, h⟩ := bd2E h
  refine X.callW (v := some (.int v9)) (As := [.ref a1, .int v1, .int v3, .int v5, .int v7, .ref a3]) (st := []) (M' := M10) (pc' := 522) dL_law_519 rfl cw_L_145 ⟨⟨Nat.le_of_ble_eq_true rfl, Nat.le_of_ble_eq_true rfl⟩, (by show kk + 0 + 4 ≤ 601024; omega), (by show nn + 0 + 24 ≤ 7293033; omega)⟩ rfl (Nat.le_of_ble_eq_true rfl) (ok_L_addArc (G := zs G) (hz := hz) e11) ?_
  show X G t_L_law [] 522 [some (.ref 3000000), some (.ref a1), some (.ref a2), some (.ref a3), some (.ref a4), some (.int a5), none, none] [.int v9] M10 (kk + 4) (nn + 24) _
  refine X.istore (L' := [some (.ref 3000000), some (.ref a1), some (.ref a2), some (.ref a3), some (.ref a4), some (.int a5), some (.int v9), none]) (pc' := 524) dL_law_522 rfl (Nat.le_of_ble_eq_true rfl) rfl ?_
  refine X.aload_n (x := a2) (pc' := 525) dL_law_524 rfl rfl rfl ?_
  refine X.aload_n (x := 3000000) (pc' := 526) dL_law_525 rfl rfl rfl ?_
  refine X.iload (x := a5) (pc' := 528) dL_law_526 rfl rfl ?_
  refine X.iconst (v := 1) (pc' := 529) dL_law_528 rfl (by decide) ?_
  refine X.iadd (pc' := 530) dL_law_529 rfl ?_
  obtain ⟨v13, e14, h⟩ := bindE h
  refine X.sld (pc' := 531) dL_law_530 rfl (by rw [hX]; exact e14) ?_
  refine X.aload_n (x := 3000000) (pc' := 532) dL_law_531 rfl rfl rfl ?_
  refine X.iload (x := a5) (pc' := 534) dL_law_532 rfl rfl ?_
  refine X.iconst (v := 2) (pc' := 535) dL_law_534 rfl (by decide) ?_
  refine X.iadd (pc' := 536) dL_law_535 rfl ?_
  obtain ⟨v15, e16, h⟩ := bindE h
  refine X.sld (pc' := 537) dL_law_536 rfl (by rw [hX]; exact e16) ?_
  refine X.aload_n (x := 3000000) (pc' := 538) dL_law_537 rfl rfl rfl ?_
  refine X.iload (x := a5) (pc' := 540) dL_law_538 rfl rfl ?_
  refine X.iconst (v := 3) (pc' := 541) dL_law_540 rfl (by decide) ?_
  refine X.iadd (pc' := 542) dL_law_541 rfl ?_
  obtain ⟨v17, e18, h⟩ := bindE h
  refine X.sld (pc' := 543) dL_law_542 rfl (by rw [hX]; exact e18) ?_
  refine X.aload_n (x := 3000000) (pc' := 544) dL_law_543 rfl rfl rfl ?_
  refine X.iload (x := a5) (pc' := 546) dL_law_544 rfl rfl ?_
  refine X.iconst (v := 4) (pc' := 547) dL_law_546 rfl (by decide) ?_
  refine X.iadd (pc' := 548) dL_law_547 rfl ?_
  obtain ⟨v19, e20, h⟩ := bindE h
  refine X.sld (pc' := 549) dL_law_548 rfl (by rw [hX]; exact e20) ?_
  obtain ⟨⟨⟩, e24, h⟩ := bindE h
  obtain ⟨v21, M22, e23, h⟩ := bd2E h
  refine X.callV (b := a2) (v := some (.int v21)) (As := [.int v13, .int v15, .int v17, .int v19]) (st := []) (M' := M22) (pc' := 552) dL_law_549 rfl cl_L_148 mi_X11_addArc me_X11_addArc mr_X11_addArc e24 ⟨⟨Nat.le_of_ble_eq_true rfl, Nat.le_of_ble_eq_true rfl⟩, (by show kk + 4 + 0 ≤ 601024; omega), (by show nn + 24 + 0 ≤ 7293033; omega)⟩ rfl (Nat.le_of_ble_eq_true rfl) (ok_X11_addArc (G := zs G) e23) ?_
  show X G t_L_law [] 552 [some (.ref 3000000), some (.ref a1), some (.ref a2), some (.ref a3), some (.ref a4), some (.int a5), some (.int v9), none] [.int v21] M22 (kk + 4) (nn + 24) _
  refine X.istore (L' := [some (.ref 3000000), some (.ref a1), some (.ref a2), some (.ref a3), some (.ref a4), some (.int a5), some (.int v9), some (.int v21)]) (pc' := 554) dL_law_552 rfl (Nat.le_of_ble_eq_true rfl) rfl ?_
  refine X.aload_n (x := a2) (pc' := 555) dL_law_554 rfl rfl rfl ?_
  obtain ⟨⟨⟩, e28, h⟩ := bindE h
  obtain ⟨v25, M26, e27, h⟩ := bd2E h
  refine X.callV (b := a2) (v := some (.int v25)) (As := []) (st := []) (M' := M26) (pc' := 558) dL_law_555 rfl cl_L_127 mi_X11_thrown me_X11_thrown mr_X11_thrown e28 ⟨⟨Nat.le_of_ble_eq_true rfl, Nat.le_of_ble_eq_true rfl⟩, (by show kk + 4 + 0 ≤ 601024; omega), (by show nn + 24 + 0 ≤ 7293033; omega)⟩ rfl (Nat.le_of_ble_eq_true rfl) (ok_X11_thrown (G := zs G) e27) ?_
  show X G t_L_law [] 558 [some (.ref 3000000), some (.ref a1), some (.ref a2), some (.ref a3), some (.ref a4), some (.int a5), some (.int v9), some (.int v21)] [.int v25] M26 (kk + 4) (nn + 24) _
  refine X.iload (x := v9) (pc' := 560) dL_law_558 rfl rfl ?_
  refine X.icmp_eq (tgt := 565) (pc' := 563) dL_law_560 (by decide) rfl (fun hc => ?_) (fun hc => ?_)
  · rw [if_pos hc] at h
    refine X.iload (x := v9) (pc' := 567) dL_law_565 rfl rfl ?_
    refine X.if_ne (tgt := 582) (pc' := 570) dL_law_567 (by decide) rfl (fun hc => ?_) (fun hc => ?_)
    · rw [if_neg hc] at h
      refine X.goto (pc' := 2157) dL_law_582 (by decide) ?_
      refine X.sub (L := [some (.ref 3000000), some (.ref a1), some (.ref a2), some (.ref a3), some (.ref a4), some (.int a5), none, none]) ?_ (⟨rfl, ⟨rfl, ⟨rfl, ⟨rfl, ⟨rfl, ⟨rfl, trivial⟩⟩⟩⟩⟩⟩)
      refine X.widen (k' := kk + 4) (n' := nn + 24) (by omega) (by omega) ?_
      exact hk _ h
    · rw [if_pos hc] at h
      refine X.aload_n (x := a3) (pc' := 571) dL_law_570 rfl rfl rfl ?_
      refine X.iconst (v := 0) (pc' := 572) dL_law_571 rfl (by decide) ?_
      obtain ⟨v30, e29, h⟩ := bindE h
      refine X.lald (pc' := 573) dL_law_572 rfl e29 ?_
      refine X.iload (x := v21) (pc' := 575) dL_law_573 rfl rfl ?_
      refine X.i2l (pc' := 576) dL_law_575 rfl ?_
      refine X.lcmp (pc' := 577) dL_law_576 rfl ?_
      refine X.if_eq (tgt := 582) (pc' := 580) dL_law_577 (by decide) rfl (fun hc => ?_) (fun hc => ?_)
      · rw [if_pos hc] at h
        refine X.goto (pc' := 2157) dL_law_582 (by decide) ?_
        refine X.sub (L := [some (.ref 3000000), some (.ref a1), some (.ref a2), some (.ref a3), some (.ref a4), some (.int a5), none, none]) ?_ (⟨rfl, ⟨rfl, ⟨rfl, ⟨rfl, ⟨rfl, ⟨rfl, trivial⟩⟩⟩⟩⟩⟩)
        refine X.widen (k' := kk + 4) (n' := nn + 24) (by omega) (by omega) ?_
        exact hk _ h
      · rw [if_neg hc] at h
        refine X.iconst (v := 0) (pc' := 581) dL_law_580 rfl (by decide) ?_
        cases h
        exact X.iret (ty := .boolean) dL_law_581 rfl (by decide) (by show kk + 4 ≤ 601024; omega) (by show nn + 24 ≤ 7293033; omega) rfl
  · rw [if_neg hc] at h
    refine X.iconst (v := 0) (pc' := 564) dL_law_563 rfl (by decide) ?_
    cases h
    exact X.iret (ty := .boolean) dL_law_564 rfl (by decide) (by show kk + 4 ≤ 601024; omega) (by show nn + 24 ≤ 7293033; omega) rfl
def g_6 (fu : Nat) (xs : List Int32) (a1 a2 a3 a4 : Nat) (a5 : Int32) (M : List Ob) (k : List Ob → Option (Int32 × List Ob)) : Option (Int32 × List Ob) :=
  (sGet xs (a5 + 1)).bind fun v1 =>
  bd2 (f_L_removeArc fu a1 v1 a3 M) fun v3 M4 =>
  (sGet xs (a5 + 1)).bind fun v7 =>
  (hasO M4 a2 11).bind fun _ =>
  bd2 (f_X11_removeArc fu a2 v7 M4) fun v9 M10 =>
  (hasO M10 a2 11).bind fun _ =>
  bd2 (f_X11_thrown fu a2 M10) fun v13 M14 =>
  if v13 = v3 then (if v3 = 0 then ((aJ M14 a3 0).bind fun v18 =>
  if (lg_cmp v18 ((v9 : Int32).toInt64)) = 0 then (k M14)
  else (some (0, M14)))
  else (k M14))
  else (some (0, M14))
set_option maxHeartbeats 4000000 in
theorem okg_6 {G : GT} (hz : gZ G = false) {fu : Nat} {xs : List Int32} (hX : gX G = xs) {a1 a2 a3 a4 : Nat} {a5 : Int32} {M : List Ob} {kk nn : Nat} (hkk : kk + 8 ≤ 601024) (hnn : nn + 48 ≤ 7293033) {k : List Ob → Option (Int32 × List Ob)} {out : Int32 × List Ob} (hk : ∀ M, k M = some out → X G t_L_law [] 2157 [some (.ref 3000000), some (.ref a1), some (.ref a2), some (.ref a3), some (.ref a4), some (.int a5), none, none] [] M (kk + 4) (nn + 24) (oI out)) (h : g_6 fu xs a1 a2 a3 a4 a5 M k = some out) : X G t_L_law [] 585 [some (.ref 3000000), some (.ref a1), some (.ref a2), some (.ref a3), some (.ref a4), some (.int a5), none, none] [] M (kk + 0) (nn + 0) (oI out) := by
  unfold g_6 at h
  refine X.aload_n (x := a1) (pc' := 586) dL_law_585 rfl rfl rfl ?_
  refine X.aload_n (x := 3000000) (pc' := 587) dL_law_586 rfl rfl rfl ?_
  refine X.iload (x := a5) (pc' := 589) dL_law_587 rfl rfl ?_
  refine X.iconst (v := 1) (pc' := 590) dL_law_589 rfl (by decide) ?_
  refine X.iadd (pc' := 591) dL_law_590 rfl ?_
  obtain ⟨v1, e2, h⟩ := bindE h
  refine X.sld (pc' := 592) dL_law_591 rfl (by rw [hX]; exact e2) ?_
  refine X.aload_n (x := a3) (pc' := 593) dL_law_592 rfl rfl rfl ?_
  obtain ⟨v3, M4, e5, h⟩ := bd2E h
  refine X.callW (v := some (.int v3)) (As := [.ref a1, .int v1, .ref a3]) (st := []) (M' := M4) (pc' := 596) dL_law_593 rfl cw_L_149 ⟨⟨Nat.le_of_ble_eq_true rfl, Nat.le_of_ble_eq_true rfl⟩, (by show kk + 0 + 2 ≤ 601024; omega), (by show nn + 0 + 12 ≤ 7293033; omega)⟩ rfl (Nat.le_of_ble_eq_true rfl) (ok_L_removeArc (G := zs G) (hz := hz) e5) ?_
  show X G t_L_law [] 596 [some (.ref 3000000), some (.ref a1), some (.ref a2), some (.ref a3), some (.ref a4), some (.int a5), none, none] [.int v3] M4 (kk + 2) (nn + 12) _
  refine X.istore (L' := [some (.ref 3000000), some (.ref a1), some (.ref a2), some (.ref a3), some (.ref a4), some (.int a5), some (.int v3), none]) (pc' := 598) dL_law_596 rfl (Nat.le_of_ble_eq_true rfl) rfl ?_
  refine X.aload_n (x := a2) (pc' := 599) dL_law_598 rfl rfl rfl ?_
  refine X.aload_n (x := 3000000) (pc' := 600) dL_law_599 rfl rfl rfl ?_
  refine X.iload (x := a5) (pc' := 602) dL_law_600 rfl rfl ?_
  refine X.iconst (v := 1) (pc' := 603) dL_law_602 rfl (by decide) ?_
  refine X.iadd (pc' := 604) dL_law_603 rfl ?_
  obtain ⟨v7, e8, h⟩ := bindE h
  refine X.sld (pc' := 605) dL_law_604 rfl (by rw [hX]; exact e8) ?_
  obtain ⟨⟨⟩, e12, h⟩ := bindE h
  obtain ⟨v9, M10, e11, h⟩ := bd2E h
  refine X.callV (b := a2) (v := some (.int v9)) (As := [.int v7]) (st := []) (M' := M10) (pc' := 608) dL_law_605 rfl cl_L_151 mi_X11_removeArc me_X11_removeArc mr_X11_removeArc e12 ⟨⟨Nat.le_of_ble_eq_true rfl, Nat.le_of_ble_eq_true rfl⟩, (by show kk + 2 + 0 ≤ 601024; omega), (by show nn + 12 + 0 ≤ 7293033; omega)⟩ rfl (Nat.le_of_ble_eq_true rfl) (ok_X11_removeArc (G := zs G) e11) ?_
  show X G t_L_law [] 608 [some (.ref 3000000), some (.ref a1), some (.ref a2), some (.ref a3), some (.ref a4), some (.int a5), some (.int v3), none] [.int v9] M10 (kk + 2) (nn + 12) _
  refine X.istore (L' := [some (.ref 3000000), some (.ref a1), some (.ref a2), some (.ref a3), some (.ref a4), some (.int a5), some (.int v3), some (.int v9)]) (pc' := 610) dL_law_608 rfl (Nat.le_of_ble_eq_true rfl) rfl ?_
  refine X.aload_n (x := a2) (pc' := 611) dL_law_610 rfl rfl rfl ?_
  obtain ⟨⟨⟩, e16, h⟩ := bindE h
  obtain ⟨v13, M14, e15, h⟩ := bd2E h
  refine X.callV (b := a2) (v := some (.int v13)) (As := []) (st := []) (M' := M14) (pc' := 614) dL_law_611 rfl cl_L_127 mi_X11_thrown me_X11_thrown mr_X11_thrown e16 ⟨⟨Nat.le_of_ble_eq_true rfl, Nat.le_of_ble_eq_true rfl⟩, (by show kk + 2 + 0 ≤ 601024; omega), (by show nn + 12 + 0 ≤ 7293033; omega)⟩ rfl (Nat.le_of_ble_eq_true rfl) (ok_X11_thrown (G := zs G) e15) ?_
  show X G t_L_law [] 614 [some (.ref 3000000), some (.ref a1), some (.ref a2), some (.ref a3), some (.ref a4), some (.int a5), some (.int v3), some (.int v9)] [.int v13] M14 (kk + 2) (nn + 12) _
  refine X.iload (x := v3) (pc' := 616) dL_law_614 rfl rfl ?_
  refine X.icmp_eq (tgt := 621) (pc' := 619) dL_law_616 (by decide) rfl (fun hc => ?_) (fun hc => ?_)
  · rw [if_pos hc] at h
    refine X.iload (x := v3) (pc' := 623) dL_law_621 rfl rfl ?_
    refine X.if_ne (tgt := 638) (pc' := 626) dL_law_623 (by decide) rfl (fun hc => ?_) (fun hc => ?_)
    · rw [if_neg hc] at h
      refine X.goto (pc' := 2157) dL_law_638 (by decide) ?_
      refine X.sub (L := [some (.ref 3000000), some (.ref a1), some (.ref a2), some (.ref a3), some (.ref a4), some (.int a5), none, none]) ?_ (⟨rfl, ⟨rfl, ⟨rfl, ⟨rfl, ⟨rfl, ⟨rfl, trivial⟩⟩⟩⟩⟩⟩)
      refine X.widen (k' := kk + 4) (n' := nn + 24) (by omega) (by omega) ?_
      exact hk _ h
    · rw [if_pos hc] at h
      refine X.aload_n (x := a3) (pc' := 627) dL_law_626 rfl rfl rfl ?_
      refine X.iconst (v := 0) (pc' := 628) dL_law_627 rfl (by decide) ?_
      obtain ⟨v18, e17, h⟩ := bindE h
      refine X.lald (pc' := 629) dL_law_628 rfl e17 ?_
      refine X.iload (x := v9) (pc' := 631) dL_law_629 rfl rfl ?_
      refine X.i2l (pc' := 632) dL_law_631 rfl ?_
      refine X.lcmp (pc' := 633) dL_law_632 rfl ?_
      refine X.if_eq (tgt := 638) (pc' := 636) dL_law_633 (by decide) rfl (fun hc => ?_) (fun hc => ?_)
      · rw [if_pos hc] at h
        refine X.goto (pc' := 2157) dL_law_638 (by decide) ?_
        refine X.sub (L := [some (.ref 3000000), some (.ref a1), some (.ref a2), some (.ref a3), some (.ref a4), some (.int a5), none, none]) ?_ (⟨rfl, ⟨rfl, ⟨rfl, ⟨rfl, ⟨rfl, ⟨rfl, trivial⟩⟩⟩⟩⟩⟩)
        refine X.widen (k' := kk + 4) (n' := nn + 24) (by omega) (by omega) ?_
        exact hk _ h
      · rw [if_neg hc] at h
        refine X.iconst (v := 0) (pc' := 637) dL_law_636 rfl (by decide) ?_
        cases h
        exact X.iret (ty := .boolean) dL_law_637 rfl (by decide) (by show kk + 2 ≤ 601024; omega) (by show nn + 12 ≤ 7293033; omega) rfl
  · rw [if_neg hc] at h
    refine X.iconst (v := 0) (pc' := 620) dL_law_619 rfl (by decide) ?_
    cases h
    exact X.iret (ty := .boolean) dL_law_620 rfl (by decide) (by show kk + 2 ≤ 601024; omega) (by show nn + 12 ≤ 7293033; omega) rfl
def g_7 (fu : Nat) (xs : List Int32) (a1 a2 a3 a4 : Nat) (a5 : Int32) (M : List Ob) (k : List Ob → Option (Int32 × List Ob)) : Option (Int32 × List Ob) :=
  (sGet xs (a5 + 1)).bind fun v1 =>
  (sGet xs (a5 + 2)).bind fun v3 =>
  (sGet xs (a5 + 3)).bind fun v5 =>
  bd2 (f_L_setArc fu a1 v1 v3 v5 a3 M) fun v7 M8 =>
  (sGet xs (a5 + 1)).bind fun v11 =>
  (sGet xs (a5 + 2)).bind fun v13 =>
  (sGet xs (a5 + 3)).bind fun v15 =>
  (hasO M8 a2 11).bind fun _ =>
  bd2 (f_X11_setArc fu a2 v11 v13 v15 M8) fun v17 M18 =>
  (hasO M18 a2 11).bind fun _ =>
  bd2 (f_X11_thrown fu a2 M18) fun v21 M22 =>
  if v21 = v7 then (if v7 = 0 then ((aJ M22 a3 0).bind fun v26 =>
  if (lg_cmp v26 ((v17 : Int32).toInt64)) = 0 then (k M22)
  else (some (0, M22)))
  else (k M22))
  else (some (0, M22))
set_option maxHeartbeats 4000000 in
theorem okg_7 {G : GT} (hz : gZ G = false) {fu : Nat} {xs : List Int32} (hX : gX G = xs) {a1 a2 a3 a4 : Nat} {a5 : Int32} {M : List Ob} {kk nn : Nat} (hkk : kk + 8 ≤ 601024) (hnn : nn + 48 ≤ 7293033) {k : List Ob → Option (Int32 × List Ob)} {out : Int32 × List Ob} (hk : ∀ M, k M = some out → X G t_L_law [] 2157 [some (.ref 3000000), some (.ref a1), some (.ref a2), some (.ref a3), some (.ref a4), some (.int a5), none, none] [] M (kk + 4) (nn + 24) (oI out)) (h : g_7 fu xs a1 a2 a3 a4 a5 M k = some out) : X G t_L_law [] 641 [some (.ref 3000000), some (.ref a1), some (.ref a2), some (.ref a3), some (.ref a4), some (.int a5), none, none] [] M (kk + 0) (nn + 0) (oI out) := by
  unfold g_7 at h
  refine X.aload_n (x := a1) (pc' := 642) dL_law_641 rfl rfl rfl ?_
  refine X.aload_n (x := 3000000) (pc' := 643) dL_law_642 rfl rfl rfl ?_
  refine X.iload (x := a5) (pc' := 645) dL_law_643 rfl rfl ?_
  refine X.iconst (v := 1) (pc' := 646) dL_law_645 rfl (by decide) ?_
  refine X.iadd (pc' := 647) dL_law_646 rfl ?_
  obtain ⟨v1, e2, h⟩ := bindE h
  refine X.sld (pc' := 648) dL_law_647 rfl (by rw [hX]; exact e2) ?_
  refine X.aload_n (x := 3000000) (pc' := 649) dL_law_648 rfl rfl rfl ?_
  refine X.iload (x := a5) (pc' := 651) dL_law_649 rfl rfl ?_
  refine X.iconst (v := 2) (pc' := 652) dL_law_651 rfl (by decide) ?_
  refine X.iadd (pc' := 653) dL_law_652 rfl ?_
  obtain ⟨v3, e4, h⟩ := bindE h
  refine X.sld (pc' := 654) dL_law_653 rfl (by rw [hX]; exact e4) ?_
  refine X.aload_n (x := 3000000) (pc' := 655) dL_law_654 rfl rfl rfl ?_
  refine X.iload (x := a5) (pc' := 657) dL_law_655 rfl rfl ?_
  refine X.iconst (v := 3) (pc' := 658) dL_law_657 rfl (by decide) ?_
  refine X.iadd (pc' := 659) dL_law_658 rfl ?_
  obtain ⟨v5, e6, h⟩ := bindE h
  refine X.sld (pc' := 660) dL_law_659 rfl (by rw [hX]; exact e6) ?_
  refine X.aload_n (x := a3) (pc' := 661) dL_law_660 rfl rfl rfl ?_
  obtain ⟨v7, M8, e9, h⟩ := bd2E h
  refine X.callW (v := some (.int v7)) (As := [.ref a1, .int v1, .int v3, .int v5, .ref a3]) (st := []) (M' := M8) (pc' := 664) dL_law_661 rfl cw_L_152 ⟨⟨Nat.le_of_ble_eq_true rfl, Nat.le_of_ble_eq_true rfl⟩, (by show kk + 0 + 2 ≤ 601024; omega), (by show nn + 0 + 12 ≤ 7293033; omega)⟩ rfl (Nat.le_of_ble_eq_true rfl) (ok_L_setArc (G := zs G) (hz := hz) e9) ?_
  show X G t_L_law [] 664 [some (.ref 3000000), some (.ref a1), some (.ref a2), some (.ref a3), some (.ref a4), some (.int a5), none, none] [.int v7] M8 (kk + 2) (nn + 12) _
  refine X.istore (L' := [some (.ref 3000000), some (.ref a1), some (.ref a2), some (.ref a3), some (.ref a4), some (.int a5), some (.int v7), none]) (pc' := 666) dL_law_664 rfl (Nat.le_of_ble_eq_true rfl) rfl ?_
  refine X.aload_n (x := a2) (pc' := 667) dL_law_666 rfl rfl rfl ?_
  refine X.aload_n (x := 3000000) (pc' := 668) dL_law_667 rfl rfl rfl ?_
  refine X.iload (x := a5) (pc' := 670) dL_law_668 rfl rfl ?_
  refine X.iconst (v := 1) (pc' := 671) dL_law_670 rfl (by decide) ?_
  refine X.iadd (pc' := 672) dL_law_671 rfl ?_
  obtain ⟨v11, e12, h⟩ := bindE h
  refine X.sld (pc' := 673) dL_law_672 rfl (by rw [hX]; exact e12) ?_
  refine X.aload_n (x := 3000000) (pc' := 674) dL_law_673 rfl rfl rfl ?_
  refine X.iload (x := a5) (pc' := 676) dL_law_674 rfl rfl ?_
  refine X.iconst (v := 2) (pc' := 677) dL_law_676 rfl (by decide) ?_
  refine X.iadd (pc' := 678) dL_law_677 rfl ?_
  obtain ⟨v13, e14, h⟩ := bindE h
  refine X.sld (pc' := 679) dL_law_678 rfl (by rw [hX]; exact e14) ?_
  refine X.aload_n (x := 3000000) (pc' := 680) dL_law_679 rfl rfl rfl ?_
  refine X.iload (x := a5) (pc' := 682) dL_law_680 rfl rfl ?_
  refine X.iconst (v := 3) (pc' := 683) dL_law_682 rfl (by decide) ?_
  refine X.iadd (pc' := 684) dL_law_683 rfl ?_
  obtain ⟨v15, e16, h⟩ := bindE h
  refine X.sld (pc' := 685) dL_law_684 rfl (by rw [hX]; exact e16) ?_
  obtain ⟨⟨⟩, e20, h⟩ := bindE h
  obtain ⟨v17, M18, e19, h⟩ := bd2E h
  refine X.callV (b := a2) (v := some (.int v17)) (As := [.int v11, .int v13, .int v15]) (st := []) (M' := M18) (pc' := 688) dL_law_685 rfl cl_L_155 mi_X11_setArc me_X11_setArc mr_X11_setArc e20 ⟨⟨Nat.le_of_ble_eq_true rfl, Nat.le_of_ble_eq_true rfl⟩, (by show kk + 2 + 0 ≤ 601024; omega), (by show nn + 12 + 0 ≤ 7293033; omega)⟩ rfl (Nat.le_of_ble_eq_true rfl) (ok_X11_setArc (G := zs G) e19) ?_
  show X G t_L_law [] 688 [some (.ref 3000000), some (.ref a1), some (.ref a2), some (.ref a3), some (.ref a4), some (.int a5), some (.int v7), none] [.int v17] M18 (kk + 2) (nn + 12) _
  refine X.istore (L' := [some (.ref 3000000), some (.ref a1), some (.ref a2), some (.ref a3), some (.ref a4), some (.int a5), some (.int v7), some (.int v17)]) (pc' := 690) dL_law_688 rfl (Nat.le_of_ble_eq_true rfl) rfl ?_
  refine X.aload_n (x := a2) (pc' := 691) dL_law_690 rfl rfl rfl ?_
  obtain ⟨⟨⟩, e24, h⟩ := bindE h
  obtain ⟨v21, M22, e23, h⟩ := bd2E h
  refine X.callV (b := a2) (v := some (.int v21)) (As := []) (st := []) (M' := M22) (pc' := 694) dL_law_691 rfl cl_L_127 mi_X11_thrown me_X11_thrown mr_X11_thrown e24 ⟨⟨Nat.le_of_ble_eq_true rfl, Nat.le_of_ble_eq_true rfl⟩, (by show kk + 2 + 0 ≤ 601024; omega), (by show nn + 12 + 0 ≤ 7293033; omega)⟩ rfl (Nat.le_of_ble_eq_true rfl) (ok_X11_thrown (G := zs G) e23) ?_
  show X G t_L_law [] 694 [some (.ref 3000000), some (.ref a1), some (.ref a2), some (.ref a3), some (.ref a4), some (.int a5), some (.int v7), some (.int v17)] [.int v21] M22 (kk + 2) (nn + 12) _
  refine X.iload (x := v7) (pc' := 696) dL_law_694 rfl rfl ?_
  refine X.icmp_eq (tgt := 701) (pc' := 699) dL_law_696 (by decide) rfl (fun hc => ?_) (fun hc => ?_)
  · rw [if_pos hc] at h
    refine X.iload (x := v7) (pc' := 703) dL_law_701 rfl rfl ?_
    refine X.if_ne (tgt := 718) (pc' := 706) dL_law_703 (by decide) rfl (fun hc => ?_) (fun hc => ?_)
    · rw [if_neg hc] at h
      refine X.goto (pc' := 2157) dL_law_718 (by decide) ?_
      refine X.sub (L := [some (.ref 3000000), some (.ref a1), some (.ref a2), some (.ref a3), some (.ref a4), some (.int a5), none, none]) ?_ (⟨rfl, ⟨rfl, ⟨rfl, ⟨rfl, ⟨rfl, ⟨rfl, trivial⟩⟩⟩⟩⟩⟩)
      refine X.widen (k' := kk + 4) (n' := nn + 24) (by omega) (by omega) ?_
      exact hk _ h
    · rw [if_pos hc] at h
      refine X.aload_n (x := a3) (pc' := 707) dL_law_706 rfl rfl rfl ?_
      refine X.iconst (v := 0) (pc' := 708) dL_law_707 rfl (by decide) ?_
      obtain ⟨v26, e25, h⟩ := bindE h
      refine X.lald (pc' := 709) dL_law_708 rfl e25 ?_
      refine X.iload (x := v17) (pc' := 711) dL_law_709 rfl rfl ?_
      refine X.i2l (pc' := 712) dL_law_711 rfl ?_
      refine X.lcmp (pc' := 713) dL_law_712 rfl ?_
      refine X.if_eq (tgt := 718) (pc' := 716) dL_law_713 (by decide) rfl (fun hc => ?_) (fun hc => ?_)
      · rw [if_pos hc] at h
        refine X.goto (pc' := 2157) dL_law_718 (by decide) ?_
        refine X.sub (L := [some (.ref 3000000), some (.ref a1), some (.ref a2), some (.ref a3), some (.ref a4), some (.int a5), none, none]) ?_ (⟨rfl, ⟨rfl, ⟨rfl, ⟨rfl, ⟨rfl, ⟨rfl, trivial⟩⟩⟩⟩⟩⟩)
        refine X.widen (k' := kk + 4) (n' := nn + 24) (by omega) (by omega) ?_
        exact hk _ h
      · rw [if_neg hc] at h
        refine X.iconst (v := 0) (pc' := 717) dL_law_716 rfl (by decide) ?_
        cases h
        exact X.iret (ty := .boolean) dL_law_717 rfl (by decide) (by show kk + 2 ≤ 601024; omega) (by show nn + 12 ≤ 7293033; omega) rfl
  · rw [if_neg hc] at h
    refine X.iconst (v := 0) (pc' := 700) dL_law_699 rfl (by decide) ?_
    cases h
    exact X.iret (ty := .boolean) dL_law_700 rfl (by decide) (by show kk + 2 ≤ 601024; omega) (by show nn + 12 ≤ 7293033; omega) rfl
def g_8 (fu : Nat) (xs : List Int32) (a1 a2 a3 a4 : Nat) (a5 : Int32) (M : List Ob) (k : List Ob → Option (Int32 × List Ob)) : Option (Int32 × List Ob) :=
  (sGet xs (a5 + 1)).bind fun v1 =>
  bd2 (f_L_setBudget fu a1 v1 a3 M) fun v3 M4 =>
  (sGet xs (a5 + 1)).bind fun v7 =>
  (hasO M4 a2 11).bind fun _ =>
  bd2 (f_X11_setBudget fu a2 v7 M4) fun v9 M10 =>
  (hasO M10 a2 11).bind fun _ =>
  bd2 (f_X11_thrown fu a2 M10) fun v13 M14 =>
  if v13 = v3 then (if v3 = 0 then ((aJ M14 a3 0).bind fun v18 =>
  if (lg_cmp v18 ((v9 : Int32).toInt64)) = 0 then (k M14)
  else (some (0, M14)))
  else (k M14))
  else (some (0, M14))
set_option maxHeartbeats 4000000 in
theorem okg_8 {G : GT} (hz : gZ G = false) {fu : Nat} {xs : List Int32} (hX : gX G = xs) {a1 a2 a3 a4 : Nat} {a5 : Int32} {M : List Ob} {kk nn : Nat} (hkk : kk + 8 ≤ 601024) (hnn : nn + 48 ≤ 7293033) {k : List Ob → Option (Int32 × List Ob)} {out : Int32 × List Ob} (hk : ∀ M, k M = some out → X G t_L_law [] 2157 [some (.ref 3000000), some (.ref a1), some (.ref a2), some (.ref a3), some (.ref a4), some (.int a5), none, none] [] M (kk + 4) (nn + 24) (oI out)) (h : g_8 fu xs a1 a2 a3 a4 a5 M k = some out) : X G t_L_law [] 721 [some (.ref 3000000), some (.ref a1), some (.ref a2), some (.ref a3), some (.ref a4), some (.int a5), none, none] [] M (kk + 0) (nn + 0) (oI out) := by
  unfold g_8 at h
  refine X.aload_n (x := a1) (pc' := 722) dL_law_721 rfl rfl rfl ?_
  refine X.aload_n (x := 3000000) (pc' := 723) dL_law_722 rfl rfl rfl ?_
  refine X.iload (x := a5) (pc' := 725) dL_law_723 rfl rfl ?_
  refine X.iconst (v := 1) (pc' := 726) dL_law_725 rfl (by decide) ?_
  refine X.iadd (pc' := 727) dL_law_726 rfl ?_
  obtain ⟨v1, e2, h⟩ := bindE h
  refine X.sld (pc' := 728) dL_law_727 rfl (by rw [hX]; exact e2) ?_
  refine X.aload_n (x := a3) (pc' := 729) dL_law_728 rfl rfl rfl ?_
  obtain ⟨v3, M4, e5, h⟩ := bd2E h
  refine X.callW (v := some (.int v3)) (As := [.ref a1, .int v1, .ref a3]) (st := []) (M' := M4) (pc' := 732) dL_law_729 rfl cw_L_156 ⟨⟨Nat.le_of_ble_eq_true rfl, Nat.le_of_ble_eq_true rfl⟩, (by show kk + 0 + 1 ≤ 601024; omega), (by show nn + 0 + 6 ≤ 7293033; omega)⟩ rfl (Nat.le_of_ble_eq_true rfl) (ok_L_setBudget (G := zs G) (hz := hz) e5) ?_
  show X G t_L_law [] 732 [some (.ref 3000000), some (.ref a1), some (.ref a2), some (.ref a3), some (.ref a4), some (.int a5), none, none] [.int v3] M4 (kk + 1) (nn + 6) _
  refine X.istore (L' := [some (.ref 3000000), some (.ref a1), some (.ref a2), some (.ref a3), some (.ref a4), some (.int a5), some (.int v3), none]) (pc' := 734) dL_law_732 rfl (Nat.le_of_ble_eq_true rfl) rfl ?_
  refine X.aload_n (x := a2) (pc' := 735) dL_law_734 rfl rfl rfl ?_
  refine X.aload_n (x := 3000000) (pc' := 736) dL_law_735 rfl rfl rfl ?_
  refine X.iload (x := a5) (pc' := 738) dL_law_736 rfl rfl ?_
  refine X.iconst (v := 1) (pc' := 739) dL_law_738 rfl (by decide) ?_
  refine X.iadd (pc' := 740) dL_law_739 rfl ?_
  obtain ⟨v7, e8, h⟩ := bindE h
  refine X.sld (pc' := 741) dL_law_740 rfl (by rw [hX]; exact e8) ?_
  obtain ⟨⟨⟩, e12, h⟩ := bindE h
  obtain ⟨v9, M10, e11, h⟩ := bd2E h
  refine X.callV (b := a2) (v := some (.int v9)) (As := [.int v7]) (st := []) (M' := M10) (pc' := 744) dL_law_741 rfl cl_L_158 mi_X11_setBudget me_X11_setBudget mr_X11_setBudget e12 ⟨⟨Nat.le_of_ble_eq_true rfl, Nat.le_of_ble_eq_true rfl⟩, (by show kk + 1 + 0 ≤ 601024; omega), (by show nn + 6 + 0 ≤ 7293033; omega)⟩ rfl (Nat.le_of_ble_eq_true rfl) (ok_X11_setBudget (G := zs G) e11) ?_
  show X G t_L_law [] 744 [some (.ref 3000000), some (.ref a1), some (.ref a2), some (.ref a3), some (.ref a4), some (.int a5), some (.int v3), none] [.int v9] M10 (kk + 1) (nn + 6) _
  refine X.istore (L' := [some (.ref 3000000), some (.ref a1), some (.ref a2), some (.ref a3), some (.ref a4), some (.int a5), some (.int v3), some (.int v9)]) (pc' := 746) dL_law_744 rfl (Nat.le_of_ble_eq_true rfl) rfl ?_
  refine X.aload_n (x := a2) (pc' := 747) dL_law_746 rfl rfl rfl ?_
  obtain ⟨⟨⟩, e16, h⟩ := bindE h
  obtain ⟨v13, M14, e15, h⟩ := bd2E h
  refine X.callV (b := a2) (v := some (.int v13)) (As := []) (st := []) (M' := M14) (pc' := 750) dL_law_747 rfl cl_L_127 mi_X11_thrown me_X11_thrown mr_X11_thrown e16 ⟨⟨Nat.le_of_ble_eq_true rfl, Nat.le_of_ble_eq_true rfl⟩, (by show kk + 1 + 0 ≤ 601024; omega), (by show nn + 6 + 0 ≤ 7293033; omega)⟩ rfl (Nat.le_of_ble_eq_true rfl) (ok_X11_thrown (G := zs G) e15) ?_
  show X G t_L_law [] 750 [some (.ref 3000000), some (.ref a1), some (.ref a2), some (.ref a3), some (.ref a4), some (.int a5), some (.int v3), some (.int v9)] [.int v13] M14 (kk + 1) (nn + 6) _
  refine X.iload (x := v3) (pc' := 752) dL_law_750 rfl rfl ?_
  refine X.icmp_eq (tgt := 757) (pc' := 755) dL_law_752 (by decide) rfl (fun hc => ?_) (fun hc => ?_)
  · rw [if_pos hc] at h
    refine X.iload (x := v3) (pc' := 759) dL_law_757 rfl rfl ?_
    refine X.if_ne (tgt := 774) (pc' := 762) dL_law_759 (by decide) rfl (fun hc => ?_) (fun hc => ?_)
    · rw [if_neg hc] at h
      refine X.goto (pc' := 2157) dL_law_774 (by decide) ?_
      refine X.sub (L := [some (.ref 3000000), some (.ref a1), some (.ref a2), some (.ref a3), some (.ref a4), some (.int a5), none, none]) ?_ (⟨rfl, ⟨rfl, ⟨rfl, ⟨rfl, ⟨rfl, ⟨rfl, trivial⟩⟩⟩⟩⟩⟩)
      refine X.widen (k' := kk + 4) (n' := nn + 24) (by omega) (by omega) ?_
      exact hk _ h
    · rw [if_pos hc] at h
      refine X.aload_n (x := a3) (pc' := 763) dL_law_762 rfl rfl rfl ?_
      refine X.iconst (v := 0) (pc' := 764) dL_law_763 rfl (by decide) ?_
      obtain ⟨v18, e17, h⟩ := bindE h
      refine X.lald (pc' := 765) dL_law_764 rfl e17 ?_
      refine X.iload (x := v9) (pc' := 767) dL_law_765 rfl rfl ?_
      refine X.i2l (pc' := 768) dL_law_767 rfl ?_
      refine X.lcmp (pc' := 769) dL_law_768 rfl ?_
      refine X.if_eq (tgt := 774) (pc' := 772) dL_law_769 (by decide) rfl (fun hc => ?_) (fun hc => ?_)
      · rw [if_pos hc] at h
        refine X.goto (pc' := 2157) dL_law_774 (by decide) ?_
        refine X.sub (L := [some (.ref 3000000), some (.ref a1), some (.ref a2), some (.ref a3), some (.ref a4), some (.int a5), none, none]) ?_ (⟨rfl, ⟨rfl, ⟨rfl, ⟨rfl, ⟨rfl, ⟨rfl, trivial⟩⟩⟩⟩⟩⟩)
        refine X.widen (k' := kk + 4) (n' := nn + 24) (by omega) (by omega) ?_
        exact hk _ h
      · rw [if_neg hc] at h
        refine X.iconst (v := 0) (pc' := 773) dL_law_772 rfl (by decide) ?_
        cases h
        exact X.iret (ty := .boolean) dL_law_773 rfl (by decide) (by show kk + 1 ≤ 601024; omega) (by show nn + 6 ≤ 7293033; omega) rfl
  · rw [if_neg hc] at h
    refine X.iconst (v := 0) (pc' := 756) dL_law_755 rfl (by decide) ?_
    cases h
    exact X.iret (ty := .boolean) dL_law_756 rfl (by decide) (by show kk + 1 ≤ 601024; omega) (by show nn + 6 ≤ 7293033; omega) rfl
def g_9 (fu : Nat) (xs : List Int32) (a1 a2 a3 a4 : Nat) (a5 : Int32) (M : List Ob) (k : List Ob → Option (Int32 × List Ob)) : Option (Int32 × List Ob) :=
  (sGet xs (a5 + 1)).bind fun v1 =>
  bd2 (f_L_draft fu a1 v1 a3 M) fun v3 M4 =>
  (sGet xs (a5 + 1)).bind fun v7 =>
  (hasO M4 a2 11).bind fun _ =>
  bd2 (f_X11_draft fu a2 v7 M4) fun v9 M10 =>
  (hasO M10 a2 11).bind fun _ =>
  bd2 (f_X11_thrown fu a2 M10) fun v13 M14 =>
  if v13 = v3 then (if v3 = 0 then ((aJ M14 a3 0).bind fun v18 =>
  if (lg_cmp v18 ((v9 : Int32).toInt64)) = 0 then (k M14)
  else (some (0, M14)))
  else (k M14))
  else (some (0, M14))
set_option maxHeartbeats 4000000 in
theorem okg_9 {G : GT} (hz : gZ G = false) {fu : Nat} {xs : List Int32} (hX : gX G = xs) {a1 a2 a3 a4 : Nat} {a5 : Int32} {M : List Ob} {kk nn : Nat} (hkk : kk + 8 ≤ 601024) (hnn : nn + 48 ≤ 7293033) {k : List Ob → Option (Int32 × List Ob)} {out : Int32 × List Ob} (hk : ∀ M, k M = some out → X G t_L_law [] 2157 [some (.ref 3000000), some (.ref a1), some (.ref a2), some (.ref a3), some (.ref a4), some (.int a5), none, none] [] M (kk + 4) (nn + 24) (oI out)) (h : g_9 fu xs a1 a2 a3 a4 a5 M k = some out) : X G t_L_law [] 777 [some (.ref 3000000), some (.ref a1), some (.ref a2), some (.ref a3), some (.ref a4), some (.int a5), none, none] [] M (kk + 0) (nn + 0) (oI out) := by
  unfold g_9 at h
  refine X.aload_n (x := a1) (pc' := 778) dL_law_777 rfl rfl rfl ?_
  refine X.aload_n (x := 3000000) (pc' := 779) dL_law_778 rfl rfl rfl ?_
  refine X.iload (x := a5) (pc' := 781) dL_law_779 rfl rfl ?_
  refine X.iconst (v := 1) (pc' := 782) dL_law_781 rfl (by decide) ?_
  refine X.iadd (pc' := 783) dL_law_782 rfl ?_
  obtain ⟨v1, e2, h⟩ := bindE h
  refine X.sld (pc' := 784) dL_law_783 rfl (by rw [hX]; exact e2) ?_
  refine X.aload_n (x := a3) (pc' := 785) dL_law_784 rfl rfl rfl ?_
  obtain ⟨v3, M4, e5, h⟩ := bd2E h
  refine X.callW (v := some (.int v3)) (As := [.ref a1, .int v1, .ref a3]) (st := []) (M' := M4) (pc' := 788) dL_law_785 rfl cw_L_159 ⟨⟨Nat.le_of_ble_eq_true rfl, Nat.le_of_ble_eq_true rfl⟩, (by show kk + 0 + 2 ≤ 601024; omega), (by show nn + 0 + 12 ≤ 7293033; omega)⟩ rfl (Nat.le_of_ble_eq_true rfl) (ok_L_draft (G := zs G) (hz := hz) e5) ?_
  show X G t_L_law [] 788 [some (.ref 3000000), some (.ref a1), some (.ref a2), some (.ref a3), some (.ref a4), some (.int a5), none, none] [.int v3] M4 (kk + 2) (nn + 12) _
  refine X.istore (L' := [some (.ref 3000000), some (.ref a1), some (.ref a2), some (.ref a3), some (.ref a4), some (.int a5), some (.int v3), none]) (pc' := 790) dL_law_788 rfl (Nat.le_of_ble_eq_true rfl) rfl ?_
  refine X.aload_n (x := a2) (pc' := 791) dL_law_790 rfl rfl rfl ?_
  refine X.aload_n (x := 3000000) (pc' := 792) dL_law_791 rfl rfl rfl ?_
  refine X.iload (x := a5) (pc' := 794) dL_law_792 rfl rfl ?_
  refine X.iconst (v := 1) (pc' := 795) dL_law_794 rfl (by decide) ?_
  refine X.iadd (pc' := 796) dL_law_795 rfl ?_
  obtain ⟨v7, e8, h⟩ := bindE h
  refine X.sld (pc' := 797) dL_law_796 rfl (by rw [hX]; exact e8) ?_
  obtain ⟨⟨⟩, e12, h⟩ := bindE h
  obtain ⟨v9, M10, e11, h⟩ := bd2E h
  refine X.callV (b := a2) (v := some (.int v9)) (As := [.int v7]) (st := []) (M' := M10) (pc' := 800) dL_law_797 rfl cl_L_161 mi_X11_draft me_X11_draft mr_X11_draft e12 ⟨⟨Nat.le_of_ble_eq_true rfl, Nat.le_of_ble_eq_true rfl⟩, (by show kk + 2 + 0 ≤ 601024; omega), (by show nn + 12 + 0 ≤ 7293033; omega)⟩ rfl (Nat.le_of_ble_eq_true rfl) (ok_X11_draft (G := zs G) e11) ?_
  show X G t_L_law [] 800 [some (.ref 3000000), some (.ref a1), some (.ref a2), some (.ref a3), some (.ref a4), some (.int a5), some (.int v3), none] [.int v9] M10 (kk + 2) (nn + 12) _
  refine X.istore (L' := [some (.ref 3000000), some (.ref a1), some (.ref a2), some (.ref a3), some (.ref a4), some (.int a5), some (.int v3), some (.int v9)]) (pc' := 802) dL_law_800 rfl (Nat.le_of_ble_eq_true rfl) rfl ?_
  refine X.aload_n (x := a2) (pc' := 803) dL_law_802 rfl rfl rfl ?_
  obtain ⟨⟨⟩, e16, h⟩ := bindE h
  obtain ⟨v13, M14, e15, h⟩ := bd2E h
  refine X.callV (b := a2) (v := some (.int v13)) (As := []) (st := []) (M' := M14) (pc' := 806) dL_law_803 rfl cl_L_127 mi_X11_thrown me_X11_thrown mr_X11_thrown e16 ⟨⟨Nat.le_of_ble_eq_true rfl, Nat.le_of_ble_eq_true rfl⟩, (by show kk + 2 + 0 ≤ 601024; omega), (by show nn + 12 + 0 ≤ 7293033; omega)⟩ rfl (Nat.le_of_ble_eq_true rfl) (ok_X11_thrown (G := zs G) e15) ?_
  show X G t_L_law [] 806 [some (.ref 3000000), some (.ref a1), some (.ref a2), some (.ref a3), some (.ref a4), some (.int a5), some (.int v3), some (.int v9)] [.int v13] M14 (kk + 2) (nn + 12) _
  refine X.iload (x := v3) (pc' := 808) dL_law_806 rfl rfl ?_
  refine X.icmp_eq (tgt := 813) (pc' := 811) dL_law_808 (by decide) rfl (fun hc => ?_) (fun hc => ?_)
  · rw [if_pos hc] at h
    refine X.iload (x := v3) (pc' := 815) dL_law_813 rfl rfl ?_
    refine X.if_ne (tgt := 830) (pc' := 818) dL_law_815 (by decide) rfl (fun hc => ?_) (fun hc => ?_)
    · rw [if_neg hc] at h
      refine X.goto (pc' := 2157) dL_law_830 (by decide) ?_
      refine X.sub (L := [some (.ref 3000000), some (.ref a1), some (.ref a2), some (.ref a3), some (.ref a4), some (.int a5), none, none]) ?_ (⟨rfl, ⟨rfl, ⟨rfl, ⟨rfl, ⟨rfl, ⟨rfl, trivial⟩⟩⟩⟩⟩⟩)
      refine X.widen (k' := kk + 4) (n' := nn + 24) (by omega) (by omega) ?_
      exact hk _ h
    · rw [if_pos hc] at h
      refine X.aload_n (x := a3) (pc' := 819) dL_law_818 rfl rfl rfl ?_
      refine X.iconst (v := 0) (pc' := 820) dL_law_819 rfl (by decide) ?_
      obtain ⟨v18, e17, h⟩ := bindE h
      refine X.lald (pc' := 821) dL_law_820 rfl e17 ?_
      refine X.iload (x := v9) (pc' := 823) dL_law_821 rfl rfl ?_
      refine X.i2l (pc' := 824) dL_law_823 rfl ?_
      refine X.lcmp (pc' := 825) dL_law_824 rfl ?_
      refine X.if_eq (tgt := 830) (pc' := 828) dL_law_825 (by decide) rfl (fun hc => ?_) (fun hc => ?_)
      · rw [if_pos hc] at h
        refine X.goto (pc' := 2157) dL_law_830 (by decide) ?_
        refine X.sub (L := [some (.ref 3000000), some (.ref a1), some (.ref a2), some (.ref a3), some (.ref a4), some (.int a5), none, none]) ?_ (⟨rfl, ⟨rfl, ⟨rfl, ⟨rfl, ⟨rfl, ⟨rfl, trivial⟩⟩⟩⟩⟩⟩)
        refine X.widen (k' := kk + 4) (n' := nn + 24) (by omega) (by omega) ?_
        exact hk _ h
      · rw [if_neg hc] at h
        refine X.iconst (v := 0) (pc' := 829) dL_law_828 rfl (by decide) ?_
        cases h
        exact X.iret (ty := .boolean) dL_law_829 rfl (by decide) (by show kk + 2 ≤ 601024; omega) (by show nn + 12 ≤ 7293033; omega) rfl
  · rw [if_neg hc] at h
    refine X.iconst (v := 0) (pc' := 812) dL_law_811 rfl (by decide) ?_
    cases h
    exact X.iret (ty := .boolean) dL_law_812 rfl (by decide) (by show kk + 2 ≤ 601024; omega) (by show nn + 12 ≤ 7293033; omega) rfl
def g_10 (fu : Nat) (xs : List Int32) (a1 a2 a3 a4 : Nat) (a5 : Int32) (M : List Ob) (k : List Ob → Option (Int32 × List Ob)) : Option (Int32 × List Ob) :=
  bd2 (f_L_drop fu a1 a3 M) fun v1 M2 =>
  (hasO M2 a2 11).bind fun _ =>
  bd2 (f_X11_drop fu a2 M2) fun v5 M6 =>
  (hasO M6 a2 11).bind fun _ =>
  bd2 (f_X11_thrown fu a2 M6) fun v9 M10 =>
  if v9 = v1 then (if v1 = 0 then ((aJ M10 a3 0).bind fun v14 =>
  if (lg_cmp v14 ((v5 : Int32).toInt64)) = 0 then (k M10)
  else (some (0, M10)))
  else (k M10))
  else (some (0, M10))
set_option maxHeartbeats 4000000 in
theorem okg_10 {G : GT} (hz : gZ G = false) {fu : Nat} {xs : List Int32} (hX : gX G = xs) {a1 a2 a3 a4 : Nat} {a5 : Int32} {M : List Ob} {kk nn : Nat} (hkk : kk + 8 ≤ 601024) (hnn : nn + 48 ≤ 7293033) {k : List Ob → Option (Int32 × List Ob)} {out : Int32 × List Ob} (hk : ∀ M, k M = some out → X G t_L_law [] 2157 [some (.ref 3000000), some (.ref a1), some (.ref a2), some (.ref a3), some (.ref a4), some (.int a5), none, none] [] M (kk + 4) (nn + 24) (oI out)) (h : g_10 fu xs a1 a2 a3 a4 a5 M k = some out) : X G t_L_law [] 833 [some (.ref 3000000), some (.ref a1), some (.ref a2), some (.ref a3), some (.ref a4), some (.int a5), none, none] [] M (kk + 0) (nn + 0) (oI out) := by
  unfold g_10 at h
  refine X.aload_n (x := a1) (pc' := 834) dL_law_833 rfl rfl rfl ?_
  refine X.aload_n (x := a3) (pc' := 835) dL_law_834 rfl rfl rfl ?_
  obtain ⟨v1, M2, e3, h⟩ := bd2E h
  refine X.callW (v := some (.int v1)) (As := [.ref a1, .ref a3]) (st := []) (M' := M2) (pc' := 838) dL_law_835 rfl cw_L_162 ⟨⟨Nat.le_of_ble_eq_true rfl, Nat.le_of_ble_eq_true rfl⟩, (by show kk + 0 + 1 ≤ 601024; omega), (by show nn + 0 + 6 ≤ 7293033; omega)⟩ rfl (Nat.le_of_ble_eq_true rfl) (ok_L_drop (G := zs G) (hz := hz) e3) ?_
  show X G t_L_law [] 838 [some (.ref 3000000), some (.ref a1), some (.ref a2), some (.ref a3), some (.ref a4), some (.int a5), none, none] [.int v1] M2 (kk + 1) (nn + 6) _
  refine X.istore (L' := [some (.ref 3000000), some (.ref a1), some (.ref a2), some (.ref a3), some (.ref a4), some (.int a5), some (.int v1), none]) (pc' := 840) dL_law_838 rfl (Nat.le_of_ble_eq_true rfl) rfl ?_
  refine X.aload_n (x := a2) (pc' := 841) dL_law_840 rfl rfl rfl ?_
  obtain ⟨⟨⟩, e8, h⟩ := bindE h
  obtain ⟨v5, M6, e7, h⟩ := bd2E h
  refine X.callV (b := a2) (v := some (.int v5)) (As := []) (st := []) (M' := M6) (pc' := 844) dL_law_841 rfl cl_L_165 mi_X11_drop me_X11_drop mr_X11_drop e8 ⟨⟨Nat.le_of_ble_eq_true rfl, Nat.le_of_ble_eq_true rfl⟩, (by show kk + 1 + 0 ≤ 601024; omega), (by show nn + 6 + 0 ≤ 7293033; omega)⟩ rfl (Nat.le_of_ble_eq_true rfl) (ok_X11_drop (G := zs G) e7) ?_
  show X G t_L_law [] 844 [some (.ref 3000000), some (.ref a1), some (.ref a2), some (.ref a3), some (.ref a4), some (.int a5), some (.int v1), none] [.int v5] M6 (kk + 1) (nn + 6) _
  refine X.istore (L' := [some (.ref 3000000), some (.ref a1), some (.ref a2), some (.ref a3), some (.ref a4), some (.int a5), some (.int v1), some (.int v5)]) (pc' := 846) dL_law_844 rfl (Nat.le_of_ble_eq_true rfl) rfl ?_
  refine X.aload_n (x := a2) (pc' := 847) dL_law_846 rfl rfl rfl ?_
  obtain ⟨⟨⟩, e12, h⟩ := bindE h
  obtain ⟨v9, M10, e11, h⟩ := bd2E h
  refine X.callV (b := a2) (v := some (.int v9)) (As := []) (st := []) (M' := M10) (pc' := 850) dL_law_847 rfl cl_L_127 mi_X11_thrown me_X11_thrown mr_X11_thrown e12 ⟨⟨Nat.le_of_ble_eq_true rfl, Nat.le_of_ble_eq_true rfl⟩, (by show kk + 1 + 0 ≤ 601024; omega), (by show nn + 6 + 0 ≤ 7293033; omega)⟩ rfl (Nat.le_of_ble_eq_true rfl) (ok_X11_thrown (G := zs G) e11) ?_
  show X G t_L_law [] 850 [some (.ref 3000000), some (.ref a1), some (.ref a2), some (.ref a3), some (.ref a4), some (.int a5), some (.int v1), some (.int v5)] [.int v9] M10 (kk + 1) (nn + 6) _
  refine X.iload (x := v1) (pc' := 852) dL_law_850 rfl rfl ?_
  refine X.icmp_eq (tgt := 857) (pc' := 855) dL_law_852 (by decide) rfl (fun hc => ?_) (fun hc => ?_)
  · rw [if_pos hc] at h
    refine X.iload (x := v1) (pc' := 859) dL_law_857 rfl rfl ?_
    refine X.if_ne (tgt := 874) (pc' := 862) dL_law_859 (by decide) rfl (fun hc => ?_) (fun hc => ?_)
    · rw [if_neg hc] at h
      refine X.goto (pc' := 2157) dL_law_874 (by decide) ?_
      refine X.sub (L := [some (.ref 3000000), some (.ref a1), some (.ref a2), some (.ref a3), some (.ref a4), some (.int a5), none, none]) ?_ (⟨rfl, ⟨rfl, ⟨rfl, ⟨rfl, ⟨rfl, ⟨rfl, trivial⟩⟩⟩⟩⟩⟩)
      refine X.widen (k' := kk + 4) (n' := nn + 24) (by omega) (by omega) ?_
      exact hk _ h
    · rw [if_pos hc] at h
      refine X.aload_n (x := a3) (pc' := 863) dL_law_862 rfl rfl rfl ?_
      refine X.iconst (v := 0) (pc' := 864) dL_law_863 rfl (by decide) ?_
      obtain ⟨v14, e13, h⟩ := bindE h
      refine X.lald (pc' := 865) dL_law_864 rfl e13 ?_
      refine X.iload (x := v5) (pc' := 867) dL_law_865 rfl rfl ?_
      refine X.i2l (pc' := 868) dL_law_867 rfl ?_
      refine X.lcmp (pc' := 869) dL_law_868 rfl ?_
      refine X.if_eq (tgt := 874) (pc' := 872) dL_law_869 (by decide) rfl (fun hc => ?_) (fun hc => ?_)
      · rw [if_pos hc] at h
        refine X.goto (pc' := 2157) dL_law_874 (by decide) ?_
        refine X.sub (L := [some (.ref 3000000), some (.ref a1), some (.ref a2), some (.ref a3), some (.ref a4), some (.int a5), none, none]) ?_ (⟨rfl, ⟨rfl, ⟨rfl, ⟨rfl, ⟨rfl, ⟨rfl, trivial⟩⟩⟩⟩⟩⟩)
        refine X.widen (k' := kk + 4) (n' := nn + 24) (by omega) (by omega) ?_
        exact hk _ h
      · rw [if_neg hc] at h
        refine X.iconst (v := 0) (pc' := 873) dL_law_872 rfl (by decide) ?_
        cases h
        exact X.iret (ty := .boolean) dL_law_873 rfl (by decide) (by show kk + 1 ≤ 601024; omega) (by show nn + 6 ≤ 7293033; omega) rfl
  · rw [if_neg hc] at h
    refine X.iconst (v := 0) (pc' := 856) dL_law_855 rfl (by decide) ?_
    cases h
    exact X.iret (ty := .boolean) dL_law_856 rfl (by decide) (by show kk + 1 ≤ 601024; omega) (by show nn + 6 ≤ 7293033; omega) rfl
def g_11 (fu : Nat) (xs : List Int32) (a1 a2 a3 a4 : Nat) (a5 : Int32) (M : List Ob) (k : List Ob → Option (Int32 × List Ob)) : Option (Int32 × List Ob) :=
  (hasO M a1 10).bind fun _ =>
  bd2 (f_X10_reason fu a1 M) fun v1 M2 =>
  (hasO M2 a2 11).bind fun _ =>
  bd2 (f_X11_reason fu a2 M2) fun v5 M6 =>
  if v1 = v5 then (k M6)
  else (some (0, M6))
set_option maxHeartbeats 4000000 in
theorem okg_11 {G : GT} (hz : gZ G = false) {fu : Nat} {xs : List Int32} (hX : gX G = xs) {a1 a2 a3 a4 : Nat} {a5 : Int32} {M : List Ob} {kk nn : Nat} (hkk : kk + 8 ≤ 601024) (hnn : nn + 48 ≤ 7293033) {k : List Ob → Option (Int32 × List Ob)} {out : Int32 × List Ob} (hk : ∀ M, k M = some out → X G t_L_law [] 2157 [some (.ref 3000000), some (.ref a1), some (.ref a2), some (.ref a3), some (.ref a4), some (.int a5), none, none] [] M (kk + 4) (nn + 24) (oI out)) (h : g_11 fu xs a1 a2 a3 a4 a5 M k = some out) : X G t_L_law [] 877 [some (.ref 3000000), some (.ref a1), some (.ref a2), some (.ref a3), some (.ref a4), some (.int a5), none, none] [] M (kk + 0) (nn + 0) (oI out) := by
  unfold g_11 at h
  refine X.aload_n (x := a1) (pc' := 878) dL_law_877 rfl rfl rfl ?_
  obtain ⟨⟨⟩, e4, h⟩ := bindE h
  obtain ⟨v1, M2, e3, h⟩ := bd2E h
  refine X.callV (b := a1) (v := some (.int v1)) (As := []) (st := []) (M' := M2) (pc' := 881) dL_law_878 rfl cl_L_166 mi_X10_reason me_X10_reason mr_X10_reason e4 ⟨⟨Nat.le_of_ble_eq_true rfl, Nat.le_of_ble_eq_true rfl⟩, (by show kk + 0 + 0 ≤ 601024; omega), (by show nn + 0 + 0 ≤ 7293033; omega)⟩ rfl (Nat.le_of_ble_eq_true rfl) (ok_X10_reason (G := zs G) e3) ?_
  show X G t_L_law [] 881 [some (.ref 3000000), some (.ref a1), some (.ref a2), some (.ref a3), some (.ref a4), some (.int a5), none, none] [.int v1] M2 (kk + 0) (nn + 0) _
  refine X.aload_n (x := a2) (pc' := 882) dL_law_881 rfl rfl rfl ?_
  obtain ⟨⟨⟩, e8, h⟩ := bindE h
  obtain ⟨v5, M6, e7, h⟩ := bd2E h
  refine X.callV (b := a2) (v := some (.int v5)) (As := []) (st := [.int v1]) (M' := M6) (pc' := 885) dL_law_882 rfl cl_L_169 mi_X11_reason me_X11_reason mr_X11_reason e8 ⟨⟨Nat.le_of_ble_eq_true rfl, Nat.le_of_ble_eq_true rfl⟩, (by show kk + 0 + 0 ≤ 601024; omega), (by show nn + 0 + 0 ≤ 7293033; omega)⟩ rfl (Nat.le_of_ble_eq_true rfl) (ok_X11_reason (G := zs G) e7) ?_
  show X G t_L_law [] 885 [some (.ref 3000000), some (.ref a1), some (.ref a2), some (.ref a3), some (.ref a4), some (.int a5), none, none] [.int v5, .int v1] M6 (kk + 0) (nn + 0) _
  refine X.icmp_eq (tgt := 2157) (pc' := 888) dL_law_885 (by decide) rfl (fun hc => ?_) (fun hc => ?_)
  · rw [if_pos hc] at h
    refine X.sub (L := [some (.ref 3000000), some (.ref a1), some (.ref a2), some (.ref a3), some (.ref a4), some (.int a5), none, none]) ?_ (⟨rfl, ⟨rfl, ⟨rfl, ⟨rfl, ⟨rfl, ⟨rfl, trivial⟩⟩⟩⟩⟩⟩)
    refine X.widen (k' := kk + 4) (n' := nn + 24) (by omega) (by omega) ?_
    exact hk _ h
  · rw [if_neg hc] at h
    refine X.iconst (v := 0) (pc' := 889) dL_law_888 rfl (by decide) ?_
    cases h
    exact X.iret (ty := .boolean) dL_law_889 rfl (by decide) (by show kk + 0 ≤ 601024; omega) (by show nn + 0 ≤ 7293033; omega) rfl
def g_12 (fu : Nat) (xs : List Int32) (a1 a2 a3 a4 : Nat) (a5 : Int32) (M : List Ob) (k : List Ob → Option (Int32 × List Ob)) : Option (Int32 × List Ob) :=
  bd2 (f_L_tell fu a1 a3 M) fun v1 M2 =>
  (hasO M2 a2 11).bind fun _ =>
  bd2 (f_X11_tell fu a2 M2) fun v5 M6 =>
  (hasO M6 a2 11).bind fun _ =>
  bd2 (f_X11_thrown fu a2 M6) fun v9 M10 =>
  if v9 = v1 then (if v1 = 0 then ((aJ M10 a3 0).bind fun v14 =>
  if (lg_cmp v14 ((v5 : Int32).toInt64)) = 0 then (k M10)
  else (some (0, M10)))
  else (k M10))
  else (some (0, M10))
set_option maxHeartbeats 4000000 in
theorem okg_12 {G : GT} (hz : gZ G = false) {fu : Nat} {xs : List Int32} (hX : gX G = xs) {a1 a2 a3 a4 : Nat} {a5 : Int32} {M : List Ob} {kk nn : Nat} (hkk : kk + 8 ≤ 601024) (hnn : nn + 48 ≤ 7293033) {k : List Ob → Option (Int32 × List Ob)} {out : Int32 × List Ob} (hk : ∀ M, k M = some out → X G t_L_law [] 2157 [some (.ref 3000000), some (.ref a1), some (.ref a2), some (.ref a3), some (.ref a4), some (.int a5), none, none] [] M (kk + 4) (nn + 24) (oI out)) (h : g_12 fu xs a1 a2 a3 a4 a5 M k = some out) : X G t_L_law [] 890 [some (.ref 3000000), some (.ref a1), some (.ref a2), some (.ref a3), some (.ref a4), some (.int a5), none, none] [] M (kk + 0) (nn + 0) (oI out) := by
  unfold g_12 at h
  refine X.aload_n (x := a1) (pc' := 891) dL_law_890 rfl rfl rfl ?_
  refine X.aload_n (x := a3) (pc' := 892) dL_law_891 rfl rfl rfl ?_
  obtain ⟨v1, M2, e3, h⟩ := bd2E h
  refine X.callW (v := some (.int v1)) (As := [.ref a1, .ref a3]) (st := []) (M' := M2) (pc' := 895) dL_law_892 rfl cw_L_170 ⟨⟨Nat.le_of_ble_eq_true rfl, Nat.le_of_ble_eq_true rfl⟩, (by show kk + 0 + 1 ≤ 601024; omega), (by show nn + 0 + 6 ≤ 7293033; omega)⟩ rfl (Nat.le_of_ble_eq_true rfl) (ok_L_tell (G := zs G) (hz := hz) e3) ?_
  show X G t_L_law [] 895 [some (.ref 3000000), some (.ref a1), some (.ref a2), some (.ref a3), some (.ref a4), some (.int a5), none, none] [.int v1] M2 (kk + 1) (nn + 6) _
  refine X.istore (L' := [some (.ref 3000000), some (.ref a1), some (.ref a2), some (.ref a3), some (.ref a4), some (.int a5), some (.int v1), none]) (pc' := 897) dL_law_895 rfl (Nat.le_of_ble_eq_true rfl) rfl ?_
  refine X.aload_n (x := a2) (pc' := 898) dL_law_897 rfl rfl rfl ?_
  obtain ⟨⟨⟩, e8, h⟩ := bindE h
  obtain ⟨v5, M6, e7, h⟩ := bd2E h
  refine X.callV (b := a2) (v := some (.int v5)) (As := []) (st := []) (M' := M6) (pc' := 901) dL_law_898 rfl cl_L_172 mi_X11_tell me_X11_tell mr_X11_tell e8 ⟨⟨Nat.le_of_ble_eq_true rfl, Nat.le_of_ble_eq_true rfl⟩, (by show kk + 1 + 0 ≤ 601024; omega), (by show nn + 6 + 0 ≤ 7293033; omega)⟩ rfl (Nat.le_of_ble_eq_true rfl) (ok_X11_tell (G := zs G) e7) ?_
  show X G t_L_law [] 901 [some (.ref 3000000), some (.ref a1), some (.ref a2), some (.ref a3), some (.ref a4), some (.int a5), some (.int v1), none] [.int v5] M6 (kk + 1) (nn + 6) _
  refine X.istore (L' := [some (.ref 3000000), some (.ref a1), some (.ref a2), some (.ref a3), some (.ref a4), some (.int a5), some (.int v1), some (.int v5)]) (pc' := 903) dL_law_901 rfl (Nat.le_of_ble_eq_true rfl) rfl ?_
  refine X.aload_n (x := a2) (pc' := 904) dL_law_903 rfl rfl rfl ?_
  obtain ⟨⟨⟩, e12, h⟩ := bindE h
  obtain ⟨v9, M10, e11, h⟩ := bd2E h
  refine X.callV (b := a2) (v := some (.int v9)) (As := []) (st := []) (M' := M10) (pc' := 907) dL_law_904 rfl cl_L_127 mi_X11_thrown me_X11_thrown mr_X11_thrown e12 ⟨⟨Nat.le_of_ble_eq_true rfl, Nat.le_of_ble_eq_true rfl⟩, (by show kk + 1 + 0 ≤ 601024; omega), (by show nn + 6 + 0 ≤ 7293033; omega)⟩ rfl (Nat.le_of_ble_eq_true rfl) (ok_X11_thrown (G := zs G) e11) ?_
  show X G t_L_law [] 907 [some (.ref 3000000), some (.ref a1), some (.ref a2), some (.ref a3), some (.ref a4), some (.int a5), some (.int v1), some (.int v5)] [.int v9] M10 (kk + 1) (nn + 6) _
  refine X.iload (x := v1) (pc' := 909) dL_law_907 rfl rfl ?_
  refine X.icmp_eq (tgt := 914) (pc' := 912) dL_law_909 (by decide) rfl (fun hc => ?_) (fun hc => ?_)
  · rw [if_pos hc] at h
    refine X.iload (x := v1) (pc' := 916) dL_law_914 rfl rfl ?_
    refine X.if_ne (tgt := 931) (pc' := 919) dL_law_916 (by decide) rfl (fun hc => ?_) (fun hc => ?_)
    · rw [if_neg hc] at h
      refine X.goto (pc' := 2157) dL_law_931 (by decide) ?_
      refine X.sub (L := [some (.ref 3000000), some (.ref a1), some (.ref a2), some (.ref a3), some (.ref a4), some (.int a5), none, none]) ?_ (⟨rfl, ⟨rfl, ⟨rfl, ⟨rfl, ⟨rfl, ⟨rfl, trivial⟩⟩⟩⟩⟩⟩)
      refine X.widen (k' := kk + 4) (n' := nn + 24) (by omega) (by omega) ?_
      exact hk _ h
    · rw [if_pos hc] at h
      refine X.aload_n (x := a3) (pc' := 920) dL_law_919 rfl rfl rfl ?_
      refine X.iconst (v := 0) (pc' := 921) dL_law_920 rfl (by decide) ?_
      obtain ⟨v14, e13, h⟩ := bindE h
      refine X.lald (pc' := 922) dL_law_921 rfl e13 ?_
      refine X.iload (x := v5) (pc' := 924) dL_law_922 rfl rfl ?_
      refine X.i2l (pc' := 925) dL_law_924 rfl ?_
      refine X.lcmp (pc' := 926) dL_law_925 rfl ?_
      refine X.if_eq (tgt := 931) (pc' := 929) dL_law_926 (by decide) rfl (fun hc => ?_) (fun hc => ?_)
      · rw [if_pos hc] at h
        refine X.goto (pc' := 2157) dL_law_931 (by decide) ?_
        refine X.sub (L := [some (.ref 3000000), some (.ref a1), some (.ref a2), some (.ref a3), some (.ref a4), some (.int a5), none, none]) ?_ (⟨rfl, ⟨rfl, ⟨rfl, ⟨rfl, ⟨rfl, ⟨rfl, trivial⟩⟩⟩⟩⟩⟩)
        refine X.widen (k' := kk + 4) (n' := nn + 24) (by omega) (by omega) ?_
        exact hk _ h
      · rw [if_neg hc] at h
        refine X.iconst (v := 0) (pc' := 930) dL_law_929 rfl (by decide) ?_
        cases h
        exact X.iret (ty := .boolean) dL_law_930 rfl (by decide) (by show kk + 1 ≤ 601024; omega) (by show nn + 6 ≤ 7293033; omega) rfl
  · rw [if_neg hc] at h
    refine X.iconst (v := 0) (pc' := 913) dL_law_912 rfl (by decide) ?_
    cases h
    exact X.iret (ty := .boolean) dL_law_913 rfl (by decide) (by show kk + 1 ≤ 601024; omega) (by show nn + 6 ≤ 7293033; omega) rfl
def g_13 (fu : Nat) (xs : List Int32) (a1 a2 a3 a4 : Nat) (a5 : Int32) (M : List Ob) (k : List Ob → Option (Int32 × List Ob)) : Option (Int32 × List Ob) :=
  (sGet xs (a5 + 1)).bind fun v1 =>
  bd2 (f_L_forget fu a1 v1 a3 M) fun v3 M4 =>
  (sGet xs (a5 + 1)).bind fun v7 =>
  (hasO M4 a2 11).bind fun _ =>
  bd2 (f_X11_forget fu a2 v7 M4) fun v9 M10 =>
  (hasO M10 a2 11).bind fun _ =>
  bd2 (f_X11_thrown fu a2 M10) fun v13 M14 =>
  if v13 = v3 then (if v3 = 0 then ((aJ M14 a3 0).bind fun v18 =>
  if (lg_cmp v18 ((v9 : Int32).toInt64)) = 0 then (k M14)
  else (some (0, M14)))
  else (k M14))
  else (some (0, M14))
set_option maxHeartbeats 4000000 in
theorem okg_13 {G : GT} (hz : gZ G = false) {fu : Nat} {xs : List Int32} (hX : gX G = xs) {a1 a2 a3 a4 : Nat} {a5 : Int32} {M : List Ob} {kk nn : Nat} (hkk : kk + 8 ≤ 601024) (hnn : nn + 48 ≤ 7293033) {k : List Ob → Option (Int32 × List Ob)} {out : Int32 × List Ob} (hk : ∀ M, k M = some out → X G t_L_law [] 2157 [some (.ref 3000000), some (.ref a1), some (.ref a2), some (.ref a3), some (.ref a4), some (.int a5), none, none] [] M (kk + 4) (nn + 24) (oI out)) (h : g_13 fu xs a1 a2 a3 a4 a5 M k = some out) : X G t_L_law [] 934 [some (.ref 3000000), some (.ref a1), some (.ref a2), some (.ref a3), some (.ref a4), some (.int a5), none, none] [] M (kk + 0) (nn + 0) (oI out) := by
  unfold g_13 at h
  refine X.aload_n (x := a1) (pc' := 935) dL_law_934 rfl rfl rfl ?_
  refine X.aload_n (x := 3000000) (pc' := 936) dL_law_935 rfl rfl rfl ?_
  refine X.iload (x := a5) (pc' := 938) dL_law_936 rfl rfl ?_
  refine X.iconst (v := 1) (pc' := 939) dL_law_938 rfl (by decide) ?_
  refine X.iadd (pc' := 940) dL_law_939 rfl ?_
  obtain ⟨v1, e2, h⟩ := bindE h
  refine X.sld (pc' := 941) dL_law_940 rfl (by rw [hX]; exact e2) ?_
  refine X.aload_n (x := a3) (pc' := 942) dL_law_941 rfl rfl rfl ?_
  obtain ⟨v3, M4, e5, h⟩ := bd2E h
  refine X.callW (v := some (.int v3)) (As := [.ref a1, .int v1, .ref a3]) (st := []) (M' := M4) (pc' := 945) dL_law_942 rfl cw_L_173 ⟨⟨Nat.le_of_ble_eq_true rfl, Nat.le_of_ble_eq_true rfl⟩, (by show kk + 0 + 1 ≤ 601024; omega), (by show nn + 0 + 6 ≤ 7293033; omega)⟩ rfl (Nat.le_of_ble_eq_true rfl) (ok_L_forget (G := zs G) (hz := hz) e5) ?_
  show X G t_L_law [] 945 [some (.ref 3000000), some (.ref a1), some (.ref a2), some (.ref a3), some (.ref a4), some (.int a5), none, none] [.int v3] M4 (kk + 1) (nn + 6) _
  refine X.istore (L' := [some (.ref 3000000), some (.ref a1), some (.ref a2), some (.ref a3), some (.ref a4), some (.int a5), some (.int v3), none]) (pc' := 947) dL_law_945 rfl (Nat.le_of_ble_eq_true rfl) rfl ?_
  refine X.aload_n (x := a2) (pc' := 948) dL_law_947 rfl rfl rfl ?_
  refine X.aload_n (x := 3000000) (pc' := 949) dL_law_948 rfl rfl rfl ?_
  refine X.iload (x := a5) (pc' := 951) dL_law_949 rfl rfl ?_
  refine X.iconst (v := 1) (pc' := 952) dL_law_951 rfl (by decide) ?_
  refine X.iadd (pc' := 953) dL_law_952 rfl ?_
  obtain ⟨v7, e8, h⟩ := bindE h
  refine X.sld (pc' := 954) dL_law_953 rfl (by rw [hX]; exact e8) ?_
  obtain ⟨⟨⟩, e12, h⟩ := bindE h
  obtain ⟨v9, M10, e11, h⟩ := bd2E h
  refine X.callV (b := a2) (v := some (.int v9)) (As := [.int v7]) (st := []) (M' := M10) (pc' := 957) dL_law_954 rfl cl_L_175 mi_X11_forget me_X11_forget mr_X11_forget e12 ⟨⟨Nat.le_of_ble_eq_true rfl, Nat.le_of_ble_eq_true rfl⟩, (by show kk + 1 + 0 ≤ 601024; omega), (by show nn + 6 + 0 ≤ 7293033; omega)⟩ rfl (Nat.le_of_ble_eq_true rfl) (ok_X11_forget (G := zs G) e11) ?_
  show X G t_L_law [] 957 [some (.ref 3000000), some (.ref a1), some (.ref a2), some (.ref a3), some (.ref a4), some (.int a5), some (.int v3), none] [.int v9] M10 (kk + 1) (nn + 6) _
  refine X.istore (L' := [some (.ref 3000000), some (.ref a1), some (.ref a2), some (.ref a3), some (.ref a4), some (.int a5), some (.int v3), some (.int v9)]) (pc' := 959) dL_law_957 rfl (Nat.le_of_ble_eq_true rfl) rfl ?_
  refine X.aload_n (x := a2) (pc' := 960) dL_law_959 rfl rfl rfl ?_
  obtain ⟨⟨⟩, e16, h⟩ := bindE h
  obtain ⟨v13, M14, e15, h⟩ := bd2E h
  refine X.callV (b := a2) (v := some (.int v13)) (As := []) (st := []) (M' := M14) (pc' := 963) dL_law_960 rfl cl_L_127 mi_X11_thrown me_X11_thrown mr_X11_thrown e16 ⟨⟨Nat.le_of_ble_eq_true rfl, Nat.le_of_ble_eq_true rfl⟩, (by show kk + 1 + 0 ≤ 601024; omega), (by show nn + 6 + 0 ≤ 7293033; omega)⟩ rfl (Nat.le_of_ble_eq_true rfl) (ok_X11_thrown (G := zs G) e15) ?_
  show X G t_L_law [] 963 [some (.ref 3000000), some (.ref a1), some (.ref a2), some (.ref a3), some (.ref a4), some (.int a5), some (.int v3), some (.int v9)] [.int v13] M14 (kk + 1) (nn + 6) _
  refine X.iload (x := v3) (pc' := 965) dL_law_963 rfl rfl ?_
  refine X.icmp_eq (tgt := 970) (pc' := 968) dL_law_965 (by decide) rfl (fun hc => ?_) (fun hc => ?_)
  · rw [if_pos hc] at h
    refine X.iload (x := v3) (pc' := 972) dL_law_970 rfl rfl ?_
    refine X.if_ne (tgt := 987) (pc' := 975) dL_law_972 (by decide) rfl (fun hc => ?_) (fun hc => ?_)
    · rw [if_neg hc] at h
      refine X.goto (pc' := 2157) dL_law_987 (by decide) ?_
      refine X.sub (L := [some (.ref 3000000), some (.ref a1), some (.ref a2), some (.ref a3), some (.ref a4), some (.int a5), none, none]) ?_ (⟨rfl, ⟨rfl, ⟨rfl, ⟨rfl, ⟨rfl, ⟨rfl, trivial⟩⟩⟩⟩⟩⟩)
      refine X.widen (k' := kk + 4) (n' := nn + 24) (by omega) (by omega) ?_
      exact hk _ h
    · rw [if_pos hc] at h
      refine X.aload_n (x := a3) (pc' := 976) dL_law_975 rfl rfl rfl ?_
      refine X.iconst (v := 0) (pc' := 977) dL_law_976 rfl (by decide) ?_
      obtain ⟨v18, e17, h⟩ := bindE h
      refine X.lald (pc' := 978) dL_law_977 rfl e17 ?_
      refine X.iload (x := v9) (pc' := 980) dL_law_978 rfl rfl ?_
      refine X.i2l (pc' := 981) dL_law_980 rfl ?_
      refine X.lcmp (pc' := 982) dL_law_981 rfl ?_
      refine X.if_eq (tgt := 987) (pc' := 985) dL_law_982 (by decide) rfl (fun hc => ?_) (fun hc => ?_)
      · rw [if_pos hc] at h
        refine X.goto (pc' := 2157) dL_law_987 (by decide) ?_
        refine X.sub (L := [some (.ref 3000000), some (.ref a1), some (.ref a2), some (.ref a3), some (.ref a4), some (.int a5), none, none]) ?_ (⟨rfl, ⟨rfl, ⟨rfl, ⟨rfl, ⟨rfl, ⟨rfl, trivial⟩⟩⟩⟩⟩⟩)
        refine X.widen (k' := kk + 4) (n' := nn + 24) (by omega) (by omega) ?_
        exact hk _ h
      · rw [if_neg hc] at h
        refine X.iconst (v := 0) (pc' := 986) dL_law_985 rfl (by decide) ?_
        cases h
        exact X.iret (ty := .boolean) dL_law_986 rfl (by decide) (by show kk + 1 ≤ 601024; omega) (by show nn + 6 ≤ 7293033; omega) rfl
  · rw [if_neg hc] at h
    refine X.iconst (v := 0) (pc' := 969) dL_law_968 rfl (by decide) ?_
    cases h
    exact X.iret (ty := .boolean) dL_law_969 rfl (by decide) (by show kk + 1 ≤ 601024; omega) (by show nn + 6 ≤ 7293033; omega) rfl
def g_14 (fu : Nat) (xs : List Int32) (a1 a2 a3 a4 : Nat) (a5 : Int32) (M : List Ob) (k : List Ob → Option (Int32 × List Ob)) : Option (Int32 × List Ob) :=
  (sGet xs (a5 + 1)).bind fun v1 =>
  (sGet xs (a5 + 2)).bind fun v3 =>
  bd2 (f_L_routeArc fu a1 v1 v3 a3 M) fun v5 M6 =>
  (sGet xs (a5 + 1)).bind fun v9 =>
  (sGet xs (a5 + 2)).bind fun v11 =>
  (hasO M6 a2 11).bind fun _ =>
  bd2 (f_X11_routeArc fu a2 v9 v11 M6) fun v13 M14 =>
  (hasO M14 a2 11).bind fun _ =>
  bd2 (f_X11_thrown fu a2 M14) fun v17 M18 =>
  if v17 = v5 then (if v5 = 0 then ((aJ M18 a3 0).bind fun v22 =>
  if (lg_cmp v22 ((v13 : Int32).toInt64)) = 0 then (k M18)
  else (some (0, M18)))
  else (k M18))
  else (some (0, M18))
set_option maxHeartbeats 4000000 in
theorem okg_14 {G : GT} (hz : gZ G = false) {fu : Nat} {xs : List Int32} (hX : gX G = xs) {a1 a2 a3 a4 : Nat} {a5 : Int32} {M : List Ob} {kk nn : Nat} (hkk : kk + 8 ≤ 601024) (hnn : nn + 48 ≤ 7293033) {k : List Ob → Option (Int32 × List Ob)} {out : Int32 × List Ob} (hk : ∀ M, k M = some out → X G t_L_law [] 2157 [some (.ref 3000000), some (.ref a1), some (.ref a2), some (.ref a3), some (.ref a4), some (.int a5), none, none] [] M (kk + 4) (nn + 24) (oI out)) (h : g_14 fu xs a1 a2 a3 a4 a5 M k = some out) : X G t_L_law [] 990 [some (.ref 3000000), some (.ref a1), some (.ref a2), some (.ref a3), some (.ref a4), some (.int a5), none, none] [] M (kk + 0) (nn + 0) (oI out) := by
  unfold g_14 at h
  refine X.aload_n (x := a1) (pc' := 991) dL_law_990 rfl rfl rfl ?_
  refine X.aload_n (x := 3000000) (pc' := 992) dL_law_991 rfl rfl rfl ?_
  refine X.iload (x := a5) (pc' := 994) dL_law_992 rfl rfl ?_
  refine X.iconst (v := 1) (pc' := 995) dL_law_994 rfl (by decide) ?_
  refine X.iadd (pc' := 996) dL_law_995 rfl ?_
  obtain ⟨v1, e2, h⟩ := bindE h
  refine X.sld (pc' := 997) dL_law_996 rfl (by rw [hX]; exact e2) ?_
  refine X.aload_n (x := 3000000) (pc' := 998) dL_law_997 rfl rfl rfl ?_
  refine X.iload (x := a5) (pc' := 1000) dL_law_998 rfl rfl ?_
  refine X.iconst (v := 2) (pc' := 1001) dL_law_1000 rfl (by decide) ?_
  refine X.iadd (pc' := 1002) dL_law_1001 rfl ?_
  obtain ⟨v3, e4, h⟩ := bindE h
  refine X.sld (pc' := 1003) dL_law_1002 rfl (by rw [hX]; exact e4) ?_
  refine X.aload_n (x := a3) (pc' := 1004) dL_law_1003 rfl rfl rfl ?_
  obtain ⟨v5, M6, e7, h⟩ := bd2E h
  refine X.callW (v := some (.int v5)) (As := [.ref a1, .int v1, .int v3, .ref a3]) (st := []) (M' := M6) (pc' := 1007) dL_law_1004 rfl cw_L_176 ⟨⟨Nat.le_of_ble_eq_true rfl, Nat.le_of_ble_eq_true rfl⟩, (by show kk + 0 + 2 ≤ 601024; omega), (by show nn + 0 + 12 ≤ 7293033; omega)⟩ rfl (Nat.le_of_ble_eq_true rfl) (ok_L_routeArc (G := zs G) (hz := hz) e7) ?_
  show X G t_L_law [] 1007 [some (.ref 3000000), some (.ref a1), some (.ref a2), some (.ref a3), some (.ref a4), some (.int a5), none, none] [.int v5] M6 (kk + 2) (nn + 12) _
  refine X.istore (L' := [some (.ref 3000000), some (.ref a1), some (.ref a2), some (.ref a3), some (.ref a4), some (.int a5), some (.int v5), none]) (pc' := 1009) dL_law_1007 rfl (Nat.le_of_ble_eq_true rfl) rfl ?_
  refine X.aload_n (x := a2) (pc' := 1010) dL_law_1009 rfl rfl rfl ?_
  refine X.aload_n (x := 3000000) (pc' := 1011) dL_law_1010 rfl rfl rfl ?_
  refine X.iload (x := a5) (pc' := 1013) dL_law_1011 rfl rfl ?_
  refine X.iconst (v := 1) (pc' := 1014) dL_law_1013 rfl (by decide) ?_
  refine X.iadd (pc' := 1015) dL_law_1014 rfl ?_
  obtain ⟨v9, e10, h⟩ := bindE h
  refine X.sld (pc' := 1016) dL_law_1015 rfl (by rw [hX]; exact e10) ?_
  refine X.aload_n (x := 3000000) (pc' := 1017) dL_law_1016 rfl rfl rfl ?_
  refine X.iload (x := a5) (pc' := 1019) dL_law_1017 rfl rfl ?_
  refine X.iconst (v := 2) (pc' := 1020) dL_law_1019 rfl (by decide) ?_
  refine X.iadd (pc' := 1021) dL_law_1020 rfl ?_
  obtain ⟨v11, e12, h⟩ := bindE h
  refine X.sld (pc' := 1022) dL_law_1021 rfl (by rw [hX]; exact e12) ?_
  obtain ⟨⟨⟩, e16, h⟩ := bindE h
  obtain ⟨v13, M14, e15, h⟩ := bd2E h
  refine X.callV (b := a2) (v := some (.int v13)) (As := [.int v9, .int v11]) (st := []) (M' := M14) (pc' := 1025) dL_law_1022 rfl cl_L_178 mi_X11_routeArc me_X11_routeArc mr_X11_routeArc e16 ⟨⟨Nat.le_of_ble_eq_true rfl, Nat.le_of_ble_eq_true rfl⟩, (by show kk + 2 + 0 ≤ 601024; omega), (by show nn + 12 + 0 ≤ 7293033; omega)⟩ rfl (Nat.le_of_ble_eq_true rfl) (ok_X11_routeArc (G := zs G) e15) ?_
  show X G t_L_law [] 1025 [some (.ref 3000000), some (.ref a1), some (.ref a2), some (.ref a3), some (.ref a4), some (.int a5), some (.int v5), none] [.int v13] M14 (kk + 2) (nn + 12) _
  refine X.istore (L' := [some (.ref 3000000), some (.ref a1), some (.ref a2), some (.ref a3), some (.ref a4), some (.int a5), some (.int v5), some (.int v13)]) (pc' := 1027) dL_law_1025 rfl (Nat.le_of_ble_eq_true rfl) rfl ?_
  refine X.aload_n (x := a2) (pc' := 1028) dL_law_1027 rfl rfl rfl ?_
  obtain ⟨⟨⟩, e20, h⟩ := bindE h
  obtain ⟨v17, M18, e19, h⟩ := bd2E h
  refine X.callV (b := a2) (v := some (.int v17)) (As := []) (st := []) (M' := M18) (pc' := 1031) dL_law_1028 rfl cl_L_127 mi_X11_thrown me_X11_thrown mr_X11_thrown e20 ⟨⟨Nat.le_of_ble_eq_true rfl, Nat.le_of_ble_eq_true rfl⟩, (by show kk + 2 + 0 ≤ 601024; omega), (by show nn + 12 + 0 ≤ 7293033; omega)⟩ rfl (Nat.le_of_ble_eq_true rfl) (ok_X11_thrown (G := zs G) e19) ?_
  show X G t_L_law [] 1031 [some (.ref 3000000), some (.ref a1), some (.ref a2), some (.ref a3), some (.ref a4), some (.int a5), some (.int v5), some (.int v13)] [.int v17] M18 (kk + 2) (nn + 12) _
  refine X.iload (x := v5) (pc' := 1033) dL_law_1031 rfl rfl ?_
  refine X.icmp_eq (tgt := 1038) (pc' := 1036) dL_law_1033 (by decide) rfl (fun hc => ?_) (fun hc => ?_)
  · rw [if_pos hc] at h
    refine X.iload (x := v5) (pc' := 1040) dL_law_1038 rfl rfl ?_
    refine X.if_ne (tgt := 1055) (pc' := 1043) dL_law_1040 (by decide) rfl (fun hc => ?_) (fun hc => ?_)
    · rw [if_neg hc] at h
      refine X.goto (pc' := 2157) dL_law_1055 (by decide) ?_
      refine X.sub (L := [some (.ref 3000000), some (.ref a1), some (.ref a2), some (.ref a3), some (.ref a4), some (.int a5), none, none]) ?_ (⟨rfl, ⟨rfl, ⟨rfl, ⟨rfl, ⟨rfl, ⟨rfl, trivial⟩⟩⟩⟩⟩⟩)
      refine X.widen (k' := kk + 4) (n' := nn + 24) (by omega) (by omega) ?_
      exact hk _ h
    · rw [if_pos hc] at h
      refine X.aload_n (x := a3) (pc' := 1044) dL_law_1043 rfl rfl rfl ?_
      refine X.iconst (v := 0) (pc' := 1045) dL_law_1044 rfl (by decide) ?_
      obtain ⟨v22, e21, h⟩ := bindE h
      refine X.lald (pc' := 1046) dL_law_1045 rfl e21 ?_
      refine X.iload (x := v13) (pc' := 1048) dL_law_1046 rfl rfl ?_
      refine X.i2l (pc' := 1049) dL_law_1048 rfl ?_
      refine X.lcmp (pc' := 1050) dL_law_1049 rfl ?_
      refine X.if_eq (tgt := 1055) (pc' := 1053) dL_law_1050 (by decide) rfl (fun hc => ?_) (fun hc => ?_)
      · rw [if_pos hc] at h
        refine X.goto (pc' := 2157) dL_law_1055 (by decide) ?_
        refine X.sub (L := [some (.ref 3000000), some (.ref a1), some (.ref a2), some (.ref a3), some (.ref a4), some (.int a5), none, none]) ?_ (⟨rfl, ⟨rfl, ⟨rfl, ⟨rfl, ⟨rfl, ⟨rfl, trivial⟩⟩⟩⟩⟩⟩)
        refine X.widen (k' := kk + 4) (n' := nn + 24) (by omega) (by omega) ?_
        exact hk _ h
      · rw [if_neg hc] at h
        refine X.iconst (v := 0) (pc' := 1054) dL_law_1053 rfl (by decide) ?_
        cases h
        exact X.iret (ty := .boolean) dL_law_1054 rfl (by decide) (by show kk + 2 ≤ 601024; omega) (by show nn + 12 ≤ 7293033; omega) rfl
  · rw [if_neg hc] at h
    refine X.iconst (v := 0) (pc' := 1037) dL_law_1036 rfl (by decide) ?_
    cases h
    exact X.iret (ty := .boolean) dL_law_1037 rfl (by decide) (by show kk + 2 ≤ 601024; omega) (by show nn + 12 ≤ 7293033; omega) rfl
def g_15 (fu : Nat) (xs : List Int32) (a1 a2 a3 a4 : Nat) (a5 : Int32) (M : List Ob) (k : List Ob → Option (Int32 × List Ob)) : Option (Int32 × List Ob) :=
  (sGet xs (a5 + 1)).bind fun v1 =>
  (sGet xs (a5 + 2)).bind fun v3 =>
  bd2 (f_L_route fu a1 v1 v3 a3 M) fun v5 M6 =>
  (sGet xs (a5 + 1)).bind fun v9 =>
  (sGet xs (a5 + 2)).bind fun v11 =>
  (hasO M6 a2 11).bind fun _ =>
  bd2 (f_X11_route fu a2 v9 v11 M6) fun v13 M14 =>
  (hasO M14 a2 11).bind fun _ =>
  bd2 (f_X11_thrown fu a2 M14) fun v17 M18 =>
  if v17 = v5 then (if v5 = 0 then ((aJ M18 a3 0).bind fun v22 =>
  if (lg_cmp v22 ((v13 : Int32).toInt64)) = 0 then (k M18)
  else (some (0, M18)))
  else (k M18))
  else (some (0, M18))
set_option maxHeartbeats 4000000 in
theorem okg_15 {G : GT} (hz : gZ G = false) {fu : Nat} {xs : List Int32} (hX : gX G = xs) {a1 a2 a3 a4 : Nat} {a5 : Int32} {M : List Ob} {kk nn : Nat} (hkk : kk + 8 ≤ 601024) (hnn : nn + 48 ≤ 7293033) {k : List Ob → Option (Int32 × List Ob)} {out : Int32 × List Ob} (hk : ∀ M, k M = some out → X G t_L_law [] 2157 [some (.ref 3000000), some (.ref a1), some (.ref a2), some (.ref a3), some (.ref a4), some (.int a5), none, none] [] M (kk + 4) (nn + 24) (oI out)) (h : g_15 fu xs a1 a2 a3 a4 a5 M k = some out) : X G t_L_law [] 1058 [some (.ref 3000000), some (.ref a1), some (.ref a2), some (.ref a3), some (.ref a4), some (.int a5), none, none] [] M (kk + 0) (nn + 0) (oI out) := by
  unfold g_15 at h
  refine X.aload_n (x := a1) (pc' := 1059) dL_law_1058 rfl rfl rfl ?_
  refine X.aload_n (x := 3000000) (pc' := 1060) dL_law_1059 rfl rfl rfl ?_
  refine X.iload (x := a5) (pc' := 1062) dL_law_1060 rfl rfl ?_
  refine X.iconst (v := 1) (pc' := 1063) dL_law_1062 rfl (by decide) ?_
  refine X.iadd (pc' := 1064) dL_law_1063 rfl ?_
  obtain ⟨v1, e2, h⟩ := bindE h
  refine X.sld (pc' := 1065) dL_law_1064 rfl (by rw [hX]; exact e2) ?_
  refine X.aload_n (x := 3000000) (pc' := 1066) dL_law_1065 rfl rfl rfl ?_
  refine X.iload (x := a5) (pc' := 1068) dL_law_1066 rfl rfl ?_
  refine X.iconst (v := 2) (pc' := 1069) dL_law_1068 rfl (by decide) ?_
  refine X.iadd (pc' := 1070) dL_law_1069 rfl ?_
  obtain ⟨v3, e4, h⟩ := bindE h
  refine X.sld (pc' := 1071) dL_law_1070 rfl (by rw [hX]; exact e4) ?_
  refine X.aload_n (x := a3) (pc' := 1072) dL_law_1071 rfl rfl rfl ?_
  obtain ⟨v5, M6, e7, h⟩ := bd2E h
  refine X.callW (v := some (.int v5)) (As := [.ref a1, .int v1, .int v3, .ref a3]) (st := []) (M' := M6) (pc' := 1075) dL_law_1072 rfl cw_L_179 ⟨⟨Nat.le_of_ble_eq_true rfl, Nat.le_of_ble_eq_true rfl⟩, (by show kk + 0 + 2 ≤ 601024; omega), (by show nn + 0 + 12 ≤ 7293033; omega)⟩ rfl (Nat.le_of_ble_eq_true rfl) (ok_L_route (G := zs G) (hz := hz) e7) ?_
  show X G t_L_law [] 1075 [some (.ref 3000000), some (.ref a1), some (.ref a2), some (.ref a3), some (.ref a4), some (.int a5), none, none] [.int v5] M6 (kk + 2) (nn + 12) _
  refine X.istore (L' := [some (.ref 3000000), some (.ref a1), some (.ref a2), some (.ref a3), some (.ref a4), some (.int a5), some (.int v5), none]) (pc' := 1077) dL_law_1075 rfl (Nat.le_of_ble_eq_true rfl) rfl ?_
  refine X.aload_n (x := a2) (pc' := 1078) dL_law_1077 rfl rfl rfl ?_
  refine X.aload_n (x := 3000000) (pc' := 1079) dL_law_1078 rfl rfl rfl ?_
  refine X.iload (x := a5) (pc' := 1081) dL_law_1079 rfl rfl ?_
  refine X.iconst (v := 1) (pc' := 1082) dL_law_1081 rfl (by decide) ?_
  refine X.iadd (pc' := 1083) dL_law_1082 rfl ?_
  obtain ⟨v9, e10, h⟩ := bindE h
  refine X.sld (pc' := 1084) dL_law_1083 rfl (by rw [hX]; exact e10) ?_
  refine X.aload_n (x := 3000000) (pc' := 1085) dL_law_1084 rfl rfl rfl ?_
  refine X.iload (x := a5) (pc' := 1087) dL_law_1085 rfl rfl ?_
  refine X.iconst (v := 2) (pc' := 1088) dL_law_1087 rfl (by decide) ?_
  refine X.iadd (pc' := 1089) dL_law_1088 rfl ?_
  obtain ⟨v11, e12, h⟩ := bindE h
  refine X.sld (pc' := 1090) dL_law_1089 rfl (by rw [hX]; exact e12) ?_
  obtain ⟨⟨⟩, e16, h⟩ := bindE h
  obtain ⟨v13, M14, e15, h⟩ := bd2E h
  refine X.callV (b := a2) (v := some (.int v13)) (As := [.int v9, .int v11]) (st := []) (M' := M14) (pc' := 1093) dL_law_1090 rfl cl_L_181 mi_X11_route me_X11_route mr_X11_route e16 ⟨⟨Nat.le_of_ble_eq_true rfl, Nat.le_of_ble_eq_true rfl⟩, (by show kk + 2 + 0 ≤ 601024; omega), (by show nn + 12 + 0 ≤ 7293033; omega)⟩ rfl (Nat.le_of_ble_eq_true rfl) (ok_X11_route (G := zs G) e15) ?_
  show X G t_L_law [] 1093 [some (.ref 3000000), some (.ref a1), some (.ref a2), some (.ref a3), some (.ref a4), some (.int a5), some (.int v5), none] [.int v13] M14 (kk + 2) (nn + 12) _
  refine X.istore (L' := [some (.ref 3000000), some (.ref a1), some (.ref a2), some (.ref a3), some (.ref a4), some (.int a5), some (.int v5), some (.int v13)]) (pc' := 1095) dL_law_1093 rfl (Nat.le_of_ble_eq_true rfl) rfl ?_
  refine X.aload_n (x := a2) (pc' := 1096) dL_law_1095 rfl rfl rfl ?_
  obtain ⟨⟨⟩, e20, h⟩ := bindE h
  obtain ⟨v17, M18, e19, h⟩ := bd2E h
  refine X.callV (b := a2) (v := some (.int v17)) (As := []) (st := []) (M' := M18) (pc' := 1099) dL_law_1096 rfl cl_L_127 mi_X11_thrown me_X11_thrown mr_X11_thrown e20 ⟨⟨Nat.le_of_ble_eq_true rfl, Nat.le_of_ble_eq_true rfl⟩, (by show kk + 2 + 0 ≤ 601024; omega), (by show nn + 12 + 0 ≤ 7293033; omega)⟩ rfl (Nat.le_of_ble_eq_true rfl) (ok_X11_thrown (G := zs G) e19) ?_
  show X G t_L_law [] 1099 [some (.ref 3000000), some (.ref a1), some (.ref a2), some (.ref a3), some (.ref a4), some (.int a5), some (.int v5), some (.int v13)] [.int v17] M18 (kk + 2) (nn + 12) _
  refine X.iload (x := v5) (pc' := 1101) dL_law_1099 rfl rfl ?_
  refine X.icmp_eq (tgt := 1106) (pc' := 1104) dL_law_1101 (by decide) rfl (fun hc => ?_) (fun hc => ?_)
  · rw [if_pos hc] at h
    refine X.iload (x := v5) (pc' := 1108) dL_law_1106 rfl rfl ?_
    refine X.if_ne (tgt := 1123) (pc' := 1111) dL_law_1108 (by decide) rfl (fun hc => ?_) (fun hc => ?_)
    · rw [if_neg hc] at h
      refine X.goto (pc' := 2157) dL_law_1123 (by decide) ?_
      refine X.sub (L := [some (.ref 3000000), some (.ref a1), some (.ref a2), some (.ref a3), some (.ref a4), some (.int a5), none, none]) ?_ (⟨rfl, ⟨rfl, ⟨rfl, ⟨rfl, ⟨rfl, ⟨rfl, trivial⟩⟩⟩⟩⟩⟩)
      refine X.widen (k' := kk + 4) (n' := nn + 24) (by omega) (by omega) ?_
      exact hk _ h
    · rw [if_pos hc] at h
      refine X.aload_n (x := a3) (pc' := 1112) dL_law_1111 rfl rfl rfl ?_
      refine X.iconst (v := 0) (pc' := 1113) dL_law_1112 rfl (by decide) ?_
      obtain ⟨v22, e21, h⟩ := bindE h
      refine X.lald (pc' := 1114) dL_law_1113 rfl e21 ?_
      refine X.iload (x := v13) (pc' := 1116) dL_law_1114 rfl rfl ?_
      refine X.i2l (pc' := 1117) dL_law_1116 rfl ?_
      refine X.lcmp (pc' := 1118) dL_law_1117 rfl ?_
      refine X.if_eq (tgt := 1123) (pc' := 1121) dL_law_1118 (by decide) rfl (fun hc => ?_) (fun hc => ?_)
      · rw [if_pos hc] at h
        refine X.goto (pc' := 2157) dL_law_1123 (by decide) ?_
        refine X.sub (L := [some (.ref 3000000), some (.ref a1), some (.ref a2), some (.ref a3), some (.ref a4), some (.int a5), none, none]) ?_ (⟨rfl, ⟨rfl, ⟨rfl, ⟨rfl, ⟨rfl, ⟨rfl, trivial⟩⟩⟩⟩⟩⟩)
        refine X.widen (k' := kk + 4) (n' := nn + 24) (by omega) (by omega) ?_
        exact hk _ h
      · rw [if_neg hc] at h
        refine X.iconst (v := 0) (pc' := 1122) dL_law_1121 rfl (by decide) ?_
        cases h
        exact X.iret (ty := .boolean) dL_law_1122 rfl (by decide) (by show kk + 2 ≤ 601024; omega) (by show nn + 12 ≤ 7293033; omega) rfl
  · rw [if_neg hc] at h
    refine X.iconst (v := 0) (pc' := 1105) dL_law_1104 rfl (by decide) ?_
    cases h
    exact X.iret (ty := .boolean) dL_law_1105 rfl (by decide) (by show kk + 2 ≤ 601024; omega) (by show nn + 12 ≤ 7293033; omega) rfl
def g_16 (fu : Nat) (xs : List Int32) (a1 a2 a3 a4 : Nat) (a5 : Int32) (M : List Ob) (k : List Ob → Option (Int32 × List Ob)) : Option (Int32 × List Ob) :=
  (sGet xs (a5 + 1)).bind fun v1 =>
  (sGet xs (a5 + 2)).bind fun v3 =>
  bd2 (f_L_cost fu a1 v1 v3 a3 M) fun v5 M6 =>
  (sGet xs (a5 + 1)).bind fun v9 =>
  (sGet xs (a5 + 2)).bind fun v11 =>
  (hasO M6 a2 11).bind fun _ =>
  bd2 (f_X11_cost fu a2 v9 v11 M6) fun v13 M14 =>
  (hasO M14 a2 11).bind fun _ =>
  bd2 (f_X11_thrown fu a2 M14) fun v17 M18 =>
  if v17 = v5 then (if v5 = 0 then ((aJ M18 a3 0).bind fun v22 =>
  if (lg_cmp v22 ((v13 : Int32).toInt64)) = 0 then (k M18)
  else (some (0, M18)))
  else (k M18))
  else (some (0, M18))
set_option maxHeartbeats 4000000 in
theorem okg_16 {G : GT} (hz : gZ G = false) {fu : Nat} {xs : List Int32} (hX : gX G = xs) {a1 a2 a3 a4 : Nat} {a5 : Int32} {M : List Ob} {kk nn : Nat} (hkk : kk + 8 ≤ 601024) (hnn : nn + 48 ≤ 7293033) {k : List Ob → Option (Int32 × List Ob)} {out : Int32 × List Ob} (hk : ∀ M, k M = some out → X G t_L_law [] 2157 [some (.ref 3000000), some (.ref a1), some (.ref a2), some (.ref a3), some (.ref a4), some (.int a5), none, none] [] M (kk + 4) (nn + 24) (oI out)) (h : g_16 fu xs a1 a2 a3 a4 a5 M k = some out) : X G t_L_law [] 1126 [some (.ref 3000000), some (.ref a1), some (.ref a2), some (.ref a3), some (.ref a4), some (.int a5), none, none] [] M (kk + 0) (nn + 0) (oI out) := by
  unfold g_16 at h
  refine X.aload_n (x := a1) (pc' := 1127) dL_law_1126 rfl rfl rfl ?_
  refine X.aload_n (x := 3000000) (pc' := 1128) dL_law_1127 rfl rfl rfl ?_
  refine X.iload (x := a5) (pc' := 1130) dL_law_1128 rfl rfl ?_
  refine X.iconst (v := 1) (pc' := 1131) dL_law_1130 rfl (by decide) ?_
  refine X.iadd (pc' := 1132) dL_law_1131 rfl ?_
  obtain ⟨v1, e2, h⟩ := bindE h
  refine X.sld (pc' := 1133) dL_law_1132 rfl (by rw [hX]; exact e2) ?_
  refine X.aload_n (x := 3000000) (pc' := 1134) dL_law_1133 rfl rfl rfl ?_
  refine X.iload (x := a5) (pc' := 1136) dL_law_1134 rfl rfl ?_
  refine X.iconst (v := 2) (pc' := 1137) dL_law_1136 rfl (by decide) ?_
  refine X.iadd (pc' := 1138) dL_law_1137 rfl ?_
  obtain ⟨v3, e4, h⟩ := bindE h
  refine X.sld (pc' := 1139) dL_law_1138 rfl (by rw [hX]; exact e4) ?_
  refine X.aload_n (x := a3) (pc' := 1140) dL_law_1139 rfl rfl rfl ?_
  obtain ⟨v5, M6, e7, h⟩ := bd2E h
  refine X.callW (v := some (.int v5)) (As := [.ref a1, .int v1, .int v3, .ref a3]) (st := []) (M' := M6) (pc' := 1143) dL_law_1140 rfl cw_L_182 ⟨⟨Nat.le_of_ble_eq_true rfl, Nat.le_of_ble_eq_true rfl⟩, (by show kk + 0 + 1 ≤ 601024; omega), (by show nn + 0 + 6 ≤ 7293033; omega)⟩ rfl (Nat.le_of_ble_eq_true rfl) (ok_L_cost (G := zs G) (hz := hz) e7) ?_
  show X G t_L_law [] 1143 [some (.ref 3000000), some (.ref a1), some (.ref a2), some (.ref a3), some (.ref a4), some (.int a5), none, none] [.int v5] M6 (kk + 1) (nn + 6) _
  refine X.istore (L' := [some (.ref 3000000), some (.ref a1), some (.ref a2), some (.ref a3), some (.ref a4), some (.int a5), some (.int v5), none]) (pc' := 1145) dL_law_1143 rfl (Nat.le_of_ble_eq_true rfl) rfl ?_
  refine X.aload_n (x := a2) (pc' := 1146) dL_law_1145 rfl rfl rfl ?_
  refine X.aload_n (x := 3000000) (pc' := 1147) dL_law_1146 rfl rfl rfl ?_
  refine X.iload (x := a5) (pc' := 1149) dL_law_1147 rfl rfl ?_
  refine X.iconst (v := 1) (pc' := 1150) dL_law_1149 rfl (by decide) ?_
  refine X.iadd (pc' := 1151) dL_law_1150 rfl ?_
  obtain ⟨v9, e10, h⟩ := bindE h
  refine X.sld (pc' := 1152) dL_law_1151 rfl (by rw [hX]; exact e10) ?_
  refine X.aload_n (x := 3000000) (pc' := 1153) dL_law_1152 rfl rfl rfl ?_
  refine X.iload (x := a5) (pc' := 1155) dL_law_1153 rfl rfl ?_
  refine X.iconst (v := 2) (pc' := 1156) dL_law_1155 rfl (by decide) ?_
  refine X.iadd (pc' := 1157) dL_law_1156 rfl ?_
  obtain ⟨v11, e12, h⟩ := bindE h
  refine X.sld (pc' := 1158) dL_law_1157 rfl (by rw [hX]; exact e12) ?_
  obtain ⟨⟨⟩, e16, h⟩ := bindE h
  obtain ⟨v13, M14, e15, h⟩ := bd2E h
  refine X.callV (b := a2) (v := some (.int v13)) (As := [.int v9, .int v11]) (st := []) (M' := M14) (pc' := 1161) dL_law_1158 rfl cl_L_184 mi_X11_cost me_X11_cost mr_X11_cost e16 ⟨⟨Nat.le_of_ble_eq_true rfl, Nat.le_of_ble_eq_true rfl⟩, (by show kk + 1 + 0 ≤ 601024; omega), (by show nn + 6 + 0 ≤ 7293033; omega)⟩ rfl (Nat.le_of_ble_eq_true rfl) (ok_X11_cost (G := zs G) e15) ?_
  show X G t_L_law [] 1161 [some (.ref 3000000), some (.ref a1), some (.ref a2), some (.ref a3), some (.ref a4), some (.int a5), some (.int v5), none] [.int v13] M14 (kk + 1) (nn + 6) _
  refine X.istore (L' := [some (.ref 3000000), some (.ref a1), some (.ref a2), some (.ref a3), some (.ref a4), some (.int a5), some (.int v5), some (.int v13)]) (pc' := 1163) dL_law_1161 rfl (Nat.le_of_ble_eq_true rfl) rfl ?_
  refine X.aload_n (x := a2) (pc' := 1164) dL_law_1163 rfl rfl rfl ?_
  obtain ⟨⟨⟩, e20, h⟩ := bindE h
  obtain ⟨v17, M18, e19, h⟩ := bd2E h
  refine X.callV (b := a2) (v := some (.int v17)) (As := []) (st := []) (M' := M18) (pc' := 1167) dL_law_1164 rfl cl_L_127 mi_X11_thrown me_X11_thrown mr_X11_thrown e20 ⟨⟨Nat.le_of_ble_eq_true rfl, Nat.le_of_ble_eq_true rfl⟩, (by show kk + 1 + 0 ≤ 601024; omega), (by show nn + 6 + 0 ≤ 7293033; omega)⟩ rfl (Nat.le_of_ble_eq_true rfl) (ok_X11_thrown (G := zs G) e19) ?_
  show X G t_L_law [] 1167 [some (.ref 3000000), some (.ref a1), some (.ref a2), some (.ref a3), some (.ref a4), some (.int a5), some (.int v5), some (.int v13)] [.int v17] M18 (kk + 1) (nn + 6) _
  refine X.iload (x := v5) (pc' := 1169) dL_law_1167 rfl rfl ?_
  refine X.icmp_eq (tgt := 1174) (pc' := 1172) dL_law_1169 (by decide) rfl (fun hc => ?_) (fun hc => ?_)
  · rw [if_pos hc] at h
    refine X.iload (x := v5) (pc' := 1176) dL_law_1174 rfl rfl ?_
    refine X.if_ne (tgt := 1191) (pc' := 1179) dL_law_1176 (by decide) rfl (fun hc => ?_) (fun hc => ?_)
    · rw [if_neg hc] at h
      refine X.goto (pc' := 2157) dL_law_1191 (by decide) ?_
      refine X.sub (L := [some (.ref 3000000), some (.ref a1), some (.ref a2), some (.ref a3), some (.ref a4), some (.int a5), none, none]) ?_ (⟨rfl, ⟨rfl, ⟨rfl, ⟨rfl, ⟨rfl, ⟨rfl, trivial⟩⟩⟩⟩⟩⟩)
      refine X.widen (k' := kk + 4) (n' := nn + 24) (by omega) (by omega) ?_
      exact hk _ h
    · rw [if_pos hc] at h
      refine X.aload_n (x := a3) (pc' := 1180) dL_law_1179 rfl rfl rfl ?_
      refine X.iconst (v := 0) (pc' := 1181) dL_law_1180 rfl (by decide) ?_
      obtain ⟨v22, e21, h⟩ := bindE h
      refine X.lald (pc' := 1182) dL_law_1181 rfl e21 ?_
      refine X.iload (x := v13) (pc' := 1184) dL_law_1182 rfl rfl ?_
      refine X.i2l (pc' := 1185) dL_law_1184 rfl ?_
      refine X.lcmp (pc' := 1186) dL_law_1185 rfl ?_
      refine X.if_eq (tgt := 1191) (pc' := 1189) dL_law_1186 (by decide) rfl (fun hc => ?_) (fun hc => ?_)
      · rw [if_pos hc] at h
        refine X.goto (pc' := 2157) dL_law_1191 (by decide) ?_
        refine X.sub (L := [some (.ref 3000000), some (.ref a1), some (.ref a2), some (.ref a3), some (.ref a4), some (.int a5), none, none]) ?_ (⟨rfl, ⟨rfl, ⟨rfl, ⟨rfl, ⟨rfl, ⟨rfl, trivial⟩⟩⟩⟩⟩⟩)
        refine X.widen (k' := kk + 4) (n' := nn + 24) (by omega) (by omega) ?_
        exact hk _ h
      · rw [if_neg hc] at h
        refine X.iconst (v := 0) (pc' := 1190) dL_law_1189 rfl (by decide) ?_
        cases h
        exact X.iret (ty := .boolean) dL_law_1190 rfl (by decide) (by show kk + 1 ≤ 601024; omega) (by show nn + 6 ≤ 7293033; omega) rfl
  · rw [if_neg hc] at h
    refine X.iconst (v := 0) (pc' := 1173) dL_law_1172 rfl (by decide) ?_
    cases h
    exact X.iret (ty := .boolean) dL_law_1173 rfl (by decide) (by show kk + 1 ≤ 601024; omega) (by show nn + 6 ≤ 7293033; omega) rfl
def g_17 (fu : Nat) (xs : List Int32) (a1 a2 a3 a4 : Nat) (a5 : Int32) (M : List Ob) (k : List Ob → Option (Int32 × List Ob)) : Option (Int32 × List Ob) :=
  bd2 (f_L_chosen fu a1 a3 M) fun v1 M2 =>
  (hasO M2 a2 11).bind fun _ =>
  bd2 (f_X11_chosen fu a2 M2) fun v5 M6 =>
  (hasO M6 a2 11).bind fun _ =>
  bd2 (f_X11_thrown fu a2 M6) fun v9 M10 =>
  if v9 = v1 then (if v1 = 0 then ((aJ M10 a3 0).bind fun v14 =>
  if (lg_cmp v14 ((v5 : Int32).toInt64)) = 0 then (k M10)
  else (some (0, M10)))
  else (k M10))
  else (some (0, M10))
set_option maxHeartbeats 4000000 in
theorem okg_17 {G : GT} (hz : gZ G = false) {fu : Nat} {xs : List Int32} (hX : gX G = xs) {a1 a2 a3 a4 : Nat} {a5 : Int32} {M : List Ob} {kk nn : Nat} (hkk : kk + 8 ≤ 601024) (hnn : nn + 48 ≤ 7293033) {k : List Ob → Option (Int32 × List Ob)} {out : Int32 × List Ob} (hk : ∀ M, k M = some out → X G t_L_law [] 2157 [some (.ref 3000000), some (.ref a1), some (.ref a2), some (.ref a3), some (.ref a4), some (.int a5), none, none] [] M (kk + 4) (nn + 24) (oI out)) (h : g_17 fu xs a1 a2 a3 a4 a5 M k = some out) : X G t_L_law [] 1194 [some (.ref 3000000), some (.ref a1), some (.ref a2), some (.ref a3), some (.ref a4), some (.int a5), none, none] [] M (kk + 0) (nn + 0) (oI out) := by
  unfold g_17 at h
  refine X.aload_n (x := a1) (pc' := 1195) dL_law_1194 rfl rfl rfl ?_
  refine X.aload_n (x := a3) (pc' := 1196) dL_law_1195 rfl rfl rfl ?_
  obtain ⟨v1, M2, e3, h⟩ := bd2E h
  refine X.callW (v := some (.int v1)) (As := [.ref a1, .ref a3]) (st := []) (M' := M2) (pc' := 1199) dL_law_1196 rfl cw_L_185 ⟨⟨Nat.le_of_ble_eq_true rfl, Nat.le_of_ble_eq_true rfl⟩, (by show kk + 0 + 1 ≤ 601024; omega), (by show nn + 0 + 6 ≤ 7293033; omega)⟩ rfl (Nat.le_of_ble_eq_true rfl) (ok_L_chosen (G := zs G) (hz := hz) e3) ?_
  show X G t_L_law [] 1199 [some (.ref 3000000), some (.ref a1), some (.ref a2), some (.ref a3), some (.ref a4), some (.int a5), none, none] [.int v1] M2 (kk + 1) (nn + 6) _
  refine X.istore (L' := [some (.ref 3000000), some (.ref a1), some (.ref a2), some (.ref a3), some (.ref a4), some (.int a5), some (.int v1), none]) (pc' := 1201) dL_law_1199 rfl (Nat.le_of_ble_eq_true rfl) rfl ?_
  refine X.aload_n (x := a2) (pc' := 1202) dL_law_1201 rfl rfl rfl ?_
  obtain ⟨⟨⟩, e8, h⟩ := bindE h
  obtain ⟨v5, M6, e7, h⟩ := bd2E h
  refine X.callV (b := a2) (v := some (.int v5)) (As := []) (st := []) (M' := M6) (pc' := 1205) dL_law_1202 rfl cl_L_187 mi_X11_chosen me_X11_chosen mr_X11_chosen e8 ⟨⟨Nat.le_of_ble_eq_true rfl, Nat.le_of_ble_eq_true rfl⟩, (by show kk + 1 + 0 ≤ 601024; omega), (by show nn + 6 + 0 ≤ 7293033; omega)⟩ rfl (Nat.le_of_ble_eq_true rfl) (ok_X11_chosen (G := zs G) e7) ?_
  show X G t_L_law [] 1205 [some (.ref 3000000), some (.ref a1), some (.ref a2), some (.ref a3), some (.ref a4), some (.int a5), some (.int v1), none] [.int v5] M6 (kk + 1) (nn + 6) _
  refine X.istore (L' := [some (.ref 3000000), some (.ref a1), some (.ref a2), some (.ref a3), some (.ref a4), some (.int a5), some (.int v1), some (.int v5)]) (pc' := 1207) dL_law_1205 rfl (Nat.le_of_ble_eq_true rfl) rfl ?_
  refine X.aload_n (x := a2) (pc' := 1208) dL_law_1207 rfl rfl rfl ?_
  obtain ⟨⟨⟩, e12, h⟩ := bindE h
  obtain ⟨v9, M10, e11, h⟩ := bd2E h
  refine X.callV (b := a2) (v := some (.int v9)) (As := []) (st := []) (M' := M10) (pc' := 1211) dL_law_1208 rfl cl_L_127 mi_X11_thrown me_X11_thrown mr_X11_thrown e12 ⟨⟨Nat.le_of_ble_eq_true rfl, Nat.le_of_ble_eq_true rfl⟩, (by show kk + 1 + 0 ≤ 601024; omega), (by show nn + 6 + 0 ≤ 7293033; omega)⟩ rfl (Nat.le_of_ble_eq_true rfl) (ok_X11_thrown (G := zs G) e11) ?_
  show X G t_L_law [] 1211 [some (.ref 3000000), some (.ref a1), some (.ref a2), some (.ref a3), some (.ref a4), some (.int a5), some (.int v1), some (.int v5)] [.int v9] M10 (kk + 1) (nn + 6) _
  refine X.iload (x := v1) (pc' := 1213) dL_law_1211 rfl rfl ?_
  refine X.icmp_eq (tgt := 1218) (pc' := 1216) dL_law_1213 (by decide) rfl (fun hc => ?_) (fun hc => ?_)
  · rw [if_pos hc] at h
    refine X.iload (x := v1) (pc' := 1220) dL_law_1218 rfl rfl ?_
    refine X.if_ne (tgt := 1235) (pc' := 1223) dL_law_1220 (by decide) rfl (fun hc => ?_) (fun hc => ?_)
    · rw [if_neg hc] at h
      refine X.goto (pc' := 2157) dL_law_1235 (by decide) ?_
      refine X.sub (L := [some (.ref 3000000), some (.ref a1), some (.ref a2), some (.ref a3), some (.ref a4), some (.int a5), none, none]) ?_ (⟨rfl, ⟨rfl, ⟨rfl, ⟨rfl, ⟨rfl, ⟨rfl, trivial⟩⟩⟩⟩⟩⟩)
      refine X.widen (k' := kk + 4) (n' := nn + 24) (by omega) (by omega) ?_
      exact hk _ h
    · rw [if_pos hc] at h
      refine X.aload_n (x := a3) (pc' := 1224) dL_law_1223 rfl rfl rfl ?_
      refine X.iconst (v := 0) (pc' := 1225) dL_law_1224 rfl (by decide) ?_
      obtain ⟨v14, e13, h⟩ := bindE h
      refine X.lald (pc' := 1226) dL_law_1225 rfl e13 ?_
      refine X.iload (x := v5) (pc' := 1228) dL_law_1226 rfl rfl ?_
      refine X.i2l (pc' := 1229) dL_law_1228 rfl ?_
      refine X.lcmp (pc' := 1230) dL_law_1229 rfl ?_
      refine X.if_eq (tgt := 1235) (pc' := 1233) dL_law_1230 (by decide) rfl (fun hc => ?_) (fun hc => ?_)
      · rw [if_pos hc] at h
        refine X.goto (pc' := 2157) dL_law_1235 (by decide) ?_
        refine X.sub (L := [some (.ref 3000000), some (.ref a1), some (.ref a2), some (.ref a3), some (.ref a4), some (.int a5), none, none]) ?_ (⟨rfl, ⟨rfl, ⟨rfl, ⟨rfl, ⟨rfl, ⟨rfl, trivial⟩⟩⟩⟩⟩⟩)
        refine X.widen (k' := kk + 4) (n' := nn + 24) (by omega) (by omega) ?_
        exact hk _ h
      · rw [if_neg hc] at h
        refine X.iconst (v := 0) (pc' := 1234) dL_law_1233 rfl (by decide) ?_
        cases h
        exact X.iret (ty := .boolean) dL_law_1234 rfl (by decide) (by show kk + 1 ≤ 601024; omega) (by show nn + 6 ≤ 7293033; omega) rfl
  · rw [if_neg hc] at h
    refine X.iconst (v := 0) (pc' := 1217) dL_law_1216 rfl (by decide) ?_
    cases h
    exact X.iret (ty := .boolean) dL_law_1217 rfl (by decide) (by show kk + 1 ≤ 601024; omega) (by show nn + 6 ≤ 7293033; omega) rfl
def g_18 (fu : Nat) (xs : List Int32) (a1 a2 a3 a4 : Nat) (a5 : Int32) (M : List Ob) (k : List Ob → Option (Int32 × List Ob)) : Option (Int32 × List Ob) :=
  (sGet xs (a5 + 1)).bind fun v1 =>
  (sGet xs (a5 + 2)).bind fun v3 =>
  bd2 (f_L_beats fu a1 v1 v3 a3 M) fun v5 M6 =>
  (sGet xs (a5 + 1)).bind fun v9 =>
  (sGet xs (a5 + 2)).bind fun v11 =>
  (hasO M6 a2 11).bind fun _ =>
  bd2 (f_X11_beats fu a2 v9 v11 M6) fun v13 M14 =>
  (hasO M14 a2 11).bind fun _ =>
  bd2 (f_X11_thrown fu a2 M14) fun v17 M18 =>
  if v17 = v5 then (if v5 = 0 then ((aJ M18 a3 0).bind fun v22 =>
  if v13 = 0 then (if (lg_cmp v22 0) = 0 then (k M18)
  else (some (0, M18)))
  else (if (lg_cmp v22 1) = 0 then (k M18)
  else (some (0, M18))))
  else (k M18))
  else (some (0, M18))
set_option maxHeartbeats 4000000 in
theorem okg_18 {G : GT} (hz : gZ G = false) {fu : Nat} {xs : List Int32} (hX : gX G = xs) {a1 a2 a3 a4 : Nat} {a5 : Int32} {M : List Ob} {kk nn : Nat} (hkk : kk + 8 ≤ 601024) (hnn : nn + 48 ≤ 7293033) {k : List Ob → Option (Int32 × List Ob)} {out : Int32 × List Ob} (hk : ∀ M, k M = some out → X G t_L_law [] 2157 [some (.ref 3000000), some (.ref a1), some (.ref a2), some (.ref a3), some (.ref a4), some (.int a5), none, none] [] M (kk + 4) (nn + 24) (oI out)) (h : g_18 fu xs a1 a2 a3 a4 a5 M k = some out) : X G t_L_law [] 1238 [some (.ref 3000000), some (.ref a1), some (.ref a2), some (.ref a3), some (.ref a4), some (.int a5), none, none] [] M (kk + 0) (nn + 0) (oI out) := by
  unfold g_18 at h
  refine X.aload_n (x := a1) (pc' := 1239) dL_law_1238 rfl rfl rfl ?_
  refine X.aload_n (x := 3000000) (pc' := 1240) dL_law_1239 rfl rfl rfl ?_
  refine X.iload (x := a5) (pc' := 1242) dL_law_1240 rfl rfl ?_
  refine X.iconst (v := 1) (pc' := 1243) dL_law_1242 rfl (by decide) ?_
  refine X.iadd (pc' := 1244) dL_law_1243 rfl ?_
  obtain ⟨v1, e2, h⟩ := bindE h
  refine X.sld (pc' := 1245) dL_law_1244 rfl (by rw [hX]; exact e2) ?_
  refine X.aload_n (x := 3000000) (pc' := 1246) dL_law_1245 rfl rfl rfl ?_
  refine X.iload (x := a5) (pc' := 1248) dL_law_1246 rfl rfl ?_
  refine X.iconst (v := 2) (pc' := 1249) dL_law_1248 rfl (by decide) ?_
  refine X.iadd (pc' := 1250) dL_law_1249 rfl ?_
  obtain ⟨v3, e4, h⟩ := bindE h
  refine X.sld (pc' := 1251) dL_law_1250 rfl (by rw [hX]; exact e4) ?_
  refine X.aload_n (x := a3) (pc' := 1252) dL_law_1251 rfl rfl rfl ?_
  obtain ⟨v5, M6, e7, h⟩ := bd2E h
  refine X.callW (v := some (.int v5)) (As := [.ref a1, .int v1, .int v3, .ref a3]) (st := []) (M' := M6) (pc' := 1255) dL_law_1252 rfl cw_L_188 ⟨⟨Nat.le_of_ble_eq_true rfl, Nat.le_of_ble_eq_true rfl⟩, (by show kk + 0 + 2 ≤ 601024; omega), (by show nn + 0 + 12 ≤ 7293033; omega)⟩ rfl (Nat.le_of_ble_eq_true rfl) (ok_L_beats (G := zs G) (hz := hz) e7) ?_
  show X G t_L_law [] 1255 [some (.ref 3000000), some (.ref a1), some (.ref a2), some (.ref a3), some (.ref a4), some (.int a5), none, none] [.int v5] M6 (kk + 2) (nn + 12) _
  refine X.istore (L' := [some (.ref 3000000), some (.ref a1), some (.ref a2), some (.ref a3), some (.ref a4), some (.int a5), some (.int v5), none]) (pc' := 1257) dL_law_1255 rfl (Nat.le_of_ble_eq_true rfl) rfl ?_
  refine X.aload_n (x := a2) (pc' := 1258) dL_law_1257 rfl rfl rfl ?_
  refine X.aload_n (x := 3000000) (pc' := 1259) dL_law_1258 rfl rfl rfl ?_
  refine X.iload (x := a5) (pc' := 1261) dL_law_1259 rfl rfl ?_
  refine X.iconst (v := 1) (pc' := 1262) dL_law_1261 rfl (by decide) ?_
  refine X.iadd (pc' := 1263) dL_law_1262 rfl ?_
  obtain ⟨v9, e10, h⟩ := bindE h
  refine X.sld (pc' := 1264) dL_law_1263 rfl (by rw [hX]; exact e10) ?_
  refine X.aload_n (x := 3000000) (pc' := 1265) dL_law_1264 rfl rfl rfl ?_
  refine X.iload (x := a5) (pc' := 1267) dL_law_1265 rfl rfl ?_
  refine X.iconst (v := 2) (pc' := 1268) dL_law_1267 rfl (by decide) ?_
  refine X.iadd (pc' := 1269) dL_law_1268 rfl ?_
  obtain ⟨v11, e12, h⟩ := bindE h
  refine X.sld (pc' := 1270) dL_law_1269 rfl (by rw [hX]; exact e12) ?_
  obtain ⟨⟨⟩, e16, h⟩ := bindE h
  obtain ⟨v13, M14, e15, h⟩ := bd2E h
  refine X.callV (b := a2) (v := some (.int v13)) (As := [.int v9, .int v11]) (st := []) (M' := M14) (pc' := 1273) dL_law_1270 rfl cl_L_190 mi_X11_beats me_X11_beats mr_X11_beats e16 ⟨⟨Nat.le_of_ble_eq_true rfl, Nat.le_of_ble_eq_true rfl⟩, (by show kk + 2 + 0 ≤ 601024; omega), (by show nn + 12 + 0 ≤ 7293033; omega)⟩ rfl (Nat.le_of_ble_eq_true rfl) (ok_X11_beats (G := zs G) e15) ?_
  show X G t_L_law [] 1273 [some (.ref 3000000), some (.ref a1), some (.ref a2), some (.ref a3), some (.ref a4), some (.int a5), some (.int v5), none] [.int v13] M14 (kk + 2) (nn + 12) _
  refine X.istore (L' := [some (.ref 3000000), some (.ref a1), some (.ref a2), some (.ref a3), some (.ref a4), some (.int a5), some (.int v5), some (.int v13)]) (pc' := 1275) dL_law_1273 rfl (Nat.le_of_ble_eq_true rfl) rfl ?_
  refine X.aload_n (x := a2) (pc' := 1276) dL_law_1275 rfl rfl rfl ?_
  obtain ⟨⟨⟩, e20, h⟩ := bindE h
  obtain ⟨v17, M18, e19, h⟩ := bd2E h
  refine X.callV (b := a2) (v := some (.int v17)) (As := []) (st := []) (M' := M18) (pc' := 1279) dL_law_1276 rfl cl_L_127 mi_X11_thrown me_X11_thrown mr_X11_thrown e20 ⟨⟨Nat.le_of_ble_eq_true rfl, Nat.le_of_ble_eq_true rfl⟩, (by show kk + 2 + 0 ≤ 601024; omega), (by show nn + 12 + 0 ≤ 7293033; omega)⟩ rfl (Nat.le_of_ble_eq_true rfl) (ok_X11_thrown (G := zs G) e19) ?_
  show X G t_L_law [] 1279 [some (.ref 3000000), some (.ref a1), some (.ref a2), some (.ref a3), some (.ref a4), some (.int a5), some (.int v5), some (.int v13)] [.int v17] M18 (kk + 2) (nn + 12) _
  refine X.iload (x := v5) (pc' := 1281) dL_law_1279 rfl rfl ?_
  refine X.icmp_eq (tgt := 1286) (pc' := 1284) dL_law_1281 (by decide) rfl (fun hc => ?_) (fun hc => ?_)
  · rw [if_pos hc] at h
    refine X.iload (x := v5) (pc' := 1288) dL_law_1286 rfl rfl ?_
    refine X.if_ne (tgt := 1310) (pc' := 1291) dL_law_1288 (by decide) rfl (fun hc => ?_) (fun hc => ?_)
    · rw [if_neg hc] at h
      refine X.goto (pc' := 2157) dL_law_1310 (by decide) ?_
      refine X.sub (L := [some (.ref 3000000), some (.ref a1), some (.ref a2), some (.ref a3), some (.ref a4), some (.int a5), none, none]) ?_ (⟨rfl, ⟨rfl, ⟨rfl, ⟨rfl, ⟨rfl, ⟨rfl, trivial⟩⟩⟩⟩⟩⟩)
      refine X.widen (k' := kk + 4) (n' := nn + 24) (by omega) (by omega) ?_
      exact hk _ h
    · rw [if_pos hc] at h
      refine X.aload_n (x := a3) (pc' := 1292) dL_law_1291 rfl rfl rfl ?_
      refine X.iconst (v := 0) (pc' := 1293) dL_law_1292 rfl (by decide) ?_
      obtain ⟨v22, e21, h⟩ := bindE h
      refine X.lald (pc' := 1294) dL_law_1293 rfl e21 ?_
      refine X.iload (x := v13) (pc' := 1296) dL_law_1294 rfl rfl ?_
      refine X.if_eq (tgt := 1303) (pc' := 1299) dL_law_1296 (by decide) rfl (fun hc => ?_) (fun hc => ?_)
      · rw [if_pos hc] at h
        refine X.lconst (v := 0) (pc' := 1304) dL_law_1303 rfl (by decide) ?_
        refine X.lcmp (pc' := 1305) dL_law_1304 rfl ?_
        refine X.if_eq (tgt := 1310) (pc' := 1308) dL_law_1305 (by decide) rfl (fun hc => ?_) (fun hc => ?_)
        · rw [if_pos hc] at h
          refine X.goto (pc' := 2157) dL_law_1310 (by decide) ?_
          refine X.sub (L := [some (.ref 3000000), some (.ref a1), some (.ref a2), some (.ref a3), some (.ref a4), some (.int a5), none, none]) ?_ (⟨rfl, ⟨rfl, ⟨rfl, ⟨rfl, ⟨rfl, ⟨rfl, trivial⟩⟩⟩⟩⟩⟩)
          refine X.widen (k' := kk + 4) (n' := nn + 24) (by omega) (by omega) ?_
          exact hk _ h
        · rw [if_neg hc] at h
          refine X.iconst (v := 0) (pc' := 1309) dL_law_1308 rfl (by decide) ?_
          cases h
          exact X.iret (ty := .boolean) dL_law_1309 rfl (by decide) (by show kk + 2 ≤ 601024; omega) (by show nn + 12 ≤ 7293033; omega) rfl
      · rw [if_neg hc] at h
        refine X.lconst (v := 1) (pc' := 1300) dL_law_1299 rfl (by decide) ?_
        refine X.goto (pc' := 1304) dL_law_1300 (by decide) ?_
        refine X.lcmp (pc' := 1305) dL_law_1304 rfl ?_
        refine X.if_eq (tgt := 1310) (pc' := 1308) dL_law_1305 (by decide) rfl (fun hc => ?_) (fun hc => ?_)
        · rw [if_pos hc] at h
          refine X.goto (pc' := 2157) dL_law_1310 (by decide) ?_
          refine X.sub (L := [some (.ref 3000000), some (.ref a1), some (.ref a2), some (.ref a3), some (.ref a4), some (.int a5), none, none]) ?_ (⟨rfl, ⟨rfl, ⟨rfl, ⟨rfl, ⟨rfl, ⟨rfl, trivial⟩⟩⟩⟩⟩⟩)
          refine X.widen (k' := kk + 4) (n' := nn + 24) (by omega) (by omega) ?_
          exact hk _ h
        · rw [if_neg hc] at h
          refine X.iconst (v := 0) (pc' := 1309) dL_law_1308 rfl (by decide) ?_
          cases h
          exact X.iret (ty := .boolean) dL_law_1309 rfl (by decide) (by show kk + 2 ≤ 601024; omega) (by show nn + 12 ≤ 7293033; omega) rfl
  · rw [if_neg hc] at h
    refine X.iconst (v := 0) (pc' := 1285) dL_law_1284 rfl (by decide) ?_
    cases h
    exact X.iret (ty := .boolean) dL_law_1285 rfl (by decide) (by show kk + 2 ≤ 601024; omega) (by show nn + 12 ≤ 7293033; omega) rfl
def g_19 (fu : Nat) (xs : List Int32) (a1 a2 a3 a4 : Nat) (a5 : Int32) (M : List Ob) (k : List Ob → Option (Int32 × List Ob)) : Option (Int32 × List Ob) :=
  (sGet xs (a5 + 1)).bind fun v1 =>
  bd2 (f_L_strain fu a1 v1 a4 M) fun v3 M4 =>
  (sGet xs (a5 + 1)).bind fun v7 =>
  (hasO M4 a2 11).bind fun _ =>
  bd2 (f_X11_strain fu a2 v7 M4) fun r9 M10 =>
  (hasO M10 a2 11).bind fun _ =>
  bd2 (f_X11_thrown fu a2 M10) fun v13 M14 =>
  if v13 = v3 then (if v3 = 0 then ((aD M14 a4 0).bind fun v18 =>
  if (FP.f2d r9) &&& 0x7fffffffffffffff ≤ 0x7ff0000000000000 then
  (if (Op.cmpValue (FP.dcmp v18 (FP.f2d r9)) .l) = 0 then (k M14)
  else ((aD M14 a4 0).bind fun v20 =>
  (aD M14 a4 0).bind fun v22 =>
  if (Op.cmpValue (FP.dcmp v20 v22) .l) = 0 then (some (0, M14))
  else (if (Op.cmpValue (FP.fcmp r9 r9) .l) = 0 then (some (0, M14))
  else (k M14))))
  else none)
  else (k M14))
  else (some (0, M14))
set_option maxHeartbeats 4000000 in
theorem okg_19 {G : GT} (hz : gZ G = false) {fu : Nat} {xs : List Int32} (hX : gX G = xs) {a1 a2 a3 a4 : Nat} {a5 : Int32} {M : List Ob} {kk nn : Nat} (hkk : kk + 8 ≤ 601024) (hnn : nn + 48 ≤ 7293033) {k : List Ob → Option (Int32 × List Ob)} {out : Int32 × List Ob} (hk : ∀ M, k M = some out → X G t_L_law [] 2157 [some (.ref 3000000), some (.ref a1), some (.ref a2), some (.ref a3), some (.ref a4), some (.int a5), none, none] [] M (kk + 4) (nn + 24) (oI out)) (h : g_19 fu xs a1 a2 a3 a4 a5 M k = some out) : X G t_L_law [] 1313 [some (.ref 3000000), some (.ref a1), some (.ref a2), some (.ref a3), some (.ref a4), some (.int a5), none, none] [] M (kk + 0) (nn + 0) (oI out) := by
  unfold g_19 at h
  refine X.aload_n (x := a1) (pc' := 1314) dL_law_1313 rfl rfl rfl ?_
  refine X.aload_n (x := 3000000) (pc' := 1315) dL_law_1314 rfl rfl rfl ?_
  refine X.iload (x := a5) (pc' := 1317) dL_law_1315 rfl rfl ?_
  refine X.iconst (v := 1) (pc' := 1318) dL_law_1317 rfl (by decide) ?_
  refine X.iadd (pc' := 1319) dL_law_1318 rfl ?_
  obtain ⟨v1, e2, h⟩ := bindE h
  refine X.sld (pc' := 1320) dL_law_1319 rfl (by rw [hX]; exact e2) ?_
  refine X.aload (x := a4) (pc' := 1322) dL_law_1320 rfl rfl ?_
  obtain ⟨v3, M4, e5, h⟩ := bd2E h
  refine X.callW (v := some (.int v3)) (As := [.ref a1, .int v1, .ref a4]) (st := []) (M' := M4) (pc' := 1325) dL_law_1322 rfl cw_L_191 ⟨⟨Nat.le_of_ble_eq_true rfl, Nat.le_of_ble_eq_true rfl⟩, (by show kk + 0 + 1 ≤ 601024; omega), (by show nn + 0 + 6 ≤ 7293033; omega)⟩ rfl (Nat.le_of_ble_eq_true rfl) (ok_L_strain (G := zs G) (hz := hz) e5) ?_
  show X G t_L_law [] 1325 [some (.ref 3000000), some (.ref a1), some (.ref a2), some (.ref a3), some (.ref a4), some (.int a5), none, none] [.int v3] M4 (kk + 1) (nn + 6) _
  refine X.istore (L' := [some (.ref 3000000), some (.ref a1), some (.ref a2), some (.ref a3), some (.ref a4), some (.int a5), some (.int v3), none]) (pc' := 1327) dL_law_1325 rfl (Nat.le_of_ble_eq_true rfl) rfl ?_
  refine X.aload_n (x := a2) (pc' := 1328) dL_law_1327 rfl rfl rfl ?_
  refine X.aload_n (x := 3000000) (pc' := 1329) dL_law_1328 rfl rfl rfl ?_
  refine X.iload (x := a5) (pc' := 1331) dL_law_1329 rfl rfl ?_
  refine X.iconst (v := 1) (pc' := 1332) dL_law_1331 rfl (by decide) ?_
  refine X.iadd (pc' := 1333) dL_law_1332 rfl ?_
  obtain ⟨v7, e8, h⟩ := bindE h
  refine X.sld (pc' := 1334) dL_law_1333 rfl (by rw [hX]; exact e8) ?_
  obtain ⟨⟨⟩, e12, h⟩ := bindE h
  obtain ⟨r9, M10, e11, h⟩ := bd2E h
  refine X.callV (b := a2) (v := some (.float r9)) (As := [.int v7]) (st := []) (M' := M10) (pc' := 1337) dL_law_1334 rfl cl_L_194 mi_X11_strain me_X11_strain mr_X11_strain e12 ⟨⟨Nat.le_of_ble_eq_true rfl, Nat.le_of_ble_eq_true rfl⟩, (by show kk + 1 + 0 ≤ 601024; omega), (by show nn + 6 + 0 ≤ 7293033; omega)⟩ rfl (Nat.le_of_ble_eq_true rfl) (ok_X11_strain (G := zs G) e11) ?_
  show X G t_L_law [] 1337 [some (.ref 3000000), some (.ref a1), some (.ref a2), some (.ref a3), some (.ref a4), some (.int a5), some (.int v3), none] [.float r9] M10 (kk + 1) (nn + 6) _
  refine X.fstore (L' := [some (.ref 3000000), some (.ref a1), some (.ref a2), some (.ref a3), some (.ref a4), some (.int a5), some (.int v3), some (.float r9)]) (pc' := 1339) dL_law_1337 rfl (Nat.le_of_ble_eq_true rfl) rfl ?_
  refine X.aload_n (x := a2) (pc' := 1340) dL_law_1339 rfl rfl rfl ?_
  obtain ⟨⟨⟩, e16, h⟩ := bindE h
  obtain ⟨v13, M14, e15, h⟩ := bd2E h
  refine X.callV (b := a2) (v := some (.int v13)) (As := []) (st := []) (M' := M14) (pc' := 1343) dL_law_1340 rfl cl_L_127 mi_X11_thrown me_X11_thrown mr_X11_thrown e16 ⟨⟨Nat.le_of_ble_eq_true rfl, Nat.le_of_ble_eq_true rfl⟩, (by show kk + 1 + 0 ≤ 601024; omega), (by show nn + 6 + 0 ≤ 7293033; omega)⟩ rfl (Nat.le_of_ble_eq_true rfl) (ok_X11_thrown (G := zs G) e15) ?_
  show X G t_L_law [] 1343 [some (.ref 3000000), some (.ref a1), some (.ref a2), some (.ref a3), some (.ref a4), some (.int a5), some (.int v3), some (.float r9)] [.int v13] M14 (kk + 1) (nn + 6) _
  refine X.iload (x := v3) (pc' := 1345) dL_law_1343 rfl rfl ?_
  refine X.icmp_eq (tgt := 1350) (pc' := 1348) dL_law_1345 (by decide) rfl (fun hc => ?_) (fun hc => ?_)
  · rw [if_pos hc] at h
    refine X.iload (x := v3) (pc' := 1352) dL_law_1350 rfl rfl ?_
    refine X.if_ne (tgt := 1388) (pc' := 1355) dL_law_1352 (by decide) rfl (fun hc => ?_) (fun hc => ?_)
    · rw [if_neg hc] at h
      refine X.goto (pc' := 2157) dL_law_1388 (by decide) ?_
      refine X.sub (L := [some (.ref 3000000), some (.ref a1), some (.ref a2), some (.ref a3), some (.ref a4), some (.int a5), none, none]) ?_ (⟨rfl, ⟨rfl, ⟨rfl, ⟨rfl, ⟨rfl, ⟨rfl, trivial⟩⟩⟩⟩⟩⟩)
      refine X.widen (k' := kk + 4) (n' := nn + 24) (by omega) (by omega) ?_
      exact hk _ h
    · rw [if_pos hc] at h
      refine X.aload (x := a4) (pc' := 1357) dL_law_1355 rfl rfl ?_
      refine X.iconst (v := 0) (pc' := 1358) dL_law_1357 rfl (by decide) ?_
      obtain ⟨v18, e17, h⟩ := bindE h
      refine X.dald (pc' := 1359) dL_law_1358 rfl e17 ?_
      refine X.fload (x := r9) (pc' := 1361) dL_law_1359 rfl rfl ?_
      split at h
      rotate_left
      · cases h
      rename_i hn9
      refine X.f2d (pc' := 1362) dL_law_1361 rfl hn9 ?_
      refine X.dcmp (pc' := 1363) dL_law_1362 rfl ?_
      refine X.if_eq (tgt := 1388) (pc' := 1366) dL_law_1363 (by decide) rfl (fun hc => ?_) (fun hc => ?_)
      · rw [if_pos hc] at h
        refine X.goto (pc' := 2157) dL_law_1388 (by decide) ?_
        refine X.sub (L := [some (.ref 3000000), some (.ref a1), some (.ref a2), some (.ref a3), some (.ref a4), some (.int a5), none, none]) ?_ (⟨rfl, ⟨rfl, ⟨rfl, ⟨rfl, ⟨rfl, ⟨rfl, trivial⟩⟩⟩⟩⟩⟩)
        refine X.widen (k' := kk + 4) (n' := nn + 24) (by omega) (by omega) ?_
        exact hk _ h
      · rw [if_neg hc] at h
        refine X.aload (x := a4) (pc' := 1368) dL_law_1366 rfl rfl ?_
        refine X.iconst (v := 0) (pc' := 1369) dL_law_1368 rfl (by decide) ?_
        obtain ⟨v20, e19, h⟩ := bindE h
        refine X.dald (pc' := 1370) dL_law_1369 rfl e19 ?_
        refine X.aload (x := a4) (pc' := 1372) dL_law_1370 rfl rfl ?_
        refine X.iconst (v := 0) (pc' := 1373) dL_law_1372 rfl (by decide) ?_
        obtain ⟨v22, e21, h⟩ := bindE h
        refine X.dald (pc' := 1374) dL_law_1373 rfl e21 ?_
        refine X.dcmp (pc' := 1375) dL_law_1374 rfl ?_
        refine X.if_eq (tgt := 1386) (pc' := 1378) dL_law_1375 (by decide) rfl (fun hc => ?_) (fun hc => ?_)
        · rw [if_pos hc] at h
          refine X.iconst (v := 0) (pc' := 1387) dL_law_1386 rfl (by decide) ?_
          cases h
          exact X.iret (ty := .boolean) dL_law_1387 rfl (by decide) (by show kk + 1 ≤ 601024; omega) (by show nn + 6 ≤ 7293033; omega) rfl
        · rw [if_neg hc] at h
          refine X.fload (x := r9) (pc' := 1380) dL_law_1378 rfl rfl ?_
          refine X.fload (x := r9) (pc' := 1382) dL_law_1380 rfl rfl ?_
          refine X.fcmp (pc' := 1383) dL_law_1382 rfl ?_
          refine X.if_ne (tgt := 1388) (pc' := 1386) dL_law_1383 (by decide) rfl (fun hc => ?_) (fun hc => ?_)
          · rw [if_neg hc] at h
            refine X.goto (pc' := 2157) dL_law_1388 (by decide) ?_
            refine X.sub (L := [some (.ref 3000000), some (.ref a1), some (.ref a2), some (.ref a3), some (.ref a4), some (.int a5), none, none]) ?_ (⟨rfl, ⟨rfl, ⟨rfl, ⟨rfl, ⟨rfl, ⟨rfl, trivial⟩⟩⟩⟩⟩⟩)
            refine X.widen (k' := kk + 4) (n' := nn + 24) (by omega) (by omega) ?_
            exact hk _ h
          · rw [if_pos hc] at h
            refine X.iconst (v := 0) (pc' := 1387) dL_law_1386 rfl (by decide) ?_
            cases h
            exact X.iret (ty := .boolean) dL_law_1387 rfl (by decide) (by show kk + 1 ≤ 601024; omega) (by show nn + 6 ≤ 7293033; omega) rfl
  · rw [if_neg hc] at h
    refine X.iconst (v := 0) (pc' := 1349) dL_law_1348 rfl (by decide) ?_
    cases h
    exact X.iret (ty := .boolean) dL_law_1349 rfl (by decide) (by show kk + 1 ≤ 601024; omega) (by show nn + 6 ≤ 7293033; omega) rfl
def g_20 (fu : Nat) (xs : List Int32) (a1 a2 a3 a4 : Nat) (a5 : Int32) (M : List Ob) (k : List Ob → Option (Int32 × List Ob)) : Option (Int32 × List Ob) :=
  (sGet xs (a5 + 1)).bind fun v1 =>
  bd2 (f_L_shortest fu a1 v1 a3 M) fun v3 M4 =>
  (sGet xs (a5 + 1)).bind fun v7 =>
  (hasO M4 a2 11).bind fun _ =>
  bd2 (f_X11_shortest fu a2 v7 M4) fun v9 M10 =>
  (hasO M10 a2 11).bind fun _ =>
  bd2 (f_X11_thrown fu a2 M10) fun v13 M14 =>
  if v13 = v3 then (if v3 = 0 then ((aJ M14 a3 0).bind fun v18 =>
  if (lg_cmp v18 ((v9 : Int32).toInt64)) = 0 then (k M14)
  else (some (0, M14)))
  else (k M14))
  else (some (0, M14))
set_option maxHeartbeats 4000000 in
theorem okg_20 {G : GT} (hz : gZ G = false) {fu : Nat} {xs : List Int32} (hX : gX G = xs) {a1 a2 a3 a4 : Nat} {a5 : Int32} {M : List Ob} {kk nn : Nat} (hkk : kk + 8 ≤ 601024) (hnn : nn + 48 ≤ 7293033) {k : List Ob → Option (Int32 × List Ob)} {out : Int32 × List Ob} (hk : ∀ M, k M = some out → X G t_L_law [] 2157 [some (.ref 3000000), some (.ref a1), some (.ref a2), some (.ref a3), some (.ref a4), some (.int a5), none, none] [] M (kk + 4) (nn + 24) (oI out)) (h : g_20 fu xs a1 a2 a3 a4 a5 M k = some out) : X G t_L_law [] 1391 [some (.ref 3000000), some (.ref a1), some (.ref a2), some (.ref a3), some (.ref a4), some (.int a5), none, none] [] M (kk + 0) (nn + 0) (oI out) := by
  unfold g_20 at h
  refine X.aload_n (x := a1) (pc' := 1392) dL_law_1391 rfl rfl rfl ?_
  refine X.aload_n (x := 3000000) (pc' := 1393) dL_law_1392 rfl rfl rfl ?_
  refine X.iload (x := a5) (pc' := 1395) dL_law_1393 rfl rfl ?_
  refine X.iconst (v := 1) (pc' := 1396) dL_law_1395 rfl (by decide) ?_
  refine X.iadd (pc' := 1397) dL_law_1396 rfl ?_
  obtain ⟨v1, e2, h⟩ := bindE h
  refine X.sld (pc' := 1398) dL_law_1397 rfl (by rw [hX]; exact e2) ?_
  refine X.aload_n (x := a3) (pc' := 1399) dL_law_1398 rfl rfl rfl ?_
  obtain ⟨v3, M4, e5, h⟩ := bd2E h
  refine X.callW (v := some (.int v3)) (As := [.ref a1, .int v1, .ref a3]) (st := []) (M' := M4) (pc' := 1402) dL_law_1399 rfl cw_L_195 ⟨⟨Nat.le_of_ble_eq_true rfl, Nat.le_of_ble_eq_true rfl⟩, (by show kk + 0 + 1 ≤ 601024; omega), (by show nn + 0 + 6 ≤ 7293033; omega)⟩ rfl (Nat.le_of_ble_eq_true rfl) (ok_L_shortest (G := zs G) (hz := hz) e5) ?_
  show X G t_L_law [] 1402 [some (.ref 3000000), some (.ref a1), some (.ref a2), some (.ref a3), some (.ref a4), some (.int a5), none, none] [.int v3] M4 (kk + 1) (nn + 6) _
  refine X.istore (L' := [some (.ref 3000000), some (.ref a1), some (.ref a2), some (.ref a3), some (.ref a4), some (.int a5), some (.int v3), none]) (pc' := 1404) dL_law_1402 rfl (Nat.le_of_ble_eq_true rfl) rfl ?_
  refine X.aload_n (x := a2) (pc' := 1405) dL_law_1404 rfl rfl rfl ?_
  refine X.aload_n (x := 3000000) (pc' := 1406) dL_law_1405 rfl rfl rfl ?_
  refine X.iload (x := a5) (pc' := 1408) dL_law_1406 rfl rfl ?_
  refine X.iconst (v := 1) (pc' := 1409) dL_law_1408 rfl (by decide) ?_
  refine X.iadd (pc' := 1410) dL_law_1409 rfl ?_
  obtain ⟨v7, e8, h⟩ := bindE h
  refine X.sld (pc' := 1411) dL_law_1410 rfl (by rw [hX]; exact e8) ?_
  obtain ⟨⟨⟩, e12, h⟩ := bindE h
  obtain ⟨v9, M10, e11, h⟩ := bd2E h
  refine X.callV (b := a2) (v := some (.int v9)) (As := [.int v7]) (st := []) (M' := M10) (pc' := 1414) dL_law_1411 rfl cl_L_197 mi_X11_shortest me_X11_shortest mr_X11_shortest e12 ⟨⟨Nat.le_of_ble_eq_true rfl, Nat.le_of_ble_eq_true rfl⟩, (by show kk + 1 + 0 ≤ 601024; omega), (by show nn + 6 + 0 ≤ 7293033; omega)⟩ rfl (Nat.le_of_ble_eq_true rfl) (ok_X11_shortest (G := zs G) e11) ?_
  show X G t_L_law [] 1414 [some (.ref 3000000), some (.ref a1), some (.ref a2), some (.ref a3), some (.ref a4), some (.int a5), some (.int v3), none] [.int v9] M10 (kk + 1) (nn + 6) _
  refine X.istore (L' := [some (.ref 3000000), some (.ref a1), some (.ref a2), some (.ref a3), some (.ref a4), some (.int a5), some (.int v3), some (.int v9)]) (pc' := 1416) dL_law_1414 rfl (Nat.le_of_ble_eq_true rfl) rfl ?_
  refine X.aload_n (x := a2) (pc' := 1417) dL_law_1416 rfl rfl rfl ?_
  obtain ⟨⟨⟩, e16, h⟩ := bindE h
  obtain ⟨v13, M14, e15, h⟩ := bd2E h
  refine X.callV (b := a2) (v := some (.int v13)) (As := []) (st := []) (M' := M14) (pc' := 1420) dL_law_1417 rfl cl_L_127 mi_X11_thrown me_X11_thrown mr_X11_thrown e16 ⟨⟨Nat.le_of_ble_eq_true rfl, Nat.le_of_ble_eq_true rfl⟩, (by show kk + 1 + 0 ≤ 601024; omega), (by show nn + 6 + 0 ≤ 7293033; omega)⟩ rfl (Nat.le_of_ble_eq_true rfl) (ok_X11_thrown (G := zs G) e15) ?_
  show X G t_L_law [] 1420 [some (.ref 3000000), some (.ref a1), some (.ref a2), some (.ref a3), some (.ref a4), some (.int a5), some (.int v3), some (.int v9)] [.int v13] M14 (kk + 1) (nn + 6) _
  refine X.iload (x := v3) (pc' := 1422) dL_law_1420 rfl rfl ?_
  refine X.icmp_eq (tgt := 1427) (pc' := 1425) dL_law_1422 (by decide) rfl (fun hc => ?_) (fun hc => ?_)
  · rw [if_pos hc] at h
    refine X.iload (x := v3) (pc' := 1429) dL_law_1427 rfl rfl ?_
    refine X.if_ne (tgt := 1444) (pc' := 1432) dL_law_1429 (by decide) rfl (fun hc => ?_) (fun hc => ?_)
    · rw [if_neg hc] at h
      refine X.goto (pc' := 2157) dL_law_1444 (by decide) ?_
      refine X.sub (L := [some (.ref 3000000), some (.ref a1), some (.ref a2), some (.ref a3), some (.ref a4), some (.int a5), none, none]) ?_ (⟨rfl, ⟨rfl, ⟨rfl, ⟨rfl, ⟨rfl, ⟨rfl, trivial⟩⟩⟩⟩⟩⟩)
      refine X.widen (k' := kk + 4) (n' := nn + 24) (by omega) (by omega) ?_
      exact hk _ h
    · rw [if_pos hc] at h
      refine X.aload_n (x := a3) (pc' := 1433) dL_law_1432 rfl rfl rfl ?_
      refine X.iconst (v := 0) (pc' := 1434) dL_law_1433 rfl (by decide) ?_
      obtain ⟨v18, e17, h⟩ := bindE h
      refine X.lald (pc' := 1435) dL_law_1434 rfl e17 ?_
      refine X.iload (x := v9) (pc' := 1437) dL_law_1435 rfl rfl ?_
      refine X.i2l (pc' := 1438) dL_law_1437 rfl ?_
      refine X.lcmp (pc' := 1439) dL_law_1438 rfl ?_
      refine X.if_eq (tgt := 1444) (pc' := 1442) dL_law_1439 (by decide) rfl (fun hc => ?_) (fun hc => ?_)
      · rw [if_pos hc] at h
        refine X.goto (pc' := 2157) dL_law_1444 (by decide) ?_
        refine X.sub (L := [some (.ref 3000000), some (.ref a1), some (.ref a2), some (.ref a3), some (.ref a4), some (.int a5), none, none]) ?_ (⟨rfl, ⟨rfl, ⟨rfl, ⟨rfl, ⟨rfl, ⟨rfl, trivial⟩⟩⟩⟩⟩⟩)
        refine X.widen (k' := kk + 4) (n' := nn + 24) (by omega) (by omega) ?_
        exact hk _ h
      · rw [if_neg hc] at h
        refine X.iconst (v := 0) (pc' := 1443) dL_law_1442 rfl (by decide) ?_
        cases h
        exact X.iret (ty := .boolean) dL_law_1443 rfl (by decide) (by show kk + 1 ≤ 601024; omega) (by show nn + 6 ≤ 7293033; omega) rfl
  · rw [if_neg hc] at h
    refine X.iconst (v := 0) (pc' := 1426) dL_law_1425 rfl (by decide) ?_
    cases h
    exact X.iret (ty := .boolean) dL_law_1426 rfl (by decide) (by show kk + 1 ≤ 601024; omega) (by show nn + 6 ≤ 7293033; omega) rfl
def g_21 (fu : Nat) (xs : List Int32) (a1 a2 a3 a4 : Nat) (a5 : Int32) (M : List Ob) (k : List Ob → Option (Int32 × List Ob)) : Option (Int32 × List Ob) :=
  (sGet xs (a5 + 1)).bind fun v1 =>
  bd2 (f_L_robust fu a1 v1 a3 M) fun v3 M4 =>
  (sGet xs (a5 + 1)).bind fun v7 =>
  (hasO M4 a2 11).bind fun _ =>
  bd2 (f_X11_robust fu a2 v7 M4) fun v9 M10 =>
  (hasO M10 a2 11).bind fun _ =>
  bd2 (f_X11_thrown fu a2 M10) fun v13 M14 =>
  if v13 = v3 then (if v3 = 0 then ((aJ M14 a3 0).bind fun v18 =>
  if (lg_cmp v18 ((v9 : Int32).toInt64)) = 0 then (k M14)
  else (some (0, M14)))
  else (k M14))
  else (some (0, M14))
set_option maxHeartbeats 4000000 in
theorem okg_21 {G : GT} (hz : gZ G = false) {fu : Nat} {xs : List Int32} (hX : gX G = xs) {a1 a2 a3 a4 : Nat} {a5 : Int32} {M : List Ob} {kk nn : Nat} (hkk : kk + 8 ≤ 601024) (hnn : nn + 48 ≤ 7293033) {k : List Ob → Option (Int32 × List Ob)} {out : Int32 × List Ob} (hk : ∀ M, k M = some out → X G t_L_law [] 2157 [some (.ref 3000000), some (.ref a1), some (.ref a2), some (.ref a3), some (.ref a4), some (.int a5), none, none] [] M (kk + 4) (nn + 24) (oI out)) (h : g_21 fu xs a1 a2 a3 a4 a5 M k = some out) : X G t_L_law [] 1447 [some (.ref 3000000), some (.ref a1), some (.ref a2), some (.ref a3), some (.ref a4), some (.int a5), none, none] [] M (kk + 0) (nn + 0) (oI out) := by
  unfold g_21 at h
  refine X.aload_n (x := a1) (pc' := 1448) dL_law_1447 rfl rfl rfl ?_
  refine X.aload_n (x := 3000000) (pc' := 1449) dL_law_1448 rfl rfl rfl ?_
  refine X.iload (x := a5) (pc' := 1451) dL_law_1449 rfl rfl ?_
  refine X.iconst (v := 1) (pc' := 1452) dL_law_1451 rfl (by decide) ?_
  refine X.iadd (pc' := 1453) dL_law_1452 rfl ?_
  obtain ⟨v1, e2, h⟩ := bindE h
  refine X.sld (pc' := 1454) dL_law_1453 rfl (by rw [hX]; exact e2) ?_
  refine X.aload_n (x := a3) (pc' := 1455) dL_law_1454 rfl rfl rfl ?_
  obtain ⟨v3, M4, e5, h⟩ := bd2E h
  refine X.callW (v := some (.int v3)) (As := [.ref a1, .int v1, .ref a3]) (st := []) (M' := M4) (pc' := 1458) dL_law_1455 rfl cw_L_198 ⟨⟨Nat.le_of_ble_eq_true rfl, Nat.le_of_ble_eq_true rfl⟩, (by show kk + 0 + 2 ≤ 601024; omega), (by show nn + 0 + 12 ≤ 7293033; omega)⟩ rfl (Nat.le_of_ble_eq_true rfl) (ok_L_robust (G := zs G) (hz := hz) e5) ?_
  show X G t_L_law [] 1458 [some (.ref 3000000), some (.ref a1), some (.ref a2), some (.ref a3), some (.ref a4), some (.int a5), none, none] [.int v3] M4 (kk + 2) (nn + 12) _
  refine X.istore (L' := [some (.ref 3000000), some (.ref a1), some (.ref a2), some (.ref a3), some (.ref a4), some (.int a5), some (.int v3), none]) (pc' := 1460) dL_law_1458 rfl (Nat.le_of_ble_eq_true rfl) rfl ?_
  refine X.aload_n (x := a2) (pc' := 1461) dL_law_1460 rfl rfl rfl ?_
  refine X.aload_n (x := 3000000) (pc' := 1462) dL_law_1461 rfl rfl rfl ?_
  refine X.iload (x := a5) (pc' := 1464) dL_law_1462 rfl rfl ?_
  refine X.iconst (v := 1) (pc' := 1465) dL_law_1464 rfl (by decide) ?_
  refine X.iadd (pc' := 1466) dL_law_1465 rfl ?_
  obtain ⟨v7, e8, h⟩ := bindE h
  refine X.sld (pc' := 1467) dL_law_1466 rfl (by rw [hX]; exact e8) ?_
  obtain ⟨⟨⟩, e12, h⟩ := bindE h
  obtain ⟨v9, M10, e11, h⟩ := bd2E h
  refine X.callV (b := a2) (v := some (.int v9)) (As := [.int v7]) (st := []) (M' := M10) (pc' := 1470) dL_law_1467 rfl cl_L_200 mi_X11_robust me_X11_robust mr_X11_robust e12 ⟨⟨Nat.le_of_ble_eq_true rfl, Nat.le_of_ble_eq_true rfl⟩, (by show kk + 2 + 0 ≤ 601024; omega), (by show nn + 12 + 0 ≤ 7293033; omega)⟩ rfl (Nat.le_of_ble_eq_true rfl) (ok_X11_robust (G := zs G) e11) ?_
  show X G t_L_law [] 1470 [some (.ref 3000000), some (.ref a1), some (.ref a2), some (.ref a3), some (.ref a4), some (.int a5), some (.int v3), none] [.int v9] M10 (kk + 2) (nn + 12) _
  refine X.istore (L' := [some (.ref 3000000), some (.ref a1), some (.ref a2), some (.ref a3), some (.ref a4), some (.int a5), some (.int v3), some (.int v9)]) (pc' := 1472) dL_law_1470 rfl (Nat.le_of_ble_eq_true rfl) rfl ?_
  refine X.aload_n (x := a2) (pc' := 1473) dL_law_1472 rfl rfl rfl ?_
  obtain ⟨⟨⟩, e16, h⟩ := bindE h
  obtain ⟨v13, M14, e15, h⟩ := bd2E h
  refine X.callV (b := a2) (v := some (.int v13)) (As := []) (st := []) (M' := M14) (pc' := 1476) dL_law_1473 rfl cl_L_127 mi_X11_thrown me_X11_thrown mr_X11_thrown e16 ⟨⟨Nat.le_of_ble_eq_true rfl, Nat.le_of_ble_eq_true rfl⟩, (by show kk + 2 + 0 ≤ 601024; omega), (by show nn + 12 + 0 ≤ 7293033; omega)⟩ rfl (Nat.le_of_ble_eq_true rfl) (ok_X11_thrown (G := zs G) e15) ?_
  show X G t_L_law [] 1476 [some (.ref 3000000), some (.ref a1), some (.ref a2), some (.ref a3), some (.ref a4), some (.int a5), some (.int v3), some (.int v9)] [.int v13] M14 (kk + 2) (nn + 12) _
  refine X.iload (x := v3) (pc' := 1478) dL_law_1476 rfl rfl ?_
  refine X.icmp_eq (tgt := 1483) (pc' := 1481) dL_law_1478 (by decide) rfl (fun hc => ?_) (fun hc => ?_)
  · rw [if_pos hc] at h
    refine X.iload (x := v3) (pc' := 1485) dL_law_1483 rfl rfl ?_
    refine X.if_ne (tgt := 1500) (pc' := 1488) dL_law_1485 (by decide) rfl (fun hc => ?_) (fun hc => ?_)
    · rw [if_neg hc] at h
      refine X.goto (pc' := 2157) dL_law_1500 (by decide) ?_
      refine X.sub (L := [some (.ref 3000000), some (.ref a1), some (.ref a2), some (.ref a3), some (.ref a4), some (.int a5), none, none]) ?_ (⟨rfl, ⟨rfl, ⟨rfl, ⟨rfl, ⟨rfl, ⟨rfl, trivial⟩⟩⟩⟩⟩⟩)
      refine X.widen (k' := kk + 4) (n' := nn + 24) (by omega) (by omega) ?_
      exact hk _ h
    · rw [if_pos hc] at h
      refine X.aload_n (x := a3) (pc' := 1489) dL_law_1488 rfl rfl rfl ?_
      refine X.iconst (v := 0) (pc' := 1490) dL_law_1489 rfl (by decide) ?_
      obtain ⟨v18, e17, h⟩ := bindE h
      refine X.lald (pc' := 1491) dL_law_1490 rfl e17 ?_
      refine X.iload (x := v9) (pc' := 1493) dL_law_1491 rfl rfl ?_
      refine X.i2l (pc' := 1494) dL_law_1493 rfl ?_
      refine X.lcmp (pc' := 1495) dL_law_1494 rfl ?_
      refine X.if_eq (tgt := 1500) (pc' := 1498) dL_law_1495 (by decide) rfl (fun hc => ?_) (fun hc => ?_)
      · rw [if_pos hc] at h
        refine X.goto (pc' := 2157) dL_law_1500 (by decide) ?_
        refine X.sub (L := [some (.ref 3000000), some (.ref a1), some (.ref a2), some (.ref a3), some (.ref a4), some (.int a5), none, none]) ?_ (⟨rfl, ⟨rfl, ⟨rfl, ⟨rfl, ⟨rfl, ⟨rfl, trivial⟩⟩⟩⟩⟩⟩)
        refine X.widen (k' := kk + 4) (n' := nn + 24) (by omega) (by omega) ?_
        exact hk _ h
      · rw [if_neg hc] at h
        refine X.iconst (v := 0) (pc' := 1499) dL_law_1498 rfl (by decide) ?_
        cases h
        exact X.iret (ty := .boolean) dL_law_1499 rfl (by decide) (by show kk + 2 ≤ 601024; omega) (by show nn + 12 ≤ 7293033; omega) rfl
  · rw [if_neg hc] at h
    refine X.iconst (v := 0) (pc' := 1482) dL_law_1481 rfl (by decide) ?_
    cases h
    exact X.iret (ty := .boolean) dL_law_1482 rfl (by decide) (by show kk + 2 ≤ 601024; omega) (by show nn + 12 ≤ 7293033; omega) rfl
def g_22 (fu : Nat) (xs : List Int32) (a1 a2 a3 a4 : Nat) (a5 : Int32) (M : List Ob) (k : List Ob → Option (Int32 × List Ob)) : Option (Int32 × List Ob) :=
  (sGet xs (a5 + 1)).bind fun v1 =>
  bd2 (f_L_calm fu a1 v1 a3 M) fun v3 M4 =>
  (sGet xs (a5 + 1)).bind fun v7 =>
  (hasO M4 a2 11).bind fun _ =>
  bd2 (f_X11_calm fu a2 v7 M4) fun v9 M10 =>
  (hasO M10 a2 11).bind fun _ =>
  bd2 (f_X11_thrown fu a2 M10) fun v13 M14 =>
  if v13 = v3 then (if v3 = 0 then ((aJ M14 a3 0).bind fun v18 =>
  if (lg_cmp v18 ((v9 : Int32).toInt64)) = 0 then (k M14)
  else (some (0, M14)))
  else (k M14))
  else (some (0, M14))
set_option maxHeartbeats 4000000 in
theorem okg_22 {G : GT} (hz : gZ G = false) {fu : Nat} {xs : List Int32} (hX : gX G = xs) {a1 a2 a3 a4 : Nat} {a5 : Int32} {M : List Ob} {kk nn : Nat} (hkk : kk + 8 ≤ 601024) (hnn : nn + 48 ≤ 7293033) {k : List Ob → Option (Int32 × List Ob)} {out : Int32 × List Ob} (hk : ∀ M, k M = some out → X G t_L_law [] 2157 [some (.ref 3000000), some (.ref a1), some (.ref a2), some (.ref a3), some (.ref a4), some (.int a5), none, none] [] M (kk + 4) (nn + 24) (oI out)) (h : g_22 fu xs a1 a2 a3 a4 a5 M k = some out) : X G t_L_law [] 1503 [some (.ref 3000000), some (.ref a1), some (.ref a2), some (.ref a3), some (.ref a4), some (.int a5), none, none] [] M (kk + 0) (nn + 0) (oI out) := by
  unfold g_22 at h
  refine X.aload_n (x := a1) (pc' := 1504) dL_law_1503 rfl rfl rfl ?_
  refine X.aload_n (x := 3000000) (pc' := 1505) dL_law_1504 rfl rfl rfl ?_
  refine X.iload (x := a5) (pc' := 1507) dL_law_1505 rfl rfl ?_
  refine X.iconst (v := 1) (pc' := 1508) dL_law_1507 rfl (by decide) ?_
  refine X.iadd (pc' := 1509) dL_law_1508 rfl ?_
  obtain ⟨v1, e2, h⟩ := bindE h
  refine X.sld (pc' := 1510) dL_law_1509 rfl (by rw [hX]; exact e2) ?_
  refine X.aload_n (x := a3) (pc' := 1511) dL_law_1510 rfl rfl rfl ?_
  obtain ⟨v3, M4, e5, h⟩ := bd2E h
  refine X.callW (v := some (.int v3)) (As := [.ref a1, .int v1, .ref a3]) (st := []) (M' := M4) (pc' := 1514) dL_law_1511 rfl cw_L_201 ⟨⟨Nat.le_of_ble_eq_true rfl, Nat.le_of_ble_eq_true rfl⟩, (by show kk + 0 + 2 ≤ 601024; omega), (by show nn + 0 + 12 ≤ 7293033; omega)⟩ rfl (Nat.le_of_ble_eq_true rfl) (ok_L_calm (G := zs G) (hz := hz) e5) ?_
  show X G t_L_law [] 1514 [some (.ref 3000000), some (.ref a1), some (.ref a2), some (.ref a3), some (.ref a4), some (.int a5), none, none] [.int v3] M4 (kk + 2) (nn + 12) _
  refine X.istore (L' := [some (.ref 3000000), some (.ref a1), some (.ref a2), some (.ref a3), some (.ref a4), some (.int a5), some (.int v3), none]) (pc' := 1516) dL_law_1514 rfl (Nat.le_of_ble_eq_true rfl) rfl ?_
  refine X.aload_n (x := a2) (pc' := 1517) dL_law_1516 rfl rfl rfl ?_
  refine X.aload_n (x := 3000000) (pc' := 1518) dL_law_1517 rfl rfl rfl ?_
  refine X.iload (x := a5) (pc' := 1520) dL_law_1518 rfl rfl ?_
  refine X.iconst (v := 1) (pc' := 1521) dL_law_1520 rfl (by decide) ?_
  refine X.iadd (pc' := 1522) dL_law_1521 rfl ?_
  obtain ⟨v7, e8, h⟩ := bindE h
  refine X.sld (pc' := 1523) dL_law_1522 rfl (by rw [hX]; exact e8) ?_
  obtain ⟨⟨⟩, e12, h⟩ := bindE h
  obtain ⟨v9, M10, e11, h⟩ := bd2E h
  refine X.callV (b := a2) (v := some (.int v9)) (As := [.int v7]) (st := []) (M' := M10) (pc' := 1526) dL_law_1523 rfl cl_L_203 mi_X11_calm me_X11_calm mr_X11_calm e12 ⟨⟨Nat.le_of_ble_eq_true rfl, Nat.le_of_ble_eq_true rfl⟩, (by show kk + 2 + 0 ≤ 601024; omega), (by show nn + 12 + 0 ≤ 7293033; omega)⟩ rfl (Nat.le_of_ble_eq_true rfl) (ok_X11_calm (G := zs G) e11) ?_
  show X G t_L_law [] 1526 [some (.ref 3000000), some (.ref a1), some (.ref a2), some (.ref a3), some (.ref a4), some (.int a5), some (.int v3), none] [.int v9] M10 (kk + 2) (nn + 12) _
  refine X.istore (L' := [some (.ref 3000000), some (.ref a1), some (.ref a2), some (.ref a3), some (.ref a4), some (.int a5), some (.int v3), some (.int v9)]) (pc' := 1528) dL_law_1526 rfl (Nat.le_of_ble_eq_true rfl) rfl ?_
  refine X.aload_n (x := a2) (pc' := 1529) dL_law_1528 rfl rfl rfl ?_
  obtain ⟨⟨⟩, e16, h⟩ := bindE h
  obtain ⟨v13, M14, e15, h⟩ := bd2E h
  refine X.callV (b := a2) (v := some (.int v13)) (As := []) (st := []) (M' := M14) (pc' := 1532) dL_law_1529 rfl cl_L_127 mi_X11_thrown me_X11_thrown mr_X11_thrown e16 ⟨⟨Nat.le_of_ble_eq_true rfl, Nat.le_of_ble_eq_true rfl⟩, (by show kk + 2 + 0 ≤ 601024; omega), (by show nn + 12 + 0 ≤ 7293033; omega)⟩ rfl (Nat.le_of_ble_eq_true rfl) (ok_X11_thrown (G := zs G) e15) ?_
  show X G t_L_law [] 1532 [some (.ref 3000000), some (.ref a1), some (.ref a2), some (.ref a3), some (.ref a4), some (.int a5), some (.int v3), some (.int v9)] [.int v13] M14 (kk + 2) (nn + 12) _
  refine X.iload (x := v3) (pc' := 1534) dL_law_1532 rfl rfl ?_
  refine X.icmp_eq (tgt := 1539) (pc' := 1537) dL_law_1534 (by decide) rfl (fun hc => ?_) (fun hc => ?_)
  · rw [if_pos hc] at h
    refine X.iload (x := v3) (pc' := 1541) dL_law_1539 rfl rfl ?_
    refine X.if_ne (tgt := 1556) (pc' := 1544) dL_law_1541 (by decide) rfl (fun hc => ?_) (fun hc => ?_)
    · rw [if_neg hc] at h
      refine X.goto (pc' := 2157) dL_law_1556 (by decide) ?_
      refine X.sub (L := [some (.ref 3000000), some (.ref a1), some (.ref a2), some (.ref a3), some (.ref a4), some (.int a5), none, none]) ?_ (⟨rfl, ⟨rfl, ⟨rfl, ⟨rfl, ⟨rfl, ⟨rfl, trivial⟩⟩⟩⟩⟩⟩)
      refine X.widen (k' := kk + 4) (n' := nn + 24) (by omega) (by omega) ?_
      exact hk _ h
    · rw [if_pos hc] at h
      refine X.aload_n (x := a3) (pc' := 1545) dL_law_1544 rfl rfl rfl ?_
      refine X.iconst (v := 0) (pc' := 1546) dL_law_1545 rfl (by decide) ?_
      obtain ⟨v18, e17, h⟩ := bindE h
      refine X.lald (pc' := 1547) dL_law_1546 rfl e17 ?_
      refine X.iload (x := v9) (pc' := 1549) dL_law_1547 rfl rfl ?_
      refine X.i2l (pc' := 1550) dL_law_1549 rfl ?_
      refine X.lcmp (pc' := 1551) dL_law_1550 rfl ?_
      refine X.if_eq (tgt := 1556) (pc' := 1554) dL_law_1551 (by decide) rfl (fun hc => ?_) (fun hc => ?_)
      · rw [if_pos hc] at h
        refine X.goto (pc' := 2157) dL_law_1556 (by decide) ?_
        refine X.sub (L := [some (.ref 3000000), some (.ref a1), some (.ref a2), some (.ref a3), some (.ref a4), some (.int a5), none, none]) ?_ (⟨rfl, ⟨rfl, ⟨rfl, ⟨rfl, ⟨rfl, ⟨rfl, trivial⟩⟩⟩⟩⟩⟩)
        refine X.widen (k' := kk + 4) (n' := nn + 24) (by omega) (by omega) ?_
        exact hk _ h
      · rw [if_neg hc] at h
        refine X.iconst (v := 0) (pc' := 1555) dL_law_1554 rfl (by decide) ?_
        cases h
        exact X.iret (ty := .boolean) dL_law_1555 rfl (by decide) (by show kk + 2 ≤ 601024; omega) (by show nn + 12 ≤ 7293033; omega) rfl
  · rw [if_neg hc] at h
    refine X.iconst (v := 0) (pc' := 1538) dL_law_1537 rfl (by decide) ?_
    cases h
    exact X.iret (ty := .boolean) dL_law_1538 rfl (by decide) (by show kk + 2 ≤ 601024; omega) (by show nn + 12 ≤ 7293033; omega) rfl
def g_23 (fu : Nat) (xs : List Int32) (a1 a2 a3 a4 : Nat) (a5 : Int32) (M : List Ob) (k : List Ob → Option (Int32 × List Ob)) : Option (Int32 × List Ob) :=
  (sGet xs (a5 + 1)).bind fun v1 =>
  if v1 = 0 then ((sGet xs (a5 + 2)).bind fun v3 =>
  bd2 (f_L_bestArc fu a1 0 v3 a3 M) fun v5 M6 =>
  (sGet xs (a5 + 1)).bind fun v9 =>
  if v9 = 0 then ((sGet xs (a5 + 2)).bind fun v11 =>
  (hasO M6 a2 11).bind fun _ =>
  bd2 (f_X11_bestArc fu a2 0 v11 M6) fun v13 M14 =>
  (hasO M14 a2 11).bind fun _ =>
  bd2 (f_X11_thrown fu a2 M14) fun v17 M18 =>
  if v17 = v5 then (if v5 = 0 then ((aJ M18 a3 0).bind fun v22 =>
  if (lg_cmp v22 ((v13 : Int32).toInt64)) = 0 then (k M18)
  else (some (0, M18)))
  else (k M18))
  else (some (0, M18)))
  else ((sGet xs (a5 + 2)).bind fun v23 =>
  (hasO M6 a2 11).bind fun _ =>
  bd2 (f_X11_bestArc fu a2 1 v23 M6) fun v25 M26 =>
  (hasO M26 a2 11).bind fun _ =>
  bd2 (f_X11_thrown fu a2 M26) fun v29 M30 =>
  if v29 = v5 then (if v5 = 0 then ((aJ M30 a3 0).bind fun v34 =>
  if (lg_cmp v34 ((v25 : Int32).toInt64)) = 0 then (k M30)
  else (some (0, M30)))
  else (k M30))
  else (some (0, M30))))
  else ((sGet xs (a5 + 2)).bind fun v35 =>
  bd2 (f_L_bestArc fu a1 1 v35 a3 M) fun v37 M38 =>
  (sGet xs (a5 + 1)).bind fun v41 =>
  if v41 = 0 then ((sGet xs (a5 + 2)).bind fun v43 =>
  (hasO M38 a2 11).bind fun _ =>
  bd2 (f_X11_bestArc fu a2 0 v43 M38) fun v45 M46 =>
  (hasO M46 a2 11).bind fun _ =>
  bd2 (f_X11_thrown fu a2 M46) fun v49 M50 =>
  if v49 = v37 then (if v37 = 0 then ((aJ M50 a3 0).bind fun v54 =>
  if (lg_cmp v54 ((v45 : Int32).toInt64)) = 0 then (k M50)
  else (some (0, M50)))
  else (k M50))
  else (some (0, M50)))
  else ((sGet xs (a5 + 2)).bind fun v55 =>
  (hasO M38 a2 11).bind fun _ =>
  bd2 (f_X11_bestArc fu a2 1 v55 M38) fun v57 M58 =>
  (hasO M58 a2 11).bind fun _ =>
  bd2 (f_X11_thrown fu a2 M58) fun v61 M62 =>
  if v61 = v37 then (if v37 = 0 then ((aJ M62 a3 0).bind fun v66 =>
  if (lg_cmp v66 ((v57 : Int32).toInt64)) = 0 then (k M62)
  else (some (0, M62)))
  else (k M62))
  else (some (0, M62))))
set_option maxHeartbeats 4000000 in
theorem okg_23 {G : GT} (hz : gZ G = false) {fu : Nat} {xs : List Int32} (hX : gX G = xs) {a1 a2 a3 a4 : Nat} {a5 : Int32} {M : List Ob} {kk nn : Nat} (hkk : kk + 8 ≤ 601024) (hnn : nn + 48 ≤ 7293033) {k : List Ob → Option (Int32 × List Ob)} {out : Int32 × List Ob} (hk : ∀ M, k M = some out → X G t_L_law [] 2157 [some (.ref 3000000), some (.ref a1), some (.ref a2), some (.ref a3), some (.ref a4), some (.int a5), none, none] [] M (kk + 4) (nn + 24) (oI out)) (h : g_23 fu xs a1 a2 a3 a4 a5 M k = some out) : X G t_L_law [] 1559 [some (.ref 3000000), some (.ref a1), some (.ref a2), some (.ref a3), some (.ref a4), some (.int a5), none, none] [] M (kk + 0) (nn + 0) (oI out) := by
  unfold g_23 at h
  refine X.aload_n (x := a1) (pc' := 1560) dL_law_1559 rfl rfl rfl ?_
  refine X.aload_n (x := 3000000) (pc' := 1561) dL_law_1560 rfl rfl rfl ?_
  refine X.iload (x := a5) (pc' := 1563) dL_law_1561 rfl rfl ?_
  refine X.iconst (v := 1) (pc' := 1564) dL_law_1563 rfl (by decide) ?_
  refine X.iadd (pc' := 1565) dL_law_1564 rfl ?_
  obtain ⟨v1, e2, h⟩ := bindE h
  refine X.sld (pc' := 1566) dL_law_1565 rfl (by rw [hX]; exact e2) ?_
  refine X.if_eq (tgt := 1573) (pc' := 1569) dL_law_1566 (by decide) rfl (fun hc => ?_) (fun hc => ?_)
  · rw [if_pos hc] at h
    refine X.iconst (v := 0) (pc' := 1574) dL_law_1573 rfl (by decide) ?_
    refine X.aload_n (x := 3000000) (pc' := 1575) dL_law_1574 rfl rfl rfl ?_
    refine X.iload (x := a5) (pc' := 1577) dL_law_1575 rfl rfl ?_
    refine X.iconst (v := 2) (pc' := 1578) dL_law_1577 rfl (by decide) ?_
    refine X.iadd (pc' := 1579) dL_law_1578 rfl ?_
    obtain ⟨v3, e4, h⟩ := bindE h
    refine X.sld (pc' := 1580) dL_law_1579 rfl (by rw [hX]; exact e4) ?_
    refine X.aload_n (x := a3) (pc' := 1581) dL_law_1580 rfl rfl rfl ?_
    obtain ⟨v5, M6, e7, h⟩ := bd2E h
    refine X.callW (v := some (.int v5)) (As := [.ref a1, .int 0, .int v3, .ref a3]) (st := []) (M' := M6) (pc' := 1584) dL_law_1581 rfl cw_L_204 ⟨⟨Nat.le_of_ble_eq_true rfl, Nat.le_of_ble_eq_true rfl⟩, (by show kk + 0 + 1 ≤ 601024; omega), (by show nn + 0 + 6 ≤ 7293033; omega)⟩ rfl (Nat.le_of_ble_eq_true rfl) (ok_L_bestArc (G := zs G) (hz := hz) e7) ?_
    show X G t_L_law [] 1584 [some (.ref 3000000), some (.ref a1), some (.ref a2), some (.ref a3), some (.ref a4), some (.int a5), none, none] [.int v5] M6 (kk + 1) (nn + 6) _
    refine X.istore (L' := [some (.ref 3000000), some (.ref a1), some (.ref a2), some (.ref a3), some (.ref a4), some (.int a5), some (.int v5), none]) (pc' := 1586) dL_law_1584 rfl (Nat.le_of_ble_eq_true rfl) rfl ?_
    refine X.aload_n (x := a2) (pc' := 1587) dL_law_1586 rfl rfl rfl ?_
    refine X.aload_n (x := 3000000) (pc' := 1588) dL_law_1587 rfl rfl rfl ?_
    refine X.iload (x := a5) (pc' := 1590) dL_law_1588 rfl rfl ?_
    refine X.iconst (v := 1) (pc' := 1591) dL_law_1590 rfl (by decide) ?_
    refine X.iadd (pc' := 1592) dL_law_1591 rfl ?_
    obtain ⟨v9, e10, h⟩ := bindE h
    refine X.sld (pc' := 1593) dL_law_1592 rfl (by rw [hX]; exact e10) ?_
    refine X.if_eq (tgt := 1600) (pc' := 1596) dL_law_1593 (by decide) rfl (fun hc => ?_) (fun hc => ?_)
    · rw [if_pos hc] at h
      refine X.iconst (v := 0) (pc' := 1601) dL_law_1600 rfl (by decide) ?_
      refine X.aload_n (x := 3000000) (pc' := 1602) dL_law_1601 rfl rfl rfl ?_
      refine X.iload (x := a5) (pc' := 1604) dL_law_1602 rfl rfl ?_
      refine X.iconst (v := 2) (pc' := 1605) dL_law_1604 rfl (by decide) ?_
      refine X.iadd (pc' := 1606) dL_law_1605 rfl ?_
      obtain ⟨v11, e12, h⟩ := bindE h
      refine X.sld (pc' := 1607) dL_law_1606 rfl (by rw [hX]; exact e12) ?_
      obtain ⟨⟨⟩, e16, h⟩ := bindE h
      obtain ⟨v13, M14, e15, h⟩ := bd2E h
      refine X.callV (b := a2) (v := some (.int v13)) (As := [.int 0, .int v11]) (st := []) (M' := M14) (pc' := 1610) dL_law_1607 rfl cl_L_207 mi_X11_bestArc me_X11_bestArc mr_X11_bestArc e16 ⟨⟨Nat.le_of_ble_eq_true rfl, Nat.le_of_ble_eq_true rfl⟩, (by show kk + 1 + 0 ≤ 601024; omega), (by show nn + 6 + 0 ≤ 7293033; omega)⟩ rfl (Nat.le_of_ble_eq_true rfl) (ok_X11_bestArc (G := zs G) e15) ?_
      show X G t_L_law [] 1610 [some (.ref 3000000), some (.ref a1), some (.ref a2), some (.ref a3), some (.ref a4), some (.int a5), some (.int v5), none] [.int v13] M14 (kk + 1) (nn + 6) _
      refine X.istore (L' := [some (.ref 3000000), some (.ref a1), some (.ref a2), some (.ref a3), some (.ref a4), some (.int a5), some (.int v5), some (.int v13)]) (pc' := 1612) dL_law_1610 rfl (Nat.le_of_ble_eq_true rfl) rfl ?_
      refine X.aload_n (x := a2) (pc' := 1613) dL_law_1612 rfl rfl rfl ?_
      obtain ⟨⟨⟩, e20, h⟩ := bindE h
      obtain ⟨v17, M18, e19, h⟩ := bd2E h
      refine X.callV (b := a2) (v := some (.int v17)) (As := []) (st := []) (M' := M18) (pc' := 1616) dL_law_1613 rfl cl_L_127 mi_X11_thrown me_X11_thrown mr_X11_thrown e20 ⟨⟨Nat.le_of_ble_eq_true rfl, Nat.le_of_ble_eq_true rfl⟩, (by show kk + 1 + 0 ≤ 601024; omega), (by show nn + 6 + 0 ≤ 7293033; omega)⟩ rfl (Nat.le_of_ble_eq_true rfl) (ok_X11_thrown (G := zs G) e19) ?_
      show X G t_L_law [] 1616 [some (.ref 3000000), some (.ref a1), some (.ref a2), some (.ref a3), some (.ref a4), some (.int a5), some (.int v5), some (.int v13)] [.int v17] M18 (kk + 1) (nn + 6) _
      refine X.iload (x := v5) (pc' := 1618) dL_law_1616 rfl rfl ?_
      refine X.icmp_eq (tgt := 1623) (pc' := 1621) dL_law_1618 (by decide) rfl (fun hc => ?_) (fun hc => ?_)
      · rw [if_pos hc] at h
        refine X.iload (x := v5) (pc' := 1625) dL_law_1623 rfl rfl ?_
        refine X.if_ne (tgt := 1640) (pc' := 1628) dL_law_1625 (by decide) rfl (fun hc => ?_) (fun hc => ?_)
        · rw [if_neg hc] at h
          refine X.goto (pc' := 2157) dL_law_1640 (by decide) ?_
          refine X.sub (L := [some (.ref 3000000), some (.ref a1), some (.ref a2), some (.ref a3), some (.ref a4), some (.int a5), none, none]) ?_ (⟨rfl, ⟨rfl, ⟨rfl, ⟨rfl, ⟨rfl, ⟨rfl, trivial⟩⟩⟩⟩⟩⟩)
          refine X.widen (k' := kk + 4) (n' := nn + 24) (by omega) (by omega) ?_
          exact hk _ h
        · rw [if_pos hc] at h
          refine X.aload_n (x := a3) (pc' := 1629) dL_law_1628 rfl rfl rfl ?_
          refine X.iconst (v := 0) (pc' := 1630) dL_law_1629 rfl (by decide) ?_
          obtain ⟨v22, e21, h⟩ := bindE h
          refine X.lald (pc' := 1631) dL_law_1630 rfl e21 ?_
          refine X.iload (x := v13) (pc' := 1633) dL_law_1631 rfl rfl ?_
          refine X.i2l (pc' := 1634) dL_law_1633 rfl ?_
          refine X.lcmp (pc' := 1635) dL_law_1634 rfl ?_
          refine X.if_eq (tgt := 1640) (pc' := 1638) dL_law_1635 (by decide) rfl (fun hc => ?_) (fun hc => ?_)
          · rw [if_pos hc] at h
            refine X.goto (pc' := 2157) dL_law_1640 (by decide) ?_
            refine X.sub (L := [some (.ref 3000000), some (.ref a1), some (.ref a2), some (.ref a3), some (.ref a4), some (.int a5), none, none]) ?_ (⟨rfl, ⟨rfl, ⟨rfl, ⟨rfl, ⟨rfl, ⟨rfl, trivial⟩⟩⟩⟩⟩⟩)
            refine X.widen (k' := kk + 4) (n' := nn + 24) (by omega) (by omega) ?_
            exact hk _ h
          · rw [if_neg hc] at h
            refine X.iconst (v := 0) (pc' := 1639) dL_law_1638 rfl (by decide) ?_
            cases h
            exact X.iret (ty := .boolean) dL_law_1639 rfl (by decide) (by show kk + 1 ≤ 601024; omega) (by show nn + 6 ≤ 7293033; omega) rfl
      · rw [if_neg hc] at h
        refine X.iconst (v := 0) (pc' := 1622) dL_law_1621 rfl (by decide) ?_
        cases h
        exact X.iret (ty := .boolean) dL_law_1622 rfl (by decide) (by show kk + 1 ≤ 601024; omega) (by show nn + 6 ≤ 7293033; omega) rfl
    · rw [if_neg hc] at h
      refine X.iconst (v := 1) (pc' := 1597) dL_law_1596 rfl (by decide) ?_
      refine X.goto (pc' := 1601) dL_law_1597 (by decide) ?_
      refine X.aload_n (x := 3000000) (pc' := 1602) dL_law_1601 rfl rfl rfl ?_
      refine X.iload (x := a5) (pc' := 1604) dL_law_1602 rfl rfl ?_
      refine X.iconst (v := 2) (pc' := 1605) dL_law_1604 rfl (by decide) ?_
      refine X.iadd (pc' := 1606) dL_law_1605 rfl ?_
      obtain ⟨v23, e24, h⟩ := bindE h
      refine X.sld (pc' := 1607) dL_law_1606 rfl (by rw [hX]; exact e24) ?_
      obtain ⟨⟨⟩, e28, h⟩ := bindE h
      obtain ⟨v25, M26, e27, h⟩ := bd2E h
      refine X.callV (b := a2) (v := some (.int v25)) (As := [.int 1, .int v23]) (st := []) (M' := M26) (pc' := 1610) dL_law_1607 rfl cl_L_207 mi_X11_bestArc me_X11_bestArc mr_X11_bestArc e28 ⟨⟨Nat.le_of_ble_eq_true rfl, Nat.le_of_ble_eq_true rfl⟩, (by show kk + 1 + 0 ≤ 601024; omega), (by show nn + 6 + 0 ≤ 7293033; omega)⟩ rfl (Nat.le_of_ble_eq_true rfl) (ok_X11_bestArc (G := zs G) e27) ?_
      show X G t_L_law [] 1610 [some (.ref 3000000), some (.ref a1), some (.ref a2), some (.ref a3), some (.ref a4), some (.int a5), some (.int v5), none] [.int v25] M26 (kk + 1) (nn + 6) _
      refine X.istore (L' := [some (.ref 3000000), some (.ref a1), some (.ref a2), some (.ref a3), some (.ref a4), some (.int a5), some (.int v5), some (.int v25)]) (pc' := 1612) dL_law_1610 rfl (Nat.le_of_ble_eq_true rfl) rfl ?_
      refine X.aload_n (x := a2) (pc' := 1613) dL_law_1612 rfl rfl rfl ?_
      obtain ⟨⟨⟩, e32, h⟩ := bindE h
      obtain ⟨v29, M30, e31, h⟩ := bd2E h
      refine X.callV (b := a2) (v := some (.int v29)) (As := []) (st := []) (M' := M30) (pc' := 1616) dL_law_1613 rfl cl_L_127 mi_X11_thrown me_X11_thrown mr_X11_thrown e32 ⟨⟨Nat.le_of_ble_eq_true rfl, Nat.le_of_ble_eq_true rfl⟩, (by show kk + 1 + 0 ≤ 601024; omega), (by show nn + 6 + 0 ≤ 7293033; omega)⟩ rfl (Nat.le_of_ble_eq_true rfl) (ok_X11_thrown (G := zs G) e31) ?_
      show X G t_L_law [] 1616 [some (.ref 3000000), some (.ref a1), some (.ref a2), some (.ref a3), some (.ref a4), some (.int a5), some (.int v5), some (.int v25)] [.int v29] M30 (kk + 1) (nn + 6) _
      refine X.iload (x := v5) (pc' := 1618) dL_law_1616 rfl rfl ?_
      refine X.icmp_eq (tgt := 1623) (pc' := 1621) dL_law_1618 (by decide) rfl (fun hc => ?_) (fun hc => ?_)
      · rw [if_pos hc] at h
        refine X.iload (x := v5) (pc' := 1625) dL_law_1623 rfl rfl ?_
        refine X.if_ne (tgt := 1640) (pc' := 1628) dL_law_1625 (by decide) rfl (fun hc => ?_) (fun hc => ?_)
        · rw [if_neg hc] at h
          refine X.goto (pc' := 2157) dL_law_1640 (by decide) ?_
          refine X.sub (L := [some (.ref 3000000), some (.ref a1), some (.ref a2), some (.ref a3), some (.ref a4), some (.int a5), none, none]) ?_ (⟨rfl, ⟨rfl, ⟨rfl, ⟨rfl, ⟨rfl, ⟨rfl, trivial⟩⟩⟩⟩⟩⟩)
          refine X.widen (k' := kk + 4) (n' := nn + 24) (by omega) (by omega) ?_
          exact hk _ h
        · rw [if_pos hc] at h
          refine X.aload_n (x := a3) (pc' := 1629) dL_law_1628 rfl rfl rfl ?_
          refine X.iconst (v := 0) (pc' := 1630) dL_law_1629 rfl (by decide) ?_
          obtain ⟨v34, e33, h⟩ := bindE h
          refine X.lald (pc' := 1631) dL_law_1630 rfl e33 ?_
          refine X.iload (x := v25) (pc' := 1633) dL_law_1631 rfl rfl ?_
          refine X.i2l (pc' := 1634) dL_law_1633 rfl ?_
          refine X.lcmp (pc' := 1635) dL_law_1634 rfl ?_
          refine X.if_eq (tgt := 1640) (pc' := 1638) dL_law_1635 (by decide) rfl (fun hc => ?_) (fun hc => ?_)
          · rw [if_pos hc] at h
            refine X.goto (pc' := 2157) dL_law_1640 (by decide) ?_
            refine X.sub (L := [some (.ref 3000000), some (.ref a1), some (.ref a2), some (.ref a3), some (.ref a4), some (.int a5), none, none]) ?_ (⟨rfl, ⟨rfl, ⟨rfl, ⟨rfl, ⟨rfl, ⟨rfl, trivial⟩⟩⟩⟩⟩⟩)
            refine X.widen (k' := kk + 4) (n' := nn + 24) (by omega) (by omega) ?_
            exact hk _ h
          · rw [if_neg hc] at h
            refine X.iconst (v := 0) (pc' := 1639) dL_law_1638 rfl (by decide) ?_
            cases h
            exact X.iret (ty := .boolean) dL_law_1639 rfl (by decide) (by show kk + 1 ≤ 601024; omega) (by show nn + 6 ≤ 7293033; omega) rfl
      · rw [if_neg hc] at h
        refine X.iconst (v := 0) (pc' := 1622) dL_law_1621 rfl (by decide) ?_
        cases h
        exact X.iret (ty := .boolean) dL_law_1622 rfl (by decide) (by show kk + 1 ≤ 601024; omega) (by show nn + 6 ≤ 7293033; omega) rfl
  · rw [if_neg hc] at h
    refine X.iconst (v := 1) (pc' := 1570) dL_law_1569 rfl (by decide) ?_
    refine X.goto (pc' := 1574) dL_law_1570 (by decide) ?_
    refine X.aload_n (x := 3000000) (pc' := 1575) dL_law_1574 rfl rfl rfl ?_
    refine X.iload (x := a5) (pc' := 1577) dL_law_1575 rfl rfl ?_
    refine X.iconst (v := 2) (pc' := 1578) dL_law_1577 rfl (by decide) ?_
    refine X.iadd (pc' := 1579) dL_law_1578 rfl ?_
    obtain ⟨v35, e36, h⟩ := bindE h
    refine X.sld (pc' := 1580) dL_law_1579 rfl (by rw [hX]; exact e36) ?_
    refine X.aload_n (x := a3) (pc' := 1581) dL_law_1580 rfl rfl rfl ?_
    obtain ⟨v37, M38, e39, h⟩ := bd2E h
    refine X.callW (v := some (.int v37)) (As := [.ref a1, .int 1, .int v35, .ref a3]) (st := []) (M' := M38) (pc' := 1584) dL_law_1581 rfl cw_L_204 ⟨⟨Nat.le_of_ble_eq_true rfl, Nat.le_of_ble_eq_true rfl⟩, (by show kk + 0 + 1 ≤ 601024; omega), (by show nn + 0 + 6 ≤ 7293033; omega)⟩ rfl (Nat.le_of_ble_eq_true rfl) (ok_L_bestArc (G := zs G) (hz := hz) e39) ?_
    show X G t_L_law [] 1584 [some (.ref 3000000), some (.ref a1), some (.ref a2), some (.ref a3), some (.ref a4), some (.int a5), none, none] [.int v37] M38 (kk + 1) (nn + 6) _
    refine X.istore (L' := [some (.ref 3000000), some (.ref a1), some (.ref a2), some (.ref a3), some (.ref a4), some (.int a5), some (.int v37), none]) (pc' := 1586) dL_law_1584 rfl (Nat.le_of_ble_eq_true rfl) rfl ?_
    refine X.aload_n (x := a2) (pc' := 1587) dL_law_1586 rfl rfl rfl ?_
    refine X.aload_n (x := 3000000) (pc' := 1588) dL_law_1587 rfl rfl rfl ?_
    refine X.iload (x := a5) (pc' := 1590) dL_law_1588 rfl rfl ?_
    refine X.iconst (v := 1) (pc' := 1591) dL_law_1590 rfl (by decide) ?_
    refine X.iadd (pc' := 1592) dL_law_1591 rfl ?_
    obtain ⟨v41, e42, h⟩ := bindE h
    refine X.sld (pc' := 1593) dL_law_1592 rfl (by rw [hX]; exact e42) ?_
    refine X.if_eq (tgt := 1600) (pc' := 1596) dL_law_1593 (by decide) rfl (fun hc => ?_) (fun hc => ?_)
    · rw [if_pos hc] at h
      refine X.iconst (v := 0) (pc' := 1601) dL_law_1600 rfl (by decide) ?_
      refine X.aload_n (x := 3000000) (pc' := 1602) dL_law_1601 rfl rfl rfl ?_
      refine X.iload (x := a5) (pc' := 1604) dL_law_1602 rfl rfl ?_
      refine X.iconst (v := 2) (pc' := 1605) dL_law_1604 rfl (by decide) ?_
      refine X.iadd (pc' := 1606) dL_law_1605 rfl ?_
      obtain ⟨v43, e44, h⟩ := bindE h
      refine X.sld (pc' := 1607) dL_law_1606 rfl (by rw [hX]; exact e44) ?_
      obtain ⟨⟨⟩, e48, h⟩ := bindE h
      obtain ⟨v45, M46, e47, h⟩ := bd2E h
      refine X.callV (b := a2) (v := some (.int v45)) (As := [.int 0, .int v43]) (st := []) (M' := M46) (pc' := 1610) dL_law_1607 rfl cl_L_207 mi_X11_bestArc me_X11_bestArc mr_X11_bestArc e48 ⟨⟨Nat.le_of_ble_eq_true rfl, Nat.le_of_ble_eq_true rfl⟩, (by show kk + 1 + 0 ≤ 601024; omega), (by show nn + 6 + 0 ≤ 7293033; omega)⟩ rfl (Nat.le_of_ble_eq_true rfl) (ok_X11_bestArc (G := zs G) e47) ?_
      show X G t_L_law [] 1610 [some (.ref 3000000), some (.ref a1), some (.ref a2), some (.ref a3), some (.ref a4), some (.int a5), some (.int v37), none] [.int v45] M46 (kk + 1) (nn + 6) _
      refine X.istore (L' := [some (.ref 3000000), some (.ref a1), some (.ref a2), some (.ref a3), some (.ref a4), some (.int a5), some (.int v37), some (.int v45)]) (pc' := 1612) dL_law_1610 rfl (Nat.le_of_ble_eq_true rfl) rfl ?_
      refine X.aload_n (x := a2) (pc' := 1613) dL_law_1612 rfl rfl rfl ?_
      obtain ⟨⟨⟩, e52, h⟩ := bindE h
      obtain ⟨v49, M50, e51, h⟩ := bd2E h
      refine X.callV (b := a2) (v := some (.int v49)) (As := []) (st := []) (M' := M50) (pc' := 1616) dL_law_1613 rfl cl_L_127 mi_X11_thrown me_X11_thrown mr_X11_thrown e52 ⟨⟨Nat.le_of_ble_eq_true rfl, Nat.le_of_ble_eq_true rfl⟩, (by show kk + 1 + 0 ≤ 601024; omega), (by show nn + 6 + 0 ≤ 7293033; omega)⟩ rfl (Nat.le_of_ble_eq_true rfl) (ok_X11_thrown (G := zs G) e51) ?_
      show X G t_L_law [] 1616 [some (.ref 3000000), some (.ref a1), some (.ref a2), some (.ref a3), some (.ref a4), some (.int a5), some (.int v37), some (.int v45)] [.int v49] M50 (kk + 1) (nn + 6) _
      refine X.iload (x := v37) (pc' := 1618) dL_law_1616 rfl rfl ?_
      refine X.icmp_eq (tgt := 1623) (pc' := 1621) dL_law_1618 (by decide) rfl (fun hc => ?_) (fun hc => ?_)
      · rw [if_pos hc] at h
        refine X.iload (x := v37) (pc' := 1625) dL_law_1623 rfl rfl ?_
        refine X.if_ne (tgt := 1640) (pc' := 1628) dL_law_1625 (by decide) rfl (fun hc => ?_) (fun hc => ?_)
        · rw [if_neg hc] at h
          refine X.goto (pc' := 2157) dL_law_1640 (by decide) ?_
          refine X.sub (L := [some (.ref 3000000), some (.ref a1), some (.ref a2), some (.ref a3), some (.ref a4), some (.int a5), none, none]) ?_ (⟨rfl, ⟨rfl, ⟨rfl, ⟨rfl, ⟨rfl, ⟨rfl, trivial⟩⟩⟩⟩⟩⟩)
          refine X.widen (k' := kk + 4) (n' := nn + 24) (by omega) (by omega) ?_
          exact hk _ h
        · rw [if_pos hc] at h
          refine X.aload_n (x := a3) (pc' := 1629) dL_law_1628 rfl rfl rfl ?_
          refine X.iconst (v := 0) (pc' := 1630) dL_law_1629 rfl (by decide) ?_
          obtain ⟨v54, e53, h⟩ := bindE h
          refine X.lald (pc' := 1631) dL_law_1630 rfl e53 ?_
          refine X.iload (x := v45) (pc' := 1633) dL_law_1631 rfl rfl ?_
          refine X.i2l (pc' := 1634) dL_law_1633 rfl ?_
          refine X.lcmp (pc' := 1635) dL_law_1634 rfl ?_
          refine X.if_eq (tgt := 1640) (pc' := 1638) dL_law_1635 (by decide) rfl (fun hc => ?_) (fun hc => ?_)
          · rw [if_pos hc] at h
            refine X.goto (pc' := 2157) dL_law_1640 (by decide) ?_
            refine X.sub (L := [some (.ref 3000000), some (.ref a1), some (.ref a2), some (.ref a3), some (.ref a4), some (.int a5), none, none]) ?_ (⟨rfl, ⟨rfl, ⟨rfl, ⟨rfl, ⟨rfl, ⟨rfl, trivial⟩⟩⟩⟩⟩⟩)
            refine X.widen (k' := kk + 4) (n' := nn + 24) (by omega) (by omega) ?_
            exact hk _ h
          · rw [if_neg hc] at h
            refine X.iconst (v := 0) (pc' := 1639) dL_law_1638 rfl (by decide) ?_
            cases h
            exact X.iret (ty := .boolean) dL_law_1639 rfl (by decide) (by show kk + 1 ≤ 601024; omega) (by show nn + 6 ≤ 7293033; omega) rfl
      · rw [if_neg hc] at h
        refine X.iconst (v := 0) (pc' := 1622) dL_law_1621 rfl (by decide) ?_
        cases h
        exact X.iret (ty := .boolean) dL_law_1622 rfl (by decide) (by show kk + 1 ≤ 601024; omega) (by show nn + 6 ≤ 7293033; omega) rfl
    · rw [if_neg hc] at h
      refine X.iconst (v := 1) (pc' := 1597) dL_law_1596 rfl (by decide) ?_
      refine X.goto (pc' := 1601) dL_law_1597 (by decide) ?_
      refine X.aload_n (x := 3000000) (pc' := 1602) dL_law_1601 rfl rfl rfl ?_
      refine X.iload (x := a5) (pc' := 1604) dL_law_1602 rfl rfl ?_
      refine X.iconst (v := 2) (pc' := 1605) dL_law_1604 rfl (by decide) ?_
      refine X.iadd (pc' := 1606) dL_law_1605 rfl ?_
      obtain ⟨v55, e56, h⟩ := bindE h
      refine X.sld (pc' := 1607) dL_law_1606 rfl (by rw [hX]; exact e56) ?_
      obtain ⟨⟨⟩, e60, h⟩ := bindE h
      obtain ⟨v57, M58, e59, h⟩ := bd2E h
      refine X.callV (b := a2) (v := some (.int v57)) (As := [.int 1, .int v55]) (st := []) (M' := M58) (pc' := 1610) dL_law_1607 rfl cl_L_207 mi_X11_bestArc me_X11_bestArc mr_X11_bestArc e60 ⟨⟨Nat.le_of_ble_eq_true rfl, Nat.le_of_ble_eq_true rfl⟩, (by show kk + 1 + 0 ≤ 601024; omega), (by show nn + 6 + 0 ≤ 7293033; omega)⟩ rfl (Nat.le_of_ble_eq_true rfl) (ok_X11_bestArc (G := zs G) e59) ?_
      show X G t_L_law [] 1610 [some (.ref 3000000), some (.ref a1), some (.ref a2), some (.ref a3), some (.ref a4), some (.int a5), some (.int v37), none] [.int v57] M58 (kk + 1) (nn + 6) _
      refine X.istore (L' := [some (.ref 3000000), some (.ref a1), some (.ref a2), some (.ref a3), some (.ref a4), some (.int a5), some (.int v37), some (.int v57)]) (pc' := 1612) dL_law_1610 rfl (Nat.le_of_ble_eq_true rfl) rfl ?_
      refine X.aload_n (x := a2) (pc' := 1613) dL_law_1612 rfl rfl rfl ?_
      obtain ⟨⟨⟩, e64, h⟩ := bindE h
      obtain ⟨v61, M62, e63, h⟩ := bd2E h
      refine X.callV (b := a2) (v := some (.int v61)) (As := []) (st := []) (M' := M62) (pc' := 1616) dL_law_1613 rfl cl_L_127 mi_X11_thrown me_X11_thrown mr_X11_thrown e64 ⟨⟨Nat.le_of_ble_eq_true rfl, Nat.le_of_ble_eq_true rfl⟩, (by show kk + 1 + 0 ≤ 601024; omega), (by show nn + 6 + 0 ≤ 7293033; omega)⟩ rfl (Nat.le_of_ble_eq_true rfl) (ok_X11_thrown (G := zs G) e63) ?_
      show X G t_L_law [] 1616 [some (.ref 3000000), some (.ref a1), some (.ref a2), some (.ref a3), some (.ref a4), some (.int a5), some (.int v37), some (.int v57)] [.int v61] M62 (kk + 1) (nn + 6) _
      refine X.iload (x := v37) (pc' := 1618) dL_law_1616 rfl rfl ?_
      refine X.icmp_eq (tgt := 1623) (pc' := 1621) dL_law_1618 (by decide) rfl (fun hc => ?_) (fun hc => ?_)
      · rw [if_pos hc] at h
        refine X.iload (x := v37) (pc' := 1625) dL_law_1623 rfl rfl ?_
        refine X.if_ne (tgt := 1640) (pc' := 1628) dL_law_1625 (by decide) rfl (fun hc => ?_) (fun hc => ?_)
        · rw [if_neg hc] at h
          refine X.goto (pc' := 2157) dL_law_1640 (by decide) ?_
          refine X.sub (L := [some (.ref 3000000), some (.ref a1), some (.ref a2), some (.ref a3), some (.ref a4), some (.int a5), none, none]) ?_ (⟨rfl, ⟨rfl, ⟨rfl, ⟨rfl, ⟨rfl, ⟨rfl, trivial⟩⟩⟩⟩⟩⟩)
          refine X.widen (k' := kk + 4) (n' := nn + 24) (by omega) (by omega) ?_
          exact hk _ h
        · rw [if_pos hc] at h
          refine X.aload_n (x := a3) (pc' := 1629) dL_law_1628 rfl rfl rfl ?_
          refine X.iconst (v := 0) (pc' := 1630) dL_law_1629 rfl (by decide) ?_
          obtain ⟨v66, e65, h⟩ := bindE h
          refine X.lald (pc' := 1631) dL_law_1630 rfl e65 ?_
          refine X.iload (x := v57) (pc' := 1633) dL_law_1631 rfl rfl ?_
          refine X.i2l (pc' := 1634) dL_law_1633 rfl ?_
          refine X.lcmp (pc' := 1635) dL_law_1634 rfl ?_
          refine X.if_eq (tgt := 1640) (pc' := 1638) dL_law_1635 (by decide) rfl (fun hc => ?_) (fun hc => ?_)
          · rw [if_pos hc] at h
            refine X.goto (pc' := 2157) dL_law_1640 (by decide) ?_
            refine X.sub (L := [some (.ref 3000000), some (.ref a1), some (.ref a2), some (.ref a3), some (.ref a4), some (.int a5), none, none]) ?_ (⟨rfl, ⟨rfl, ⟨rfl, ⟨rfl, ⟨rfl, ⟨rfl, trivial⟩⟩⟩⟩⟩⟩)
            refine X.widen (k' := kk + 4) (n' := nn + 24) (by omega) (by omega) ?_
            exact hk _ h
          · rw [if_neg hc] at h
            refine X.iconst (v := 0) (pc' := 1639) dL_law_1638 rfl (by decide) ?_
            cases h
            exact X.iret (ty := .boolean) dL_law_1639 rfl (by decide) (by show kk + 1 ≤ 601024; omega) (by show nn + 6 ≤ 7293033; omega) rfl
      · rw [if_neg hc] at h
        refine X.iconst (v := 0) (pc' := 1622) dL_law_1621 rfl (by decide) ?_
        cases h
        exact X.iret (ty := .boolean) dL_law_1622 rfl (by decide) (by show kk + 1 ≤ 601024; omega) (by show nn + 6 ≤ 7293033; omega) rfl
def g_24 (fu : Nat) (xs : List Int32) (a1 a2 a3 a4 : Nat) (a5 : Int32) (M : List Ob) (k : List Ob → Option (Int32 × List Ob)) : Option (Int32 × List Ob) :=
  (sGet xs (a5 + 1)).bind fun v1 =>
  (hasO M a1 10).bind fun _ =>
  bd2 (f_X10_within fu a1 v1 M) fun v3 M4 =>
  (sGet xs (a5 + 1)).bind fun v7 =>
  (hasO M4 a2 11).bind fun _ =>
  bd2 (f_X11_within fu a2 v7 M4) fun v9 M10 =>
  if v3 = v9 then (k M10)
  else (some (0, M10))
set_option maxHeartbeats 4000000 in
theorem okg_24 {G : GT} (hz : gZ G = false) {fu : Nat} {xs : List Int32} (hX : gX G = xs) {a1 a2 a3 a4 : Nat} {a5 : Int32} {M : List Ob} {kk nn : Nat} (hkk : kk + 8 ≤ 601024) (hnn : nn + 48 ≤ 7293033) {k : List Ob → Option (Int32 × List Ob)} {out : Int32 × List Ob} (hk : ∀ M, k M = some out → X G t_L_law [] 2157 [some (.ref 3000000), some (.ref a1), some (.ref a2), some (.ref a3), some (.ref a4), some (.int a5), none, none] [] M (kk + 4) (nn + 24) (oI out)) (h : g_24 fu xs a1 a2 a3 a4 a5 M k = some out) : X G t_L_law [] 1643 [some (.ref 3000000), some (.ref a1), some (.ref a2), some (.ref a3), some (.ref a4), some (.int a5), none, none] [] M (kk + 0) (nn + 0) (oI out) := by
  unfold g_24 at h
  refine X.aload_n (x := a1) (pc' := 1644) dL_law_1643 rfl rfl rfl ?_
  refine X.aload_n (x := 3000000) (pc' := 1645) dL_law_1644 rfl rfl rfl ?_
  refine X.iload (x := a5) (pc' := 1647) dL_law_1645 rfl rfl ?_
  refine X.iconst (v := 1) (pc' := 1648) dL_law_1647 rfl (by decide) ?_
  refine X.iadd (pc' := 1649) dL_law_1648 rfl ?_
  obtain ⟨v1, e2, h⟩ := bindE h
  refine X.sld (pc' := 1650) dL_law_1649 rfl (by rw [hX]; exact e2) ?_
  obtain ⟨⟨⟩, e6, h⟩ := bindE h
  obtain ⟨v3, M4, e5, h⟩ := bd2E h
  refine X.callV (b := a1) (v := some (.int v3)) (As := [.int v1]) (st := []) (M' := M4) (pc' := 1653) dL_law_1650 rfl cl_L_208 mi_X10_within me_X10_within mr_X10_within e6 ⟨⟨Nat.le_of_ble_eq_true rfl, Nat.le_of_ble_eq_true rfl⟩, (by show kk + 0 + 0 ≤ 601024; omega), (by show nn + 0 + 0 ≤ 7293033; omega)⟩ rfl (Nat.le_of_ble_eq_true rfl) (ok_X10_within (G := zs G) e5) ?_
  show X G t_L_law [] 1653 [some (.ref 3000000), some (.ref a1), some (.ref a2), some (.ref a3), some (.ref a4), some (.int a5), none, none] [.int v3] M4 (kk + 0) (nn + 0) _
  refine X.aload_n (x := a2) (pc' := 1654) dL_law_1653 rfl rfl rfl ?_
  refine X.aload_n (x := 3000000) (pc' := 1655) dL_law_1654 rfl rfl rfl ?_
  refine X.iload (x := a5) (pc' := 1657) dL_law_1655 rfl rfl ?_
  refine X.iconst (v := 1) (pc' := 1658) dL_law_1657 rfl (by decide) ?_
  refine X.iadd (pc' := 1659) dL_law_1658 rfl ?_
  obtain ⟨v7, e8, h⟩ := bindE h
  refine X.sld (pc' := 1660) dL_law_1659 rfl (by rw [hX]; exact e8) ?_
  obtain ⟨⟨⟩, e12, h⟩ := bindE h
  obtain ⟨v9, M10, e11, h⟩ := bd2E h
  refine X.callV (b := a2) (v := some (.int v9)) (As := [.int v7]) (st := [.int v3]) (M' := M10) (pc' := 1663) dL_law_1660 rfl cl_L_211 mi_X11_within me_X11_within mr_X11_within e12 ⟨⟨Nat.le_of_ble_eq_true rfl, Nat.le_of_ble_eq_true rfl⟩, (by show kk + 0 + 0 ≤ 601024; omega), (by show nn + 0 + 0 ≤ 7293033; omega)⟩ rfl (Nat.le_of_ble_eq_true rfl) (ok_X11_within (G := zs G) e11) ?_
  show X G t_L_law [] 1663 [some (.ref 3000000), some (.ref a1), some (.ref a2), some (.ref a3), some (.ref a4), some (.int a5), none, none] [.int v9, .int v3] M10 (kk + 0) (nn + 0) _
  refine X.icmp_eq (tgt := 2157) (pc' := 1666) dL_law_1663 (by decide) rfl (fun hc => ?_) (fun hc => ?_)
  · rw [if_pos hc] at h
    refine X.sub (L := [some (.ref 3000000), some (.ref a1), some (.ref a2), some (.ref a3), some (.ref a4), some (.int a5), none, none]) ?_ (⟨rfl, ⟨rfl, ⟨rfl, ⟨rfl, ⟨rfl, ⟨rfl, trivial⟩⟩⟩⟩⟩⟩)
    refine X.widen (k' := kk + 4) (n' := nn + 24) (by omega) (by omega) ?_
    exact hk _ h
  · rw [if_neg hc] at h
    refine X.iconst (v := 0) (pc' := 1667) dL_law_1666 rfl (by decide) ?_
    cases h
    exact X.iret (ty := .boolean) dL_law_1667 rfl (by decide) (by show kk + 0 ≤ 601024; omega) (by show nn + 0 ≤ 7293033; omega) rfl
def g_25 (fu : Nat) (xs : List Int32) (a1 a2 a3 a4 : Nat) (a5 : Int32) (M : List Ob) (k : List Ob → Option (Int32 × List Ob)) : Option (Int32 × List Ob) :=
  (sGet xs (a5 + 1)).bind fun v1 =>
  (sGet xs (a5 + 2)).bind fun v3 =>
  bd2 (f_L_value fu a1 v1 v3 a3 M) fun v5 M6 =>
  (sGet xs (a5 + 1)).bind fun v9 =>
  (sGet xs (a5 + 2)).bind fun v11 =>
  (hasO M6 a2 11).bind fun _ =>
  bd2 (f_X11_value fu a2 v9 v11 M6) fun v13 M14 =>
  (hasO M14 a2 11).bind fun _ =>
  bd2 (f_X11_thrown fu a2 M14) fun v17 M18 =>
  if v17 = v5 then (if v5 = 0 then ((aJ M18 a3 0).bind fun v22 =>
  if (lg_cmp v22 ((v13 : Int32).toInt64)) = 0 then (k M18)
  else (some (0, M18)))
  else (k M18))
  else (some (0, M18))
set_option maxHeartbeats 4000000 in
theorem okg_25 {G : GT} (hz : gZ G = false) {fu : Nat} {xs : List Int32} (hX : gX G = xs) {a1 a2 a3 a4 : Nat} {a5 : Int32} {M : List Ob} {kk nn : Nat} (hkk : kk + 8 ≤ 601024) (hnn : nn + 48 ≤ 7293033) {k : List Ob → Option (Int32 × List Ob)} {out : Int32 × List Ob} (hk : ∀ M, k M = some out → X G t_L_law [] 2157 [some (.ref 3000000), some (.ref a1), some (.ref a2), some (.ref a3), some (.ref a4), some (.int a5), none, none] [] M (kk + 4) (nn + 24) (oI out)) (h : g_25 fu xs a1 a2 a3 a4 a5 M k = some out) : X G t_L_law [] 1668 [some (.ref 3000000), some (.ref a1), some (.ref a2), some (.ref a3), some (.ref a4), some (.int a5), none, none] [] M (kk + 0) (nn + 0) (oI out) := by
  unfold g_25 at h
  refine X.aload_n (x := a1) (pc' := 1669) dL_law_1668 rfl rfl rfl ?_
  refine X.aload_n (x := 3000000) (pc' := 1670) dL_law_1669 rfl rfl rfl ?_
  refine X.iload (x := a5) (pc' := 1672) dL_law_1670 rfl rfl ?_
  refine X.iconst (v := 1) (pc' := 1673) dL_law_1672 rfl (by decide) ?_
  refine X.iadd (pc' := 1674) dL_law_1673 rfl ?_
  obtain ⟨v1, e2, h⟩ := bindE h
  refine X.sld (pc' := 1675) dL_law_1674 rfl (by rw [hX]; exact e2) ?_
  refine X.aload_n (x := 3000000) (pc' := 1676) dL_law_1675 rfl rfl rfl ?_
  refine X.iload (x := a5) (pc' := 1678) dL_law_1676 rfl rfl ?_
  refine X.iconst (v := 2) (pc' := 1679) dL_law_1678 rfl (by decide) ?_
  refine X.iadd (pc' := 1680) dL_law_1679 rfl ?_
  obtain ⟨v3, e4, h⟩ := bindE h
  refine X.sld (pc' := 1681) dL_law_1680 rfl (by rw [hX]; exact e4) ?_
  refine X.aload_n (x := a3) (pc' := 1682) dL_law_1681 rfl rfl rfl ?_
  obtain ⟨v5, M6, e7, h⟩ := bd2E h
  refine X.callW (v := some (.int v5)) (As := [.ref a1, .int v1, .int v3, .ref a3]) (st := []) (M' := M6) (pc' := 1685) dL_law_1682 rfl cw_L_212 ⟨⟨Nat.le_of_ble_eq_true rfl, Nat.le_of_ble_eq_true rfl⟩, (by show kk + 0 + 2 ≤ 601024; omega), (by show nn + 0 + 12 ≤ 7293033; omega)⟩ rfl (Nat.le_of_ble_eq_true rfl) (ok_L_value (G := zs G) (hz := hz) e7) ?_
  show X G t_L_law [] 1685 [some (.ref 3000000), some (.ref a1), some (.ref a2), some (.ref a3), some (.ref a4), some (.int a5), none, none] [.int v5] M6 (kk + 2) (nn + 12) _
  refine X.istore (L' := [some (.ref 3000000), some (.ref a1), some (.ref a2), some (.ref a3), some (.ref a4), some (.int a5), some (.int v5), none]) (pc' := 1687) dL_law_1685 rfl (Nat.le_of_ble_eq_true rfl) rfl ?_
  refine X.aload_n (x := a2) (pc' := 1688) dL_law_1687 rfl rfl rfl ?_
  refine X.aload_n (x := 3000000) (pc' := 1689) dL_law_1688 rfl rfl rfl ?_
  refine X.iload (x := a5) (pc' := 1691) dL_law_1689 rfl rfl ?_
  refine X.iconst (v := 1) (pc' := 1692) dL_law_1691 rfl (by decide) ?_
  refine X.iadd (pc' := 1693) dL_law_1692 rfl ?_
  obtain ⟨v9, e10, h⟩ := bindE h
  refine X.sld (pc' := 1694) dL_law_1693 rfl (by rw [hX]; exact e10) ?_
  refine X.aload_n (x := 3000000) (pc' := 1695) dL_law_1694 rfl rfl rfl ?_
  refine X.iload (x := a5) (pc' := 1697) dL_law_1695 rfl rfl ?_
  refine X.iconst (v := 2) (pc' := 1698) dL_law_1697 rfl (by decide) ?_
  refine X.iadd (pc' := 1699) dL_law_1698 rfl ?_
  obtain ⟨v11, e12, h⟩ := bindE h
  refine X.sld (pc' := 1700) dL_law_1699 rfl (by rw [hX]; exact e12) ?_
  obtain ⟨⟨⟩, e16, h⟩ := bindE h
  obtain ⟨v13, M14, e15, h⟩ := bd2E h
  refine X.callV (b := a2) (v := some (.int v13)) (As := [.int v9, .int v11]) (st := []) (M' := M14) (pc' := 1703) dL_law_1700 rfl cl_L_214 mi_X11_value me_X11_value mr_X11_value e16 ⟨⟨Nat.le_of_ble_eq_true rfl, Nat.le_of_ble_eq_true rfl⟩, (by show kk + 2 + 0 ≤ 601024; omega), (by show nn + 12 + 0 ≤ 7293033; omega)⟩ rfl (Nat.le_of_ble_eq_true rfl) (ok_X11_value (G := zs G) e15) ?_
  show X G t_L_law [] 1703 [some (.ref 3000000), some (.ref a1), some (.ref a2), some (.ref a3), some (.ref a4), some (.int a5), some (.int v5), none] [.int v13] M14 (kk + 2) (nn + 12) _
  refine X.istore (L' := [some (.ref 3000000), some (.ref a1), some (.ref a2), some (.ref a3), some (.ref a4), some (.int a5), some (.int v5), some (.int v13)]) (pc' := 1705) dL_law_1703 rfl (Nat.le_of_ble_eq_true rfl) rfl ?_
  refine X.aload_n (x := a2) (pc' := 1706) dL_law_1705 rfl rfl rfl ?_
  obtain ⟨⟨⟩, e20, h⟩ := bindE h
  obtain ⟨v17, M18, e19, h⟩ := bd2E h
  refine X.callV (b := a2) (v := some (.int v17)) (As := []) (st := []) (M' := M18) (pc' := 1709) dL_law_1706 rfl cl_L_127 mi_X11_thrown me_X11_thrown mr_X11_thrown e20 ⟨⟨Nat.le_of_ble_eq_true rfl, Nat.le_of_ble_eq_true rfl⟩, (by show kk + 2 + 0 ≤ 601024; omega), (by show nn + 12 + 0 ≤ 7293033; omega)⟩ rfl (Nat.le_of_ble_eq_true rfl) (ok_X11_thrown (G := zs G) e19) ?_
  show X G t_L_law [] 1709 [some (.ref 3000000), some (.ref a1), some (.ref a2), some (.ref a3), some (.ref a4), some (.int a5), some (.int v5), some (.int v13)] [.int v17] M18 (kk + 2) (nn + 12) _
  refine X.iload (x := v5) (pc' := 1711) dL_law_1709 rfl rfl ?_
  refine X.icmp_eq (tgt := 1716) (pc' := 1714) dL_law_1711 (by decide) rfl (fun hc => ?_) (fun hc => ?_)
  · rw [if_pos hc] at h
    refine X.iload (x := v5) (pc' := 1718) dL_law_1716 rfl rfl ?_
    refine X.if_ne (tgt := 1733) (pc' := 1721) dL_law_1718 (by decide) rfl (fun hc => ?_) (fun hc => ?_)
    · rw [if_neg hc] at h
      refine X.goto (pc' := 2157) dL_law_1733 (by decide) ?_
      refine X.sub (L := [some (.ref 3000000), some (.ref a1), some (.ref a2), some (.ref a3), some (.ref a4), some (.int a5), none, none]) ?_ (⟨rfl, ⟨rfl, ⟨rfl, ⟨rfl, ⟨rfl, ⟨rfl, trivial⟩⟩⟩⟩⟩⟩)
      refine X.widen (k' := kk + 4) (n' := nn + 24) (by omega) (by omega) ?_
      exact hk _ h
    · rw [if_pos hc] at h
      refine X.aload_n (x := a3) (pc' := 1722) dL_law_1721 rfl rfl rfl ?_
      refine X.iconst (v := 0) (pc' := 1723) dL_law_1722 rfl (by decide) ?_
      obtain ⟨v22, e21, h⟩ := bindE h
      refine X.lald (pc' := 1724) dL_law_1723 rfl e21 ?_
      refine X.iload (x := v13) (pc' := 1726) dL_law_1724 rfl rfl ?_
      refine X.i2l (pc' := 1727) dL_law_1726 rfl ?_
      refine X.lcmp (pc' := 1728) dL_law_1727 rfl ?_
      refine X.if_eq (tgt := 1733) (pc' := 1731) dL_law_1728 (by decide) rfl (fun hc => ?_) (fun hc => ?_)
      · rw [if_pos hc] at h
        refine X.goto (pc' := 2157) dL_law_1733 (by decide) ?_
        refine X.sub (L := [some (.ref 3000000), some (.ref a1), some (.ref a2), some (.ref a3), some (.ref a4), some (.int a5), none, none]) ?_ (⟨rfl, ⟨rfl, ⟨rfl, ⟨rfl, ⟨rfl, ⟨rfl, trivial⟩⟩⟩⟩⟩⟩)
        refine X.widen (k' := kk + 4) (n' := nn + 24) (by omega) (by omega) ?_
        exact hk _ h
      · rw [if_neg hc] at h
        refine X.iconst (v := 0) (pc' := 1732) dL_law_1731 rfl (by decide) ?_
        cases h
        exact X.iret (ty := .boolean) dL_law_1732 rfl (by decide) (by show kk + 2 ≤ 601024; omega) (by show nn + 12 ≤ 7293033; omega) rfl
  · rw [if_neg hc] at h
    refine X.iconst (v := 0) (pc' := 1715) dL_law_1714 rfl (by decide) ?_
    cases h
    exact X.iret (ty := .boolean) dL_law_1715 rfl (by decide) (by show kk + 2 ≤ 601024; omega) (by show nn + 12 ≤ 7293033; omega) rfl
def g_26 (fu : Nat) (xs : List Int32) (a1 a2 a3 a4 : Nat) (a5 : Int32) (M : List Ob) (k : List Ob → Option (Int32 × List Ob)) : Option (Int32 × List Ob) :=
  (sGet xs (a5 + 1)).bind fun v1 =>
  (sGet xs (a5 + 2)).bind fun v3 =>
  bd2 (f_L_bestNext fu a1 v1 v3 a3 M) fun v5 M6 =>
  (sGet xs (a5 + 1)).bind fun v9 =>
  (sGet xs (a5 + 2)).bind fun v11 =>
  (hasO M6 a2 11).bind fun _ =>
  bd2 (f_X11_bestNext fu a2 v9 v11 M6) fun v13 M14 =>
  (hasO M14 a2 11).bind fun _ =>
  bd2 (f_X11_thrown fu a2 M14) fun v17 M18 =>
  if v17 = v5 then (if v5 = 0 then ((aJ M18 a3 0).bind fun v22 =>
  if (lg_cmp v22 ((v13 : Int32).toInt64)) = 0 then (k M18)
  else (some (0, M18)))
  else (k M18))
  else (some (0, M18))
set_option maxHeartbeats 4000000 in
theorem okg_26 {G : GT} (hz : gZ G = false) {fu : Nat} {xs : List Int32} (hX : gX G = xs) {a1 a2 a3 a4 : Nat} {a5 : Int32} {M : List Ob} {kk nn : Nat} (hkk : kk + 8 ≤ 601024) (hnn : nn + 48 ≤ 7293033) {k : List Ob → Option (Int32 × List Ob)} {out : Int32 × List Ob} (hk : ∀ M, k M = some out → X G t_L_law [] 2157 [some (.ref 3000000), some (.ref a1), some (.ref a2), some (.ref a3), some (.ref a4), some (.int a5), none, none] [] M (kk + 4) (nn + 24) (oI out)) (h : g_26 fu xs a1 a2 a3 a4 a5 M k = some out) : X G t_L_law [] 1736 [some (.ref 3000000), some (.ref a1), some (.ref a2), some (.ref a3), some (.ref a4), some (.int a5), none, none] [] M (kk + 0) (nn + 0) (oI out) := by
  unfold g_26 at h
  refine X.aload_n (x := a1) (pc' := 1737) dL_law_1736 rfl rfl rfl ?_
  refine X.aload_n (x := 3000000) (pc' := 1738) dL_law_1737 rfl rfl rfl ?_
  refine X.iload (x := a5) (pc' := 1740) dL_law_1738 rfl rfl ?_
  refine X.iconst (v := 1) (pc' := 1741) dL_law_1740 rfl (by decide) ?_
  refine X.iadd (pc' := 1742) dL_law_1741 rfl ?_
  obtain ⟨v1, e2, h⟩ := bindE h
  refine X.sld (pc' := 1743) dL_law_1742 rfl (by rw [hX]; exact e2) ?_
  refine X.aload_n (x := 3000000) (pc' := 1744) dL_law_1743 rfl rfl rfl ?_
  refine X.iload (x := a5) (pc' := 1746) dL_law_1744 rfl rfl ?_
  refine X.iconst (v := 2) (pc' := 1747) dL_law_1746 rfl (by decide) ?_
  refine X.iadd (pc' := 1748) dL_law_1747 rfl ?_
  obtain ⟨v3, e4, h⟩ := bindE h
  refine X.sld (pc' := 1749) dL_law_1748 rfl (by rw [hX]; exact e4) ?_
  refine X.aload_n (x := a3) (pc' := 1750) dL_law_1749 rfl rfl rfl ?_
  obtain ⟨v5, M6, e7, h⟩ := bd2E h
  refine X.callW (v := some (.int v5)) (As := [.ref a1, .int v1, .int v3, .ref a3]) (st := []) (M' := M6) (pc' := 1753) dL_law_1750 rfl cw_L_215 ⟨⟨Nat.le_of_ble_eq_true rfl, Nat.le_of_ble_eq_true rfl⟩, (by show kk + 0 + 2 ≤ 601024; omega), (by show nn + 0 + 12 ≤ 7293033; omega)⟩ rfl (Nat.le_of_ble_eq_true rfl) (ok_L_bestNext (G := zs G) (hz := hz) e7) ?_
  show X G t_L_law [] 1753 [some (.ref 3000000), some (.ref a1), some (.ref a2), some (.ref a3), some (.ref a4), some (.int a5), none, none] [.int v5] M6 (kk + 2) (nn + 12) _
  refine X.istore (L' := [some (.ref 3000000), some (.ref a1), some (.ref a2), some (.ref a3), some (.ref a4), some (.int a5), some (.int v5), none]) (pc' := 1755) dL_law_1753 rfl (Nat.le_of_ble_eq_true rfl) rfl ?_
  refine X.aload_n (x := a2) (pc' := 1756) dL_law_1755 rfl rfl rfl ?_
  refine X.aload_n (x := 3000000) (pc' := 1757) dL_law_1756 rfl rfl rfl ?_
  refine X.iload (x := a5) (pc' := 1759) dL_law_1757 rfl rfl ?_
  refine X.iconst (v := 1) (pc' := 1760) dL_law_1759 rfl (by decide) ?_
  refine X.iadd (pc' := 1761) dL_law_1760 rfl ?_
  obtain ⟨v9, e10, h⟩ := bindE h
  refine X.sld (pc' := 1762) dL_law_1761 rfl (by rw [hX]; exact e10) ?_
  refine X.aload_n (x := 3000000) (pc' := 1763) dL_law_1762 rfl rfl rfl ?_
  refine X.iload (x := a5) (pc' := 1765) dL_law_1763 rfl rfl ?_
  refine X.iconst (v := 2) (pc' := 1766) dL_law_1765 rfl (by decide) ?_
  refine X.iadd (pc' := 1767) dL_law_1766 rfl ?_
  obtain ⟨v11, e12, h⟩ := bindE h
  refine X.sld (pc' := 1768) dL_law_1767 rfl (by rw [hX]; exact e12) ?_
  obtain ⟨⟨⟩, e16, h⟩ := bindE h
  obtain ⟨v13, M14, e15, h⟩ := bd2E h
  refine X.callV (b := a2) (v := some (.int v13)) (As := [.int v9, .int v11]) (st := []) (M' := M14) (pc' := 1771) dL_law_1768 rfl cl_L_217 mi_X11_bestNext me_X11_bestNext mr_X11_bestNext e16 ⟨⟨Nat.le_of_ble_eq_true rfl, Nat.le_of_ble_eq_true rfl⟩, (by show kk + 2 + 0 ≤ 601024; omega), (by show nn + 12 + 0 ≤ 7293033; omega)⟩ rfl (Nat.le_of_ble_eq_true rfl) (ok_X11_bestNext (G := zs G) e15) ?_
  show X G t_L_law [] 1771 [some (.ref 3000000), some (.ref a1), some (.ref a2), some (.ref a3), some (.ref a4), some (.int a5), some (.int v5), none] [.int v13] M14 (kk + 2) (nn + 12) _
  refine X.istore (L' := [some (.ref 3000000), some (.ref a1), some (.ref a2), some (.ref a3), some (.ref a4), some (.int a5), some (.int v5), some (.int v13)]) (pc' := 1773) dL_law_1771 rfl (Nat.le_of_ble_eq_true rfl) rfl ?_
  refine X.aload_n (x := a2) (pc' := 1774) dL_law_1773 rfl rfl rfl ?_
  obtain ⟨⟨⟩, e20, h⟩ := bindE h
  obtain ⟨v17, M18, e19, h⟩ := bd2E h
  refine X.callV (b := a2) (v := some (.int v17)) (As := []) (st := []) (M' := M18) (pc' := 1777) dL_law_1774 rfl cl_L_127 mi_X11_thrown me_X11_thrown mr_X11_thrown e20 ⟨⟨Nat.le_of_ble_eq_true rfl, Nat.le_of_ble_eq_true rfl⟩, (by show kk + 2 + 0 ≤ 601024; omega), (by show nn + 12 + 0 ≤ 7293033; omega)⟩ rfl (Nat.le_of_ble_eq_true rfl) (ok_X11_thrown (G := zs G) e19) ?_
  show X G t_L_law [] 1777 [some (.ref 3000000), some (.ref a1), some (.ref a2), some (.ref a3), some (.ref a4), some (.int a5), some (.int v5), some (.int v13)] [.int v17] M18 (kk + 2) (nn + 12) _
  refine X.iload (x := v5) (pc' := 1779) dL_law_1777 rfl rfl ?_
  refine X.icmp_eq (tgt := 1784) (pc' := 1782) dL_law_1779 (by decide) rfl (fun hc => ?_) (fun hc => ?_)
  · rw [if_pos hc] at h
    refine X.iload (x := v5) (pc' := 1786) dL_law_1784 rfl rfl ?_
    refine X.if_ne (tgt := 1801) (pc' := 1789) dL_law_1786 (by decide) rfl (fun hc => ?_) (fun hc => ?_)
    · rw [if_neg hc] at h
      refine X.goto (pc' := 2157) dL_law_1801 (by decide) ?_
      refine X.sub (L := [some (.ref 3000000), some (.ref a1), some (.ref a2), some (.ref a3), some (.ref a4), some (.int a5), none, none]) ?_ (⟨rfl, ⟨rfl, ⟨rfl, ⟨rfl, ⟨rfl, ⟨rfl, trivial⟩⟩⟩⟩⟩⟩)
      refine X.widen (k' := kk + 4) (n' := nn + 24) (by omega) (by omega) ?_
      exact hk _ h
    · rw [if_pos hc] at h
      refine X.aload_n (x := a3) (pc' := 1790) dL_law_1789 rfl rfl rfl ?_
      refine X.iconst (v := 0) (pc' := 1791) dL_law_1790 rfl (by decide) ?_
      obtain ⟨v22, e21, h⟩ := bindE h
      refine X.lald (pc' := 1792) dL_law_1791 rfl e21 ?_
      refine X.iload (x := v13) (pc' := 1794) dL_law_1792 rfl rfl ?_
      refine X.i2l (pc' := 1795) dL_law_1794 rfl ?_
      refine X.lcmp (pc' := 1796) dL_law_1795 rfl ?_
      refine X.if_eq (tgt := 1801) (pc' := 1799) dL_law_1796 (by decide) rfl (fun hc => ?_) (fun hc => ?_)
      · rw [if_pos hc] at h
        refine X.goto (pc' := 2157) dL_law_1801 (by decide) ?_
        refine X.sub (L := [some (.ref 3000000), some (.ref a1), some (.ref a2), some (.ref a3), some (.ref a4), some (.int a5), none, none]) ?_ (⟨rfl, ⟨rfl, ⟨rfl, ⟨rfl, ⟨rfl, ⟨rfl, trivial⟩⟩⟩⟩⟩⟩)
        refine X.widen (k' := kk + 4) (n' := nn + 24) (by omega) (by omega) ?_
        exact hk _ h
      · rw [if_neg hc] at h
        refine X.iconst (v := 0) (pc' := 1800) dL_law_1799 rfl (by decide) ?_
        cases h
        exact X.iret (ty := .boolean) dL_law_1800 rfl (by decide) (by show kk + 2 ≤ 601024; omega) (by show nn + 12 ≤ 7293033; omega) rfl
  · rw [if_neg hc] at h
    refine X.iconst (v := 0) (pc' := 1783) dL_law_1782 rfl (by decide) ?_
    cases h
    exact X.iret (ty := .boolean) dL_law_1783 rfl (by decide) (by show kk + 2 ≤ 601024; omega) (by show nn + 12 ≤ 7293033; omega) rfl
def g_27 (fu : Nat) (xs : List Int32) (a1 a2 a3 a4 : Nat) (a5 : Int32) (M : List Ob) (k : List Ob → Option (Int32 × List Ob)) : Option (Int32 × List Ob) :=
  (sGet xs (a5 + 1)).bind fun v1 =>
  (sGet xs (a5 + 2)).bind fun v3 =>
  if v3 = 0 then (bd2 (f_L_step fu a1 v1 0 a3 M) fun v5 M6 =>
  (sGet xs (a5 + 1)).bind fun v9 =>
  (sGet xs (a5 + 2)).bind fun v11 =>
  if v11 = 0 then ((hasO M6 a2 11).bind fun _ =>
  bd2 (f_X11_step fu a2 v9 0 M6) fun v13 M14 =>
  (hasO M14 a2 11).bind fun _ =>
  bd2 (f_X11_thrown fu a2 M14) fun v17 M18 =>
  if v17 = v5 then (if v5 = 0 then ((aJ M18 a3 0).bind fun v22 =>
  if (lg_cmp v22 ((v13 : Int32).toInt64)) = 0 then (k M18)
  else (some (0, M18)))
  else (k M18))
  else (some (0, M18)))
  else ((hasO M6 a2 11).bind fun _ =>
  bd2 (f_X11_step fu a2 v9 1 M6) fun v23 M24 =>
  (hasO M24 a2 11).bind fun _ =>
  bd2 (f_X11_thrown fu a2 M24) fun v27 M28 =>
  if v27 = v5 then (if v5 = 0 then ((aJ M28 a3 0).bind fun v32 =>
  if (lg_cmp v32 ((v23 : Int32).toInt64)) = 0 then (k M28)
  else (some (0, M28)))
  else (k M28))
  else (some (0, M28))))
  else (bd2 (f_L_step fu a1 v1 1 a3 M) fun v33 M34 =>
  (sGet xs (a5 + 1)).bind fun v37 =>
  (sGet xs (a5 + 2)).bind fun v39 =>
  if v39 = 0 then ((hasO M34 a2 11).bind fun _ =>
  bd2 (f_X11_step fu a2 v37 0 M34) fun v41 M42 =>
  (hasO M42 a2 11).bind fun _ =>
  bd2 (f_X11_thrown fu a2 M42) fun v45 M46 =>
  if v45 = v33 then (if v33 = 0 then ((aJ M46 a3 0).bind fun v50 =>
  if (lg_cmp v50 ((v41 : Int32).toInt64)) = 0 then (k M46)
  else (some (0, M46)))
  else (k M46))
  else (some (0, M46)))
  else ((hasO M34 a2 11).bind fun _ =>
  bd2 (f_X11_step fu a2 v37 1 M34) fun v51 M52 =>
  (hasO M52 a2 11).bind fun _ =>
  bd2 (f_X11_thrown fu a2 M52) fun v55 M56 =>
  if v55 = v33 then (if v33 = 0 then ((aJ M56 a3 0).bind fun v60 =>
  if (lg_cmp v60 ((v51 : Int32).toInt64)) = 0 then (k M56)
  else (some (0, M56)))
  else (k M56))
  else (some (0, M56))))
set_option maxHeartbeats 4000000 in
theorem okg_27 {G : GT} (hz : gZ G = false) {fu : Nat} {xs : List Int32} (hX : gX G = xs) {a1 a2 a3 a4 : Nat} {a5 : Int32} {M : List Ob} {kk nn : Nat} (hkk : kk + 8 ≤ 601024) (hnn : nn + 48 ≤ 7293033) {k : List Ob → Option (Int32 × List Ob)} {out : Int32 × List Ob} (hk : ∀ M, k M = some out → X G t_L_law [] 2157 [some (.ref 3000000), some (.ref a1), some (.ref a2), some (.ref a3), some (.ref a4), some (.int a5), none, none] [] M (kk + 4) (nn + 24) (oI out)) (h : g_27 fu xs a1 a2 a3 a4 a5 M k = some out) : X G t_L_law [] 1804 [some (.ref 3000000), some (.ref a1), some (.ref a2), some (.ref a3), some (.ref a4), some (.int a5), none, none] [] M (kk + 0) (nn + 0) (oI out) := by
  unfold g_27 at h
  refine X.aload_n (x := a1) (pc' := 1805) dL_law_1804 rfl rfl rfl ?_
  refine X.aload_n (x := 3000000) (pc' := 1806) dL_law_1805 rfl rfl rfl ?_
  refine X.iload (x := a5) (pc' := 1808) dL_law_1806 rfl rfl ?_
  refine X.iconst (v := 1) (pc' := 1809) dL_law_1808 rfl (by decide) ?_
  refine X.iadd (pc' := 1810) dL_law_1809 rfl ?_
  obtain ⟨v1, e2, h⟩ := bindE h
  refine X.sld (pc' := 1811) dL_law_1810 rfl (by rw [hX]; exact e2) ?_
  refine X.aload_n (x := 3000000) (pc' := 1812) dL_law_1811 rfl rfl rfl ?_
  refine X.iload (x := a5) (pc' := 1814) dL_law_1812 rfl rfl ?_
  refine X.iconst (v := 2) (pc' := 1815) dL_law_1814 rfl (by decide) ?_
  refine X.iadd (pc' := 1816) dL_law_1815 rfl ?_
  obtain ⟨v3, e4, h⟩ := bindE h
  refine X.sld (pc' := 1817) dL_law_1816 rfl (by rw [hX]; exact e4) ?_
  refine X.if_eq (tgt := 1824) (pc' := 1820) dL_law_1817 (by decide) rfl (fun hc => ?_) (fun hc => ?_)
  · rw [if_pos hc] at h
    refine X.iconst (v := 0) (pc' := 1825) dL_law_1824 rfl (by decide) ?_
    refine X.aload_n (x := a3) (pc' := 1826) dL_law_1825 rfl rfl rfl ?_
    obtain ⟨v5, M6, e7, h⟩ := bd2E h
    refine X.callW (v := some (.int v5)) (As := [.ref a1, .int v1, .int 0, .ref a3]) (st := []) (M' := M6) (pc' := 1829) dL_law_1826 rfl cw_L_218 ⟨⟨Nat.le_of_ble_eq_true rfl, Nat.le_of_ble_eq_true rfl⟩, (by show kk + 0 + 2 ≤ 601024; omega), (by show nn + 0 + 12 ≤ 7293033; omega)⟩ rfl (Nat.le_of_ble_eq_true rfl) (ok_L_step (G := zs G) (hz := hz) e7) ?_
    show X G t_L_law [] 1829 [some (.ref 3000000), some (.ref a1), some (.ref a2), some (.ref a3), some (.ref a4), some (.int a5), none, none] [.int v5] M6 (kk + 2) (nn + 12) _
    refine X.istore (L' := [some (.ref 3000000), some (.ref a1), some (.ref a2), some (.ref a3), some (.ref a4), some (.int a5), some (.int v5), none]) (pc' := 1831) dL_law_1829 rfl (Nat.le_of_ble_eq_true rfl) rfl ?_
    refine X.aload_n (x := a2) (pc' := 1832) dL_law_1831 rfl rfl rfl ?_
    refine X.aload_n (x := 3000000) (pc' := 1833) dL_law_1832 rfl rfl rfl ?_
    refine X.iload (x := a5) (pc' := 1835) dL_law_1833 rfl rfl ?_
    refine X.iconst (v := 1) (pc' := 1836) dL_law_1835 rfl (by decide) ?_
    refine X.iadd (pc' := 1837) dL_law_1836 rfl ?_
    obtain ⟨v9, e10, h⟩ := bindE h
    refine X.sld (pc' := 1838) dL_law_1837 rfl (by rw [hX]; exact e10) ?_
    refine X.aload_n (x := 3000000) (pc' := 1839) dL_law_1838 rfl rfl rfl ?_
    refine X.iload (x := a5) (pc' := 1841) dL_law_1839 rfl rfl ?_
    refine X.iconst (v := 2) (pc' := 1842) dL_law_1841 rfl (by decide) ?_
    refine X.iadd (pc' := 1843) dL_law_1842 rfl ?_
    obtain ⟨v11, e12, h⟩ := bindE h
    refine X.sld (pc' := 1844) dL_law_1843 rfl (by rw [hX]; exact e12) ?_
    refine X.if_eq (tgt := 1851) (pc' := 1847) dL_law_1844 (by decide) rfl (fun hc => ?_) (fun hc => ?_)
    · rw [if_pos hc] at h
      refine X.iconst (v := 0) (pc' := 1852) dL_law_1851 rfl (by decide) ?_
      obtain ⟨⟨⟩, e16, h⟩ := bindE h
      obtain ⟨v13, M14, e15, h⟩ := bd2E h
      refine X.callV (b := a2) (v := some (.int v13)) (As := [.int v9, .int 0]) (st := []) (M' := M14) (pc' := 1855) dL_law_1852 rfl cl_L_221 mi_X11_step me_X11_step mr_X11_step e16 ⟨⟨Nat.le_of_ble_eq_true rfl, Nat.le_of_ble_eq_true rfl⟩, (by show kk + 2 + 0 ≤ 601024; omega), (by show nn + 12 + 0 ≤ 7293033; omega)⟩ rfl (Nat.le_of_ble_eq_true rfl) (ok_X11_step (G := zs G) e15) ?_
      show X G t_L_law [] 1855 [some (.ref 3000000), some (.ref a1), some (.ref a2), some (.ref a3), some (.ref a4), some (.int a5), some (.int v5), none] [.int v13] M14 (kk + 2) (nn + 12) _
      refine X.istore (L' := [some (.ref 3000000), some (.ref a1), some (.ref a2), some (.ref a3), some (.ref a4), some (.int a5), some (.int v5), some (.int v13)]) (pc' := 1857) dL_law_1855 rfl (Nat.le_of_ble_eq_true rfl) rfl ?_
      refine X.aload_n (x := a2) (pc' := 1858) dL_law_1857 rfl rfl rfl ?_
      obtain ⟨⟨⟩, e20, h⟩ := bindE h
      obtain ⟨v17, M18, e19, h⟩ := bd2E h
      refine X.callV (b := a2) (v := some (.int v17)) (As := []) (st := []) (M' := M18) (pc' := 1861) dL_law_1858 rfl cl_L_127 mi_X11_thrown me_X11_thrown mr_X11_thrown e20 ⟨⟨Nat.le_of_ble_eq_true rfl, Nat.le_of_ble_eq_true rfl⟩, (by show kk + 2 + 0 ≤ 601024; omega), (by show nn + 12 + 0 ≤ 7293033; omega)⟩ rfl (Nat.le_of_ble_eq_true rfl) (ok_X11_thrown (G := zs G) e19) ?_
      show X G t_L_law [] 1861 [some (.ref 3000000), some (.ref a1), some (.ref a2), some (.ref a3), some (.ref a4), some (.int a5), some (.int v5), some (.int v13)] [.int v17] M18 (kk + 2) (nn + 12) _
      refine X.iload (x := v5) (pc' := 1863) dL_law_1861 rfl rfl ?_
      refine X.icmp_eq (tgt := 1868) (pc' := 1866) dL_law_1863 (by decide) rfl (fun hc => ?_) (fun hc => ?_)
      · rw [if_pos hc] at h
        refine X.iload (x := v5) (pc' := 1870) dL_law_1868 rfl rfl ?_
        refine X.if_ne (tgt := 1885) (pc' := 1873) dL_law_1870 (by decide) rfl (fun hc => ?_) (fun hc => ?_)
        · rw [if_neg hc] at h
          refine X.goto (pc' := 2157) dL_law_1885 (by decide) ?_
          refine X.sub (L := [some (.ref 3000000), some (.ref a1), some (.ref a2), some (.ref a3), some (.ref a4), some (.int a5), none, none]) ?_ (⟨rfl, ⟨rfl, ⟨rfl, ⟨rfl, ⟨rfl, ⟨rfl, trivial⟩⟩⟩⟩⟩⟩)
          refine X.widen (k' := kk + 4) (n' := nn + 24) (by omega) (by omega) ?_
          exact hk _ h
        · rw [if_pos hc] at h
          refine X.aload_n (x := a3) (pc' := 1874) dL_law_1873 rfl rfl rfl ?_
          refine X.iconst (v := 0) (pc' := 1875) dL_law_1874 rfl (by decide) ?_
          obtain ⟨v22, e21, h⟩ := bindE h
          refine X.lald (pc' := 1876) dL_law_1875 rfl e21 ?_
          refine X.iload (x := v13) (pc' := 1878) dL_law_1876 rfl rfl ?_
          refine X.i2l (pc' := 1879) dL_law_1878 rfl ?_
          refine X.lcmp (pc' := 1880) dL_law_1879 rfl ?_
          refine X.if_eq (tgt := 1885) (pc' := 1883) dL_law_1880 (by decide) rfl (fun hc => ?_) (fun hc => ?_)
          · rw [if_pos hc] at h
            refine X.goto (pc' := 2157) dL_law_1885 (by decide) ?_
            refine X.sub (L := [some (.ref 3000000), some (.ref a1), some (.ref a2), some (.ref a3), some (.ref a4), some (.int a5), none, none]) ?_ (⟨rfl, ⟨rfl, ⟨rfl, ⟨rfl, ⟨rfl, ⟨rfl, trivial⟩⟩⟩⟩⟩⟩)
            refine X.widen (k' := kk + 4) (n' := nn + 24) (by omega) (by omega) ?_
            exact hk _ h
          · rw [if_neg hc] at h
            refine X.iconst (v := 0) (pc' := 1884) dL_law_1883 rfl (by decide) ?_
            cases h
            exact X.iret (ty := .boolean) dL_law_1884 rfl (by decide) (by show kk + 2 ≤ 601024; omega) (by show nn + 12 ≤ 7293033; omega) rfl
      · rw [if_neg hc] at h
        refine X.iconst (v := 0) (pc' := 1867) dL_law_1866 rfl (by decide) ?_
        cases h
        exact X.iret (ty := .boolean) dL_law_1867 rfl (by decide) (by show kk + 2 ≤ 601024; omega) (by show nn + 12 ≤ 7293033; omega) rfl
    · rw [if_neg hc] at h
      refine X.iconst (v := 1) (pc' := 1848) dL_law_1847 rfl (by decide) ?_
      refine X.goto (pc' := 1852) dL_law_1848 (by decide) ?_
      obtain ⟨⟨⟩, e26, h⟩ := bindE h
      obtain ⟨v23, M24, e25, h⟩ := bd2E h
      refine X.callV (b := a2) (v := some (.int v23)) (As := [.int v9, .int 1]) (st := []) (M' := M24) (pc' := 1855) dL_law_1852 rfl cl_L_221 mi_X11_step me_X11_step mr_X11_step e26 ⟨⟨Nat.le_of_ble_eq_true rfl, Nat.le_of_ble_eq_true rfl⟩, (by show kk + 2 + 0 ≤ 601024; omega), (by show nn + 12 + 0 ≤ 7293033; omega)⟩ rfl (Nat.le_of_ble_eq_true rfl) (ok_X11_step (G := zs G) e25) ?_
      show X G t_L_law [] 1855 [some (.ref 3000000), some (.ref a1), some (.ref a2), some (.ref a3), some (.ref a4), some (.int a5), some (.int v5), none] [.int v23] M24 (kk + 2) (nn + 12) _
      refine X.istore (L' := [some (.ref 3000000), some (.ref a1), some (.ref a2), some (.ref a3), some (.ref a4), some (.int a5), some (.int v5), some (.int v23)]) (pc' := 1857) dL_law_1855 rfl (Nat.le_of_ble_eq_true rfl) rfl ?_
      refine X.aload_n (x := a2) (pc' := 1858) dL_law_1857 rfl rfl rfl ?_
      obtain ⟨⟨⟩, e30, h⟩ := bindE h
      obtain ⟨v27, M28, e29, h⟩ := bd2E h
      refine X.callV (b := a2) (v := some (.int v27)) (As := []) (st := []) (M' := M28) (pc' := 1861) dL_law_1858 rfl cl_L_127 mi_X11_thrown me_X11_thrown mr_X11_thrown e30 ⟨⟨Nat.le_of_ble_eq_true rfl, Nat.le_of_ble_eq_true rfl⟩, (by show kk + 2 + 0 ≤ 601024; omega), (by show nn + 12 + 0 ≤ 7293033; omega)⟩ rfl (Nat.le_of_ble_eq_true rfl) (ok_X11_thrown (G := zs G) e29) ?_
      show X G t_L_law [] 1861 [some (.ref 3000000), some (.ref a1), some (.ref a2), some (.ref a3), some (.ref a4), some (.int a5), some (.int v5), some (.int v23)] [.int v27] M28 (kk + 2) (nn + 12) _
      refine X.iload (x := v5) (pc' := 1863) dL_law_1861 rfl rfl ?_
      refine X.icmp_eq (tgt := 1868) (pc' := 1866) dL_law_1863 (by decide) rfl (fun hc => ?_) (fun hc => ?_)
      · rw [if_pos hc] at h
        refine X.iload (x := v5) (pc' := 1870) dL_law_1868 rfl rfl ?_
        refine X.if_ne (tgt := 1885) (pc' := 1873) dL_law_1870 (by decide) rfl (fun hc => ?_) (fun hc => ?_)
        · rw [if_neg hc] at h
          refine X.goto (pc' := 2157) dL_law_1885 (by decide) ?_
          refine X.sub (L := [some (.ref 3000000), some (.ref a1), some (.ref a2), some (.ref a3), some (.ref a4), some (.int a5), none, none]) ?_ (⟨rfl, ⟨rfl, ⟨rfl, ⟨rfl, ⟨rfl, ⟨rfl, trivial⟩⟩⟩⟩⟩⟩)
          refine X.widen (k' := kk + 4) (n' := nn + 24) (by omega) (by omega) ?_
          exact hk _ h
        · rw [if_pos hc] at h
          refine X.aload_n (x := a3) (pc' := 1874) dL_law_1873 rfl rfl rfl ?_
          refine X.iconst (v := 0) (pc' := 1875) dL_law_1874 rfl (by decide) ?_
          obtain ⟨v32, e31, h⟩ := bindE h
          refine X.lald (pc' := 1876) dL_law_1875 rfl e31 ?_
          refine X.iload (x := v23) (pc' := 1878) dL_law_1876 rfl rfl ?_
          refine X.i2l (pc' := 1879) dL_law_1878 rfl ?_
          refine X.lcmp (pc' := 1880) dL_law_1879 rfl ?_
          refine X.if_eq (tgt := 1885) (pc' := 1883) dL_law_1880 (by decide) rfl (fun hc => ?_) (fun hc => ?_)
          · rw [if_pos hc] at h
            refine X.goto (pc' := 2157) dL_law_1885 (by decide) ?_
            refine X.sub (L := [some (.ref 3000000), some (.ref a1), some (.ref a2), some (.ref a3), some (.ref a4), some (.int a5), none, none]) ?_ (⟨rfl, ⟨rfl, ⟨rfl, ⟨rfl, ⟨rfl, ⟨rfl, trivial⟩⟩⟩⟩⟩⟩)
            refine X.widen (k' := kk + 4) (n' := nn + 24) (by omega) (by omega) ?_
            exact hk _ h
          · rw [if_neg hc] at h
            refine X.iconst (v := 0) (pc' := 1884) dL_law_1883 rfl (by decide) ?_
            cases h
            exact X.iret (ty := .boolean) dL_law_1884 rfl (by decide) (by show kk + 2 ≤ 601024; omega) (by show nn + 12 ≤ 7293033; omega) rfl
      · rw [if_neg hc] at h
        refine X.iconst (v := 0) (pc' := 1867) dL_law_1866 rfl (by decide) ?_
        cases h
        exact X.iret (ty := .boolean) dL_law_1867 rfl (by decide) (by show kk + 2 ≤ 601024; omega) (by show nn + 12 ≤ 7293033; omega) rfl
  · rw [if_neg hc] at h
    refine X.iconst (v := 1) (pc' := 1821) dL_law_1820 rfl (by decide) ?_
    refine X.goto (pc' := 1825) dL_law_1821 (by decide) ?_
    refine X.aload_n (x := a3) (pc' := 1826) dL_law_1825 rfl rfl rfl ?_
    obtain ⟨v33, M34, e35, h⟩ := bd2E h
    refine X.callW (v := some (.int v33)) (As := [.ref a1, .int v1, .int 1, .ref a3]) (st := []) (M' := M34) (pc' := 1829) dL_law_1826 rfl cw_L_218 ⟨⟨Nat.le_of_ble_eq_true rfl, Nat.le_of_ble_eq_true rfl⟩, (by show kk + 0 + 2 ≤ 601024; omega), (by show nn + 0 + 12 ≤ 7293033; omega)⟩ rfl (Nat.le_of_ble_eq_true rfl) (ok_L_step (G := zs G) (hz := hz) e35) ?_
    show X G t_L_law [] 1829 [some (.ref 3000000), some (.ref a1), some (.ref a2), some (.ref a3), some (.ref a4), some (.int a5), none, none] [.int v33] M34 (kk + 2) (nn + 12) _
    refine X.istore (L' := [some (.ref 3000000), some (.ref a1), some (.ref a2), some (.ref a3), some (.ref a4), some (.int a5), some (.int v33), none]) (pc' := 1831) dL_law_1829 rfl (Nat.le_of_ble_eq_true rfl) rfl ?_
    refine X.aload_n (x := a2) (pc' := 1832) dL_law_1831 rfl rfl rfl ?_
    refine X.aload_n (x := 3000000) (pc' := 1833) dL_law_1832 rfl rfl rfl ?_
    refine X.iload (x := a5) (pc' := 1835) dL_law_1833 rfl rfl ?_
    refine X.iconst (v := 1) (pc' := 1836) dL_law_1835 rfl (by decide) ?_
    refine X.iadd (pc' := 1837) dL_law_1836 rfl ?_
    obtain ⟨v37, e38, h⟩ := bindE h
    refine X.sld (pc' := 1838) dL_law_1837 rfl (by rw [hX]; exact e38) ?_
    refine X.aload_n (x := 3000000) (pc' := 1839) dL_law_1838 rfl rfl rfl ?_
    refine X.iload (x := a5) (pc' := 1841) dL_law_1839 rfl rfl ?_
    refine X.iconst (v := 2) (pc' := 1842) dL_law_1841 rfl (by decide) ?_
    refine X.iadd (pc' := 1843) dL_law_1842 rfl ?_
    obtain ⟨v39, e40, h⟩ := bindE h
    refine X.sld (pc' := 1844) dL_law_1843 rfl (by rw [hX]; exact e40) ?_
    refine X.if_eq (tgt := 1851) (pc' := 1847) dL_law_1844 (by decide) rfl (fun hc => ?_) (fun hc => ?_)
    · rw [if_pos hc] at h
      refine X.iconst (v := 0) (pc' := 1852) dL_law_1851 rfl (by decide) ?_
      obtain ⟨⟨⟩, e44, h⟩ := bindE h
      obtain ⟨v41, M42, e43, h⟩ := bd2E h
      refine X.callV (b := a2) (v := some (.int v41)) (As := [.int v37, .int 0]) (st := []) (M' := M42) (pc' := 1855) dL_law_1852 rfl cl_L_221 mi_X11_step me_X11_step mr_X11_step e44 ⟨⟨Nat.le_of_ble_eq_true rfl, Nat.le_of_ble_eq_true rfl⟩, (by show kk + 2 + 0 ≤ 601024; omega), (by show nn + 12 + 0 ≤ 7293033; omega)⟩ rfl (Nat.le_of_ble_eq_true rfl) (ok_X11_step (G := zs G) e43) ?_
      show X G t_L_law [] 1855 [some (.ref 3000000), some (.ref a1), some (.ref a2), some (.ref a3), some (.ref a4), some (.int a5), some (.int v33), none] [.int v41] M42 (kk + 2) (nn + 12) _
      refine X.istore (L' := [some (.ref 3000000), some (.ref a1), some (.ref a2), some (.ref a3), some (.ref a4), some (.int a5), some (.int v33), some (.int v41)]) (pc' := 1857) dL_law_1855 rfl (Nat.le_of_ble_eq_true rfl) rfl ?_
      refine X.aload_n (x := a2) (pc' := 1858) dL_law_1857 rfl rfl rfl ?_
      obtain ⟨⟨⟩, e48, h⟩ := bindE h
      obtain ⟨v45, M46, e47, h⟩ := bd2E h
      refine X.callV (b := a2) (v := some (.int v45)) (As := []) (st := []) (M' := M46) (pc' := 1861) dL_law_1858 rfl cl_L_127 mi_X11_thrown me_X11_thrown mr_X11_thrown e48 ⟨⟨Nat.le_of_ble_eq_true rfl, Nat.le_of_ble_eq_true rfl⟩, (by show kk + 2 + 0 ≤ 601024; omega), (by show nn + 12 + 0 ≤ 7293033; omega)⟩ rfl (Nat.le_of_ble_eq_true rfl) (ok_X11_thrown (G := zs G) e47) ?_
      show X G t_L_law [] 1861 [some (.ref 3000000), some (.ref a1), some (.ref a2), some (.ref a3), some (.ref a4), some (.int a5), some (.int v33), some (.int v41)] [.int v45] M46 (kk + 2) (nn + 12) _
      refine X.iload (x := v33) (pc' := 1863) dL_law_1861 rfl rfl ?_
      refine X.icmp_eq (tgt := 1868) (pc' := 1866) dL_law_1863 (by decide) rfl (fun hc => ?_) (fun hc => ?_)
      · rw [if_pos hc] at h
        refine X.iload (x := v33) (pc' := 1870) dL_law_1868 rfl rfl ?_
        refine X.if_ne (tgt := 1885) (pc' := 1873) dL_law_1870 (by decide) rfl (fun hc => ?_) (fun hc => ?_)
        · rw [if_neg hc] at h
          refine X.goto (pc' := 2157) dL_law_1885 (by decide) ?_
          refine X.sub (L := [some (.ref 3000000), some (.ref a1), some (.ref a2), some (.ref a3), some (.ref a4), some (.int a5), none, none]) ?_ (⟨rfl, ⟨rfl, ⟨rfl, ⟨rfl, ⟨rfl, ⟨rfl, trivial⟩⟩⟩⟩⟩⟩)
          refine X.widen (k' := kk + 4) (n' := nn + 24) (by omega) (by omega) ?_
          exact hk _ h
        · rw [if_pos hc] at h
          refine X.aload_n (x := a3) (pc' := 1874) dL_law_1873 rfl rfl rfl ?_
          refine X.iconst (v := 0) (pc' := 1875) dL_law_1874 rfl (by decide) ?_
          obtain ⟨v50, e49, h⟩ := bindE h
          refine X.lald (pc' := 1876) dL_law_1875 rfl e49 ?_
          refine X.iload (x := v41) (pc' := 1878) dL_law_1876 rfl rfl ?_
          refine X.i2l (pc' := 1879) dL_law_1878 rfl ?_
          refine X.lcmp (pc' := 1880) dL_law_1879 rfl ?_
          refine X.if_eq (tgt := 1885) (pc' := 1883) dL_law_1880 (by decide) rfl (fun hc => ?_) (fun hc => ?_)
          · rw [if_pos hc] at h
            refine X.goto (pc' := 2157) dL_law_1885 (by decide) ?_
            refine X.sub (L := [some (.ref 3000000), some (.ref a1), some (.ref a2), some (.ref a3), some (.ref a4), some (.int a5), none, none]) ?_ (⟨rfl, ⟨rfl, ⟨rfl, ⟨rfl, ⟨rfl, ⟨rfl, trivial⟩⟩⟩⟩⟩⟩)
            refine X.widen (k' := kk + 4) (n' := nn + 24) (by omega) (by omega) ?_
            exact hk _ h
          · rw [if_neg hc] at h
            refine X.iconst (v := 0) (pc' := 1884) dL_law_1883 rfl (by decide) ?_
            cases h
            exact X.iret (ty := .boolean) dL_law_1884 rfl (by decide) (by show kk + 2 ≤ 601024; omega) (by show nn + 12 ≤ 7293033; omega) rfl
      · rw [if_neg hc] at h
        refine X.iconst (v := 0) (pc' := 1867) dL_law_1866 rfl (by decide) ?_
        cases h
        exact X.iret (ty := .boolean) dL_law_1867 rfl (by decide) (by show kk + 2 ≤ 601024; omega) (by show nn + 12 ≤ 7293033; omega) rfl
    · rw [if_neg hc] at h
      refine X.iconst (v := 1) (pc' := 1848) dL_law_1847 rfl (by decide) ?_
      refine X.goto (pc' := 1852) dL_law_1848 (by decide) ?_
      obtain ⟨⟨⟩, e54, h⟩ := bindE h
      obtain ⟨v51, M52, e53, h⟩ := bd2E h
      refine X.callV (b := a2) (v := some (.int v51)) (As := [.int v37, .int 1]) (st := []) (M' := M52) (pc' := 1855) dL_law_1852 rfl cl_L_221 mi_X11_step me_X11_step mr_X11_step e54 ⟨⟨Nat.le_of_ble_eq_true rfl, Nat.le_of_ble_eq_true rfl⟩, (by show kk + 2 + 0 ≤ 601024; omega), (by show nn + 12 + 0 ≤ 7293033; omega)⟩ rfl (Nat.le_of_ble_eq_true rfl) (ok_X11_step (G := zs G) e53) ?_
      show X G t_L_law [] 1855 [some (.ref 3000000), some (.ref a1), some (.ref a2), some (.ref a3), some (.ref a4), some (.int a5), some (.int v33), none] [.int v51] M52 (kk + 2) (nn + 12) _
      refine X.istore (L' := [some (.ref 3000000), some (.ref a1), some (.ref a2), some (.ref a3), some (.ref a4), some (.int a5), some (.int v33), some (.int v51)]) (pc' := 1857) dL_law_1855 rfl (Nat.le_of_ble_eq_true rfl) rfl ?_
      refine X.aload_n (x := a2) (pc' := 1858) dL_law_1857 rfl rfl rfl ?_
      obtain ⟨⟨⟩, e58, h⟩ := bindE h
      obtain ⟨v55, M56, e57, h⟩ := bd2E h
      refine X.callV (b := a2) (v := some (.int v55)) (As := []) (st := []) (M' := M56) (pc' := 1861) dL_law_1858 rfl cl_L_127 mi_X11_thrown me_X11_thrown mr_X11_thrown e58 ⟨⟨Nat.le_of_ble_eq_true rfl, Nat.le_of_ble_eq_true rfl⟩, (by show kk + 2 + 0 ≤ 601024; omega), (by show nn + 12 + 0 ≤ 7293033; omega)⟩ rfl (Nat.le_of_ble_eq_true rfl) (ok_X11_thrown (G := zs G) e57) ?_
      show X G t_L_law [] 1861 [some (.ref 3000000), some (.ref a1), some (.ref a2), some (.ref a3), some (.ref a4), some (.int a5), some (.int v33), some (.int v51)] [.int v55] M56 (kk + 2) (nn + 12) _
      refine X.iload (x := v33) (pc' := 1863) dL_law_1861 rfl rfl ?_
      refine X.icmp_eq (tgt := 1868) (pc' := 1866) dL_law_1863 (by decide) rfl (fun hc => ?_) (fun hc => ?_)
      · rw [if_pos hc] at h
        refine X.iload (x := v33) (pc' := 1870) dL_law_1868 rfl rfl ?_
        refine X.if_ne (tgt := 1885) (pc' := 1873) dL_law_1870 (by decide) rfl (fun hc => ?_) (fun hc => ?_)
        · rw [if_neg hc] at h
          refine X.goto (pc' := 2157) dL_law_1885 (by decide) ?_
          refine X.sub (L := [some (.ref 3000000), some (.ref a1), some (.ref a2), some (.ref a3), some (.ref a4), some (.int a5), none, none]) ?_ (⟨rfl, ⟨rfl, ⟨rfl, ⟨rfl, ⟨rfl, ⟨rfl, trivial⟩⟩⟩⟩⟩⟩)
          refine X.widen (k' := kk + 4) (n' := nn + 24) (by omega) (by omega) ?_
          exact hk _ h
        · rw [if_pos hc] at h
          refine X.aload_n (x := a3) (pc' := 1874) dL_law_1873 rfl rfl rfl ?_
          refine X.iconst (v := 0) (pc' := 1875) dL_law_1874 rfl (by decide) ?_
          obtain ⟨v60, e59, h⟩ := bindE h
          refine X.lald (pc' := 1876) dL_law_1875 rfl e59 ?_
          refine X.iload (x := v51) (pc' := 1878) dL_law_1876 rfl rfl ?_
          refine X.i2l (pc' := 1879) dL_law_1878 rfl ?_
          refine X.lcmp (pc' := 1880) dL_law_1879 rfl ?_
          refine X.if_eq (tgt := 1885) (pc' := 1883) dL_law_1880 (by decide) rfl (fun hc => ?_) (fun hc => ?_)
          · rw [if_pos hc] at h
            refine X.goto (pc' := 2157) dL_law_1885 (by decide) ?_
            refine X.sub (L := [some (.ref 3000000), some (.ref a1), some (.ref a2), some (.ref a3), some (.ref a4), some (.int a5), none, none]) ?_ (⟨rfl, ⟨rfl, ⟨rfl, ⟨rfl, ⟨rfl, ⟨rfl, trivial⟩⟩⟩⟩⟩⟩)
            refine X.widen (k' := kk + 4) (n' := nn + 24) (by omega) (by omega) ?_
            exact hk _ h
          · rw [if_neg hc] at h
            refine X.iconst (v := 0) (pc' := 1884) dL_law_1883 rfl (by decide) ?_
            cases h
            exact X.iret (ty := .boolean) dL_law_1884 rfl (by decide) (by show kk + 2 ≤ 601024; omega) (by show nn + 12 ≤ 7293033; omega) rfl
      · rw [if_neg hc] at h
        refine X.iconst (v := 0) (pc' := 1867) dL_law_1866 rfl (by decide) ?_
        cases h
        exact X.iret (ty := .boolean) dL_law_1867 rfl (by decide) (by show kk + 2 ≤ 601024; omega) (by show nn + 12 ≤ 7293033; omega) rfl
def g_28 (fu : Nat) (xs : List Int32) (a1 a2 a3 a4 : Nat) (a5 : Int32) (M : List Ob) (k : List Ob → Option (Int32 × List Ob)) : Option (Int32 × List Ob) :=
  (hasO M a1 10).bind fun _ =>
  bd2 (f_X10_restart fu a1 M) fun v1 M2 =>
  (hasO M2 a2 11).bind fun _ =>
  bd2 (f_X11_restart fu a2 M2) fun v5 M6 =>
  if v1 = v5 then (k M6)
  else (some (0, M6))
set_option maxHeartbeats 4000000 in
theorem okg_28 {G : GT} (hz : gZ G = false) {fu : Nat} {xs : List Int32} (hX : gX G = xs) {a1 a2 a3 a4 : Nat} {a5 : Int32} {M : List Ob} {kk nn : Nat} (hkk : kk + 8 ≤ 601024) (hnn : nn + 48 ≤ 7293033) {k : List Ob → Option (Int32 × List Ob)} {out : Int32 × List Ob} (hk : ∀ M, k M = some out → X G t_L_law [] 2157 [some (.ref 3000000), some (.ref a1), some (.ref a2), some (.ref a3), some (.ref a4), some (.int a5), none, none] [] M (kk + 4) (nn + 24) (oI out)) (h : g_28 fu xs a1 a2 a3 a4 a5 M k = some out) : X G t_L_law [] 1888 [some (.ref 3000000), some (.ref a1), some (.ref a2), some (.ref a3), some (.ref a4), some (.int a5), none, none] [] M (kk + 0) (nn + 0) (oI out) := by
  unfold g_28 at h
  refine X.aload_n (x := a1) (pc' := 1889) dL_law_1888 rfl rfl rfl ?_
  obtain ⟨⟨⟩, e4, h⟩ := bindE h
  obtain ⟨v1, M2, e3, h⟩ := bd2E h
  refine X.callV (b := a1) (v := some (.int v1)) (As := []) (st := []) (M' := M2) (pc' := 1892) dL_law_1889 rfl cl_L_222 mi_X10_restart me_X10_restart mr_X10_restart e4 ⟨⟨Nat.le_of_ble_eq_true rfl, Nat.le_of_ble_eq_true rfl⟩, (by show kk + 0 + 0 ≤ 601024; omega), (by show nn + 0 + 0 ≤ 7293033; omega)⟩ rfl (Nat.le_of_ble_eq_true rfl) (ok_X10_restart (G := zs G) (hz := hz) e3) ?_
  show X G t_L_law [] 1892 [some (.ref 3000000), some (.ref a1), some (.ref a2), some (.ref a3), some (.ref a4), some (.int a5), none, none] [.int v1] M2 (kk + 0) (nn + 0) _
  refine X.aload_n (x := a2) (pc' := 1893) dL_law_1892 rfl rfl rfl ?_
  obtain ⟨⟨⟩, e8, h⟩ := bindE h
  obtain ⟨v5, M6, e7, h⟩ := bd2E h
  refine X.callV (b := a2) (v := some (.int v5)) (As := []) (st := [.int v1]) (M' := M6) (pc' := 1896) dL_law_1893 rfl cl_L_225 mi_X11_restart me_X11_restart mr_X11_restart e8 ⟨⟨Nat.le_of_ble_eq_true rfl, Nat.le_of_ble_eq_true rfl⟩, (by show kk + 0 + 0 ≤ 601024; omega), (by show nn + 0 + 0 ≤ 7293033; omega)⟩ rfl (Nat.le_of_ble_eq_true rfl) (ok_X11_restart (G := zs G) e7) ?_
  show X G t_L_law [] 1896 [some (.ref 3000000), some (.ref a1), some (.ref a2), some (.ref a3), some (.ref a4), some (.int a5), none, none] [.int v5, .int v1] M6 (kk + 0) (nn + 0) _
  refine X.icmp_eq (tgt := 2157) (pc' := 1899) dL_law_1896 (by decide) rfl (fun hc => ?_) (fun hc => ?_)
  · rw [if_pos hc] at h
    refine X.sub (L := [some (.ref 3000000), some (.ref a1), some (.ref a2), some (.ref a3), some (.ref a4), some (.int a5), none, none]) ?_ (⟨rfl, ⟨rfl, ⟨rfl, ⟨rfl, ⟨rfl, ⟨rfl, trivial⟩⟩⟩⟩⟩⟩)
    refine X.widen (k' := kk + 4) (n' := nn + 24) (by omega) (by omega) ?_
    exact hk _ h
  · rw [if_neg hc] at h
    refine X.iconst (v := 0) (pc' := 1900) dL_law_1899 rfl (by decide) ?_
    cases h
    exact X.iret (ty := .boolean) dL_law_1900 rfl (by decide) (by show kk + 0 ≤ 601024; omega) (by show nn + 0 ≤ 7293033; omega) rfl
def g_29 (fu : Nat) (xs : List Int32) (a1 a2 a3 a4 : Nat) (a5 : Int32) (M : List Ob) (k : List Ob → Option (Int32 × List Ob)) : Option (Int32 × List Ob) :=
  bd2 (f_L_promise fu a1 a3 M) fun v1 M2 =>
  (hasO M2 a2 11).bind fun _ =>
  bd2 (f_X11_promise fu a2 M2) fun v5 M6 =>
  (hasO M6 a2 11).bind fun _ =>
  bd2 (f_X11_thrown fu a2 M6) fun v9 M10 =>
  if v9 = v1 then (if v1 = 0 then ((aJ M10 a3 0).bind fun v14 =>
  if (lg_cmp v14 ((v5 : Int32).toInt64)) = 0 then (k M10)
  else (some (0, M10)))
  else (k M10))
  else (some (0, M10))
set_option maxHeartbeats 4000000 in
theorem okg_29 {G : GT} (hz : gZ G = false) {fu : Nat} {xs : List Int32} (hX : gX G = xs) {a1 a2 a3 a4 : Nat} {a5 : Int32} {M : List Ob} {kk nn : Nat} (hkk : kk + 8 ≤ 601024) (hnn : nn + 48 ≤ 7293033) {k : List Ob → Option (Int32 × List Ob)} {out : Int32 × List Ob} (hk : ∀ M, k M = some out → X G t_L_law [] 2157 [some (.ref 3000000), some (.ref a1), some (.ref a2), some (.ref a3), some (.ref a4), some (.int a5), none, none] [] M (kk + 4) (nn + 24) (oI out)) (h : g_29 fu xs a1 a2 a3 a4 a5 M k = some out) : X G t_L_law [] 1901 [some (.ref 3000000), some (.ref a1), some (.ref a2), some (.ref a3), some (.ref a4), some (.int a5), none, none] [] M (kk + 0) (nn + 0) (oI out) := by
  unfold g_29 at h
  refine X.aload_n (x := a1) (pc' := 1902) dL_law_1901 rfl rfl rfl ?_
  refine X.aload_n (x := a3) (pc' := 1903) dL_law_1902 rfl rfl rfl ?_
  obtain ⟨v1, M2, e3, h⟩ := bd2E h
  refine X.callW (v := some (.int v1)) (As := [.ref a1, .ref a3]) (st := []) (M' := M2) (pc' := 1906) dL_law_1903 rfl cw_L_226 ⟨⟨Nat.le_of_ble_eq_true rfl, Nat.le_of_ble_eq_true rfl⟩, (by show kk + 0 + 1 ≤ 601024; omega), (by show nn + 0 + 6 ≤ 7293033; omega)⟩ rfl (Nat.le_of_ble_eq_true rfl) (ok_L_promise (G := zs G) (hz := hz) e3) ?_
  show X G t_L_law [] 1906 [some (.ref 3000000), some (.ref a1), some (.ref a2), some (.ref a3), some (.ref a4), some (.int a5), none, none] [.int v1] M2 (kk + 1) (nn + 6) _
  refine X.istore (L' := [some (.ref 3000000), some (.ref a1), some (.ref a2), some (.ref a3), some (.ref a4), some (.int a5), some (.int v1), none]) (pc' := 1908) dL_law_1906 rfl (Nat.le_of_ble_eq_true rfl) rfl ?_
  refine X.aload_n (x := a2) (pc' := 1909) dL_law_1908 rfl rfl rfl ?_
  obtain ⟨⟨⟩, e8, h⟩ := bindE h
  obtain ⟨v5, M6, e7, h⟩ := bd2E h
  refine X.callV (b := a2) (v := some (.int v5)) (As := []) (st := []) (M' := M6) (pc' := 1912) dL_law_1909 rfl cl_L_228 mi_X11_promise me_X11_promise mr_X11_promise e8 ⟨⟨Nat.le_of_ble_eq_true rfl, Nat.le_of_ble_eq_true rfl⟩, (by show kk + 1 + 0 ≤ 601024; omega), (by show nn + 6 + 0 ≤ 7293033; omega)⟩ rfl (Nat.le_of_ble_eq_true rfl) (ok_X11_promise (G := zs G) e7) ?_
  show X G t_L_law [] 1912 [some (.ref 3000000), some (.ref a1), some (.ref a2), some (.ref a3), some (.ref a4), some (.int a5), some (.int v1), none] [.int v5] M6 (kk + 1) (nn + 6) _
  refine X.istore (L' := [some (.ref 3000000), some (.ref a1), some (.ref a2), some (.ref a3), some (.ref a4), some (.int a5), some (.int v1), some (.int v5)]) (pc' := 1914) dL_law_1912 rfl (Nat.le_of_ble_eq_true rfl) rfl ?_
  refine X.aload_n (x := a2) (pc' := 1915) dL_law_1914 rfl rfl rfl ?_
  obtain ⟨⟨⟩, e12, h⟩ := bindE h
  obtain ⟨v9, M10, e11, h⟩ := bd2E h
  refine X.callV (b := a2) (v := some (.int v9)) (As := []) (st := []) (M' := M10) (pc' := 1918) dL_law_1915 rfl cl_L_127 mi_X11_thrown me_X11_thrown mr_X11_thrown e12 ⟨⟨Nat.le_of_ble_eq_true rfl, Nat.le_of_ble_eq_true rfl⟩, (by show kk + 1 + 0 ≤ 601024; omega), (by show nn + 6 + 0 ≤ 7293033; omega)⟩ rfl (Nat.le_of_ble_eq_true rfl) (ok_X11_thrown (G := zs G) e11) ?_
  show X G t_L_law [] 1918 [some (.ref 3000000), some (.ref a1), some (.ref a2), some (.ref a3), some (.ref a4), some (.int a5), some (.int v1), some (.int v5)] [.int v9] M10 (kk + 1) (nn + 6) _
  refine X.iload (x := v1) (pc' := 1920) dL_law_1918 rfl rfl ?_
  refine X.icmp_eq (tgt := 1925) (pc' := 1923) dL_law_1920 (by decide) rfl (fun hc => ?_) (fun hc => ?_)
  · rw [if_pos hc] at h
    refine X.iload (x := v1) (pc' := 1927) dL_law_1925 rfl rfl ?_
    refine X.if_ne (tgt := 1942) (pc' := 1930) dL_law_1927 (by decide) rfl (fun hc => ?_) (fun hc => ?_)
    · rw [if_neg hc] at h
      refine X.goto (pc' := 2157) dL_law_1942 (by decide) ?_
      refine X.sub (L := [some (.ref 3000000), some (.ref a1), some (.ref a2), some (.ref a3), some (.ref a4), some (.int a5), none, none]) ?_ (⟨rfl, ⟨rfl, ⟨rfl, ⟨rfl, ⟨rfl, ⟨rfl, trivial⟩⟩⟩⟩⟩⟩)
      refine X.widen (k' := kk + 4) (n' := nn + 24) (by omega) (by omega) ?_
      exact hk _ h
    · rw [if_pos hc] at h
      refine X.aload_n (x := a3) (pc' := 1931) dL_law_1930 rfl rfl rfl ?_
      refine X.iconst (v := 0) (pc' := 1932) dL_law_1931 rfl (by decide) ?_
      obtain ⟨v14, e13, h⟩ := bindE h
      refine X.lald (pc' := 1933) dL_law_1932 rfl e13 ?_
      refine X.iload (x := v5) (pc' := 1935) dL_law_1933 rfl rfl ?_
      refine X.i2l (pc' := 1936) dL_law_1935 rfl ?_
      refine X.lcmp (pc' := 1937) dL_law_1936 rfl ?_
      refine X.if_eq (tgt := 1942) (pc' := 1940) dL_law_1937 (by decide) rfl (fun hc => ?_) (fun hc => ?_)
      · rw [if_pos hc] at h
        refine X.goto (pc' := 2157) dL_law_1942 (by decide) ?_
        refine X.sub (L := [some (.ref 3000000), some (.ref a1), some (.ref a2), some (.ref a3), some (.ref a4), some (.int a5), none, none]) ?_ (⟨rfl, ⟨rfl, ⟨rfl, ⟨rfl, ⟨rfl, ⟨rfl, trivial⟩⟩⟩⟩⟩⟩)
        refine X.widen (k' := kk + 4) (n' := nn + 24) (by omega) (by omega) ?_
        exact hk _ h
      · rw [if_neg hc] at h
        refine X.iconst (v := 0) (pc' := 1941) dL_law_1940 rfl (by decide) ?_
        cases h
        exact X.iret (ty := .boolean) dL_law_1941 rfl (by decide) (by show kk + 1 ≤ 601024; omega) (by show nn + 6 ≤ 7293033; omega) rfl
  · rw [if_neg hc] at h
    refine X.iconst (v := 0) (pc' := 1924) dL_law_1923 rfl (by decide) ?_
    cases h
    exact X.iret (ty := .boolean) dL_law_1924 rfl (by decide) (by show kk + 1 ≤ 601024; omega) (by show nn + 6 ≤ 7293033; omega) rfl
def g_30 (fu : Nat) (xs : List Int32) (a1 a2 a3 a4 : Nat) (a5 : Int32) (M : List Ob) (k : List Ob → Option (Int32 × List Ob)) : Option (Int32 × List Ob) :=
  (sGet xs (a5 + 1)).bind fun v1 =>
  bd2 (f_L_grief fu a1 v1 a3 M) fun v3 M4 =>
  (sGet xs (a5 + 1)).bind fun v7 =>
  (hasO M4 a2 11).bind fun _ =>
  bd2 (f_X11_grief fu a2 v7 M4) fun v9 M10 =>
  (hasO M10 a2 11).bind fun _ =>
  bd2 (f_X11_thrown fu a2 M10) fun v13 M14 =>
  if v13 = v3 then (if v3 = 0 then ((aJ M14 a3 0).bind fun v18 =>
  if (lg_cmp v18 ((v9 : Int32).toInt64)) = 0 then (k M14)
  else (some (0, M14)))
  else (k M14))
  else (some (0, M14))
set_option maxHeartbeats 4000000 in
theorem okg_30 {G : GT} (hz : gZ G = false) {fu : Nat} {xs : List Int32} (hX : gX G = xs) {a1 a2 a3 a4 : Nat} {a5 : Int32} {M : List Ob} {kk nn : Nat} (hkk : kk + 8 ≤ 601024) (hnn : nn + 48 ≤ 7293033) {k : List Ob → Option (Int32 × List Ob)} {out : Int32 × List Ob} (hk : ∀ M, k M = some out → X G t_L_law [] 2157 [some (.ref 3000000), some (.ref a1), some (.ref a2), some (.ref a3), some (.ref a4), some (.int a5), none, none] [] M (kk + 4) (nn + 24) (oI out)) (h : g_30 fu xs a1 a2 a3 a4 a5 M k = some out) : X G t_L_law [] 1945 [some (.ref 3000000), some (.ref a1), some (.ref a2), some (.ref a3), some (.ref a4), some (.int a5), none, none] [] M (kk + 0) (nn + 0) (oI out) := by
  unfold g_30 at h
  refine X.aload_n (x := a1) (pc' := 1946) dL_law_1945 rfl rfl rfl ?_
  refine X.aload_n (x := 3000000) (pc' := 1947) dL_law_1946 rfl rfl rfl ?_
  refine X.iload (x := a5) (pc' := 1949) dL_law_1947 rfl rfl ?_
  refine X.iconst (v := 1) (pc' := 1950) dL_law_1949 rfl (by decide) ?_
  refine X.iadd (pc' := 1951) dL_law_1950 rfl ?_
  obtain ⟨v1, e2, h⟩ := bindE h
  refine X.sld (pc' := 1952) dL_law_1951 rfl (by rw [hX]; exact e2) ?_
  refine X.aload_n (x := a3) (pc' := 1953) dL_law_1952 rfl rfl rfl ?_
  obtain ⟨v3, M4, e5, h⟩ := bd2E h
  refine X.callW (v := some (.int v3)) (As := [.ref a1, .int v1, .ref a3]) (st := []) (M' := M4) (pc' := 1956) dL_law_1953 rfl cw_L_229 ⟨⟨Nat.le_of_ble_eq_true rfl, Nat.le_of_ble_eq_true rfl⟩, (by show kk + 0 + 2 ≤ 601024; omega), (by show nn + 0 + 12 ≤ 7293033; omega)⟩ rfl (Nat.le_of_ble_eq_true rfl) (ok_L_grief (G := zs G) (hz := hz) e5) ?_
  show X G t_L_law [] 1956 [some (.ref 3000000), some (.ref a1), some (.ref a2), some (.ref a3), some (.ref a4), some (.int a5), none, none] [.int v3] M4 (kk + 2) (nn + 12) _
  refine X.istore (L' := [some (.ref 3000000), some (.ref a1), some (.ref a2), some (.ref a3), some (.ref a4), some (.int a5), some (.int v3), none]) (pc' := 1958) dL_law_1956 rfl (Nat.le_of_ble_eq_true rfl) rfl ?_
  refine X.aload_n (x := a2) (pc' := 1959) dL_law_1958 rfl rfl rfl ?_
  refine X.aload_n (x := 3000000) (pc' := 1960) dL_law_1959 rfl rfl rfl ?_
  refine X.iload (x := a5) (pc' := 1962) dL_law_1960 rfl rfl ?_
  refine X.iconst (v := 1) (pc' := 1963) dL_law_1962 rfl (by decide) ?_
  refine X.iadd (pc' := 1964) dL_law_1963 rfl ?_
  obtain ⟨v7, e8, h⟩ := bindE h
  refine X.sld (pc' := 1965) dL_law_1964 rfl (by rw [hX]; exact e8) ?_
  obtain ⟨⟨⟩, e12, h⟩ := bindE h
  obtain ⟨v9, M10, e11, h⟩ := bd2E h
  refine X.callV (b := a2) (v := some (.int v9)) (As := [.int v7]) (st := []) (M' := M10) (pc' := 1968) dL_law_1965 rfl cl_L_231 mi_X11_grief me_X11_grief mr_X11_grief e12 ⟨⟨Nat.le_of_ble_eq_true rfl, Nat.le_of_ble_eq_true rfl⟩, (by show kk + 2 + 0 ≤ 601024; omega), (by show nn + 12 + 0 ≤ 7293033; omega)⟩ rfl (Nat.le_of_ble_eq_true rfl) (ok_X11_grief (G := zs G) e11) ?_
  show X G t_L_law [] 1968 [some (.ref 3000000), some (.ref a1), some (.ref a2), some (.ref a3), some (.ref a4), some (.int a5), some (.int v3), none] [.int v9] M10 (kk + 2) (nn + 12) _
  refine X.istore (L' := [some (.ref 3000000), some (.ref a1), some (.ref a2), some (.ref a3), some (.ref a4), some (.int a5), some (.int v3), some (.int v9)]) (pc' := 1970) dL_law_1968 rfl (Nat.le_of_ble_eq_true rfl) rfl ?_
  refine X.aload_n (x := a2) (pc' := 1971) dL_law_1970 rfl rfl rfl ?_
  obtain ⟨⟨⟩, e16, h⟩ := bindE h
  obtain ⟨v13, M14, e15, h⟩ := bd2E h
  refine X.callV (b := a2) (v := some (.int v13)) (As := []) (st := []) (M' := M14) (pc' := 1974) dL_law_1971 rfl cl_L_127 mi_X11_thrown me_X11_thrown mr_X11_thrown e16 ⟨⟨Nat.le_of_ble_eq_true rfl, Nat.le_of_ble_eq_true rfl⟩, (by show kk + 2 + 0 ≤ 601024; omega), (by show nn + 12 + 0 ≤ 7293033; omega)⟩ rfl (Nat.le_of_ble_eq_true rfl) (ok_X11_thrown (G := zs G) e15) ?_
  show X G t_L_law [] 1974 [some (.ref 3000000), some (.ref a1), some (.ref a2), some (.ref a3), some (.ref a4), some (.int a5), some (.int v3), some (.int v9)] [.int v13] M14 (kk + 2) (nn + 12) _
  refine X.iload (x := v3) (pc' := 1976) dL_law_1974 rfl rfl ?_
  refine X.icmp_eq (tgt := 1981) (pc' := 1979) dL_law_1976 (by decide) rfl (fun hc => ?_) (fun hc => ?_)
  · rw [if_pos hc] at h
    refine X.iload (x := v3) (pc' := 1983) dL_law_1981 rfl rfl ?_
    refine X.if_ne (tgt := 1998) (pc' := 1986) dL_law_1983 (by decide) rfl (fun hc => ?_) (fun hc => ?_)
    · rw [if_neg hc] at h
      refine X.goto (pc' := 2157) dL_law_1998 (by decide) ?_
      refine X.sub (L := [some (.ref 3000000), some (.ref a1), some (.ref a2), some (.ref a3), some (.ref a4), some (.int a5), none, none]) ?_ (⟨rfl, ⟨rfl, ⟨rfl, ⟨rfl, ⟨rfl, ⟨rfl, trivial⟩⟩⟩⟩⟩⟩)
      refine X.widen (k' := kk + 4) (n' := nn + 24) (by omega) (by omega) ?_
      exact hk _ h
    · rw [if_pos hc] at h
      refine X.aload_n (x := a3) (pc' := 1987) dL_law_1986 rfl rfl rfl ?_
      refine X.iconst (v := 0) (pc' := 1988) dL_law_1987 rfl (by decide) ?_
      obtain ⟨v18, e17, h⟩ := bindE h
      refine X.lald (pc' := 1989) dL_law_1988 rfl e17 ?_
      refine X.iload (x := v9) (pc' := 1991) dL_law_1989 rfl rfl ?_
      refine X.i2l (pc' := 1992) dL_law_1991 rfl ?_
      refine X.lcmp (pc' := 1993) dL_law_1992 rfl ?_
      refine X.if_eq (tgt := 1998) (pc' := 1996) dL_law_1993 (by decide) rfl (fun hc => ?_) (fun hc => ?_)
      · rw [if_pos hc] at h
        refine X.goto (pc' := 2157) dL_law_1998 (by decide) ?_
        refine X.sub (L := [some (.ref 3000000), some (.ref a1), some (.ref a2), some (.ref a3), some (.ref a4), some (.int a5), none, none]) ?_ (⟨rfl, ⟨rfl, ⟨rfl, ⟨rfl, ⟨rfl, ⟨rfl, trivial⟩⟩⟩⟩⟩⟩)
        refine X.widen (k' := kk + 4) (n' := nn + 24) (by omega) (by omega) ?_
        exact hk _ h
      · rw [if_neg hc] at h
        refine X.iconst (v := 0) (pc' := 1997) dL_law_1996 rfl (by decide) ?_
        cases h
        exact X.iret (ty := .boolean) dL_law_1997 rfl (by decide) (by show kk + 2 ≤ 601024; omega) (by show nn + 12 ≤ 7293033; omega) rfl
  · rw [if_neg hc] at h
    refine X.iconst (v := 0) (pc' := 1980) dL_law_1979 rfl (by decide) ?_
    cases h
    exact X.iret (ty := .boolean) dL_law_1980 rfl (by decide) (by show kk + 2 ≤ 601024; omega) (by show nn + 12 ≤ 7293033; omega) rfl
def g_31 (fu : Nat) (xs : List Int32) (a1 a2 a3 a4 : Nat) (a5 : Int32) (M : List Ob) (k : List Ob → Option (Int32 × List Ob)) : Option (Int32 × List Ob) :=
  (sGet xs (a5 + 1)).bind fun v1 =>
  bd2 (f_L_writeRoute fu a1 v1 a3 M) fun v3 M4 =>
  (sGet xs (a5 + 1)).bind fun v7 =>
  (hasO M4 a2 11).bind fun _ =>
  bd2 (f_X11_writeRoute fu a2 v7 M4) fun v9 M10 =>
  (hasO M10 a2 11).bind fun _ =>
  bd2 (f_X11_thrown fu a2 M10) fun v13 M14 =>
  if v13 = v3 then (if v3 = 0 then ((aJ M14 a3 0).bind fun v18 =>
  if (lg_cmp v18 ((v9 : Int32).toInt64)) = 0 then (k M14)
  else (some (0, M14)))
  else (k M14))
  else (some (0, M14))
set_option maxHeartbeats 4000000 in
theorem okg_31 {G : GT} (hz : gZ G = false) {fu : Nat} {xs : List Int32} (hX : gX G = xs) {a1 a2 a3 a4 : Nat} {a5 : Int32} {M : List Ob} {kk nn : Nat} (hkk : kk + 8 ≤ 601024) (hnn : nn + 48 ≤ 7293033) {k : List Ob → Option (Int32 × List Ob)} {out : Int32 × List Ob} (hk : ∀ M, k M = some out → X G t_L_law [] 2157 [some (.ref 3000000), some (.ref a1), some (.ref a2), some (.ref a3), some (.ref a4), some (.int a5), none, none] [] M (kk + 4) (nn + 24) (oI out)) (h : g_31 fu xs a1 a2 a3 a4 a5 M k = some out) : X G t_L_law [] 2001 [some (.ref 3000000), some (.ref a1), some (.ref a2), some (.ref a3), some (.ref a4), some (.int a5), none, none] [] M (kk + 0) (nn + 0) (oI out) := by
  unfold g_31 at h
  refine X.aload_n (x := a1) (pc' := 2002) dL_law_2001 rfl rfl rfl ?_
  refine X.aload_n (x := 3000000) (pc' := 2003) dL_law_2002 rfl rfl rfl ?_
  refine X.iload (x := a5) (pc' := 2005) dL_law_2003 rfl rfl ?_
  refine X.iconst (v := 1) (pc' := 2006) dL_law_2005 rfl (by decide) ?_
  refine X.iadd (pc' := 2007) dL_law_2006 rfl ?_
  obtain ⟨v1, e2, h⟩ := bindE h
  refine X.sld (pc' := 2008) dL_law_2007 rfl (by rw [hX]; exact e2) ?_
  refine X.aload_n (x := a3) (pc' := 2009) dL_law_2008 rfl rfl rfl ?_
  obtain ⟨v3, M4, e5, h⟩ := bd2E h
  refine X.callW (v := some (.int v3)) (As := [.ref a1, .int v1, .ref a3]) (st := []) (M' := M4) (pc' := 2012) dL_law_2009 rfl cw_L_232 ⟨⟨Nat.le_of_ble_eq_true rfl, Nat.le_of_ble_eq_true rfl⟩, (by show kk + 0 + 1 ≤ 601024; omega), (by show nn + 0 + 6 ≤ 7293033; omega)⟩ rfl (Nat.le_of_ble_eq_true rfl) (ok_L_writeRoute (G := zs G) (hz := hz) e5) ?_
  show X G t_L_law [] 2012 [some (.ref 3000000), some (.ref a1), some (.ref a2), some (.ref a3), some (.ref a4), some (.int a5), none, none] [.int v3] M4 (kk + 1) (nn + 6) _
  refine X.istore (L' := [some (.ref 3000000), some (.ref a1), some (.ref a2), some (.ref a3), some (.ref a4), some (.int a5), some (.int v3), none]) (pc' := 2014) dL_law_2012 rfl (Nat.le_of_ble_eq_true rfl) rfl ?_
  refine X.aload_n (x := a2) (pc' := 2015) dL_law_2014 rfl rfl rfl ?_
  refine X.aload_n (x := 3000000) (pc' := 2016) dL_law_2015 rfl rfl rfl ?_
  refine X.iload (x := a5) (pc' := 2018) dL_law_2016 rfl rfl ?_
  refine X.iconst (v := 1) (pc' := 2019) dL_law_2018 rfl (by decide) ?_
  refine X.iadd (pc' := 2020) dL_law_2019 rfl ?_
  obtain ⟨v7, e8, h⟩ := bindE h
  refine X.sld (pc' := 2021) dL_law_2020 rfl (by rw [hX]; exact e8) ?_
  obtain ⟨⟨⟩, e12, h⟩ := bindE h
  obtain ⟨v9, M10, e11, h⟩ := bd2E h
  refine X.callV (b := a2) (v := some (.int v9)) (As := [.int v7]) (st := []) (M' := M10) (pc' := 2024) dL_law_2021 rfl cl_L_234 mi_X11_writeRoute me_X11_writeRoute mr_X11_writeRoute e12 ⟨⟨Nat.le_of_ble_eq_true rfl, Nat.le_of_ble_eq_true rfl⟩, (by show kk + 1 + 0 ≤ 601024; omega), (by show nn + 6 + 0 ≤ 7293033; omega)⟩ rfl (Nat.le_of_ble_eq_true rfl) (ok_X11_writeRoute (G := zs G) e11) ?_
  show X G t_L_law [] 2024 [some (.ref 3000000), some (.ref a1), some (.ref a2), some (.ref a3), some (.ref a4), some (.int a5), some (.int v3), none] [.int v9] M10 (kk + 1) (nn + 6) _
  refine X.istore (L' := [some (.ref 3000000), some (.ref a1), some (.ref a2), some (.ref a3), some (.ref a4), some (.int a5), some (.int v3), some (.int v9)]) (pc' := 2026) dL_law_2024 rfl (Nat.le_of_ble_eq_true rfl) rfl ?_
  refine X.aload_n (x := a2) (pc' := 2027) dL_law_2026 rfl rfl rfl ?_
  obtain ⟨⟨⟩, e16, h⟩ := bindE h
  obtain ⟨v13, M14, e15, h⟩ := bd2E h
  refine X.callV (b := a2) (v := some (.int v13)) (As := []) (st := []) (M' := M14) (pc' := 2030) dL_law_2027 rfl cl_L_127 mi_X11_thrown me_X11_thrown mr_X11_thrown e16 ⟨⟨Nat.le_of_ble_eq_true rfl, Nat.le_of_ble_eq_true rfl⟩, (by show kk + 1 + 0 ≤ 601024; omega), (by show nn + 6 + 0 ≤ 7293033; omega)⟩ rfl (Nat.le_of_ble_eq_true rfl) (ok_X11_thrown (G := zs G) e15) ?_
  show X G t_L_law [] 2030 [some (.ref 3000000), some (.ref a1), some (.ref a2), some (.ref a3), some (.ref a4), some (.int a5), some (.int v3), some (.int v9)] [.int v13] M14 (kk + 1) (nn + 6) _
  refine X.iload (x := v3) (pc' := 2032) dL_law_2030 rfl rfl ?_
  refine X.icmp_eq (tgt := 2037) (pc' := 2035) dL_law_2032 (by decide) rfl (fun hc => ?_) (fun hc => ?_)
  · rw [if_pos hc] at h
    refine X.iload (x := v3) (pc' := 2039) dL_law_2037 rfl rfl ?_
    refine X.if_ne (tgt := 2054) (pc' := 2042) dL_law_2039 (by decide) rfl (fun hc => ?_) (fun hc => ?_)
    · rw [if_neg hc] at h
      refine X.goto (pc' := 2157) dL_law_2054 (by decide) ?_
      refine X.sub (L := [some (.ref 3000000), some (.ref a1), some (.ref a2), some (.ref a3), some (.ref a4), some (.int a5), none, none]) ?_ (⟨rfl, ⟨rfl, ⟨rfl, ⟨rfl, ⟨rfl, ⟨rfl, trivial⟩⟩⟩⟩⟩⟩)
      refine X.widen (k' := kk + 4) (n' := nn + 24) (by omega) (by omega) ?_
      exact hk _ h
    · rw [if_pos hc] at h
      refine X.aload_n (x := a3) (pc' := 2043) dL_law_2042 rfl rfl rfl ?_
      refine X.iconst (v := 0) (pc' := 2044) dL_law_2043 rfl (by decide) ?_
      obtain ⟨v18, e17, h⟩ := bindE h
      refine X.lald (pc' := 2045) dL_law_2044 rfl e17 ?_
      refine X.iload (x := v9) (pc' := 2047) dL_law_2045 rfl rfl ?_
      refine X.i2l (pc' := 2048) dL_law_2047 rfl ?_
      refine X.lcmp (pc' := 2049) dL_law_2048 rfl ?_
      refine X.if_eq (tgt := 2054) (pc' := 2052) dL_law_2049 (by decide) rfl (fun hc => ?_) (fun hc => ?_)
      · rw [if_pos hc] at h
        refine X.goto (pc' := 2157) dL_law_2054 (by decide) ?_
        refine X.sub (L := [some (.ref 3000000), some (.ref a1), some (.ref a2), some (.ref a3), some (.ref a4), some (.int a5), none, none]) ?_ (⟨rfl, ⟨rfl, ⟨rfl, ⟨rfl, ⟨rfl, ⟨rfl, trivial⟩⟩⟩⟩⟩⟩)
        refine X.widen (k' := kk + 4) (n' := nn + 24) (by omega) (by omega) ?_
        exact hk _ h
      · rw [if_neg hc] at h
        refine X.iconst (v := 0) (pc' := 2053) dL_law_2052 rfl (by decide) ?_
        cases h
        exact X.iret (ty := .boolean) dL_law_2053 rfl (by decide) (by show kk + 1 ≤ 601024; omega) (by show nn + 6 ≤ 7293033; omega) rfl
  · rw [if_neg hc] at h
    refine X.iconst (v := 0) (pc' := 2036) dL_law_2035 rfl (by decide) ?_
    cases h
    exact X.iret (ty := .boolean) dL_law_2036 rfl (by decide) (by show kk + 1 ≤ 601024; omega) (by show nn + 6 ≤ 7293033; omega) rfl
def g_32 (fu : Nat) (xs : List Int32) (a1 a2 a3 a4 : Nat) (a5 : Int32) (M : List Ob) (k : List Ob → Option (Int32 × List Ob)) : Option (Int32 × List Ob) :=
  (sGet xs (a5 + 1)).bind fun v1 =>
  bd2 (f_L_writtenByte fu a1 v1 a3 M) fun v3 M4 =>
  (sGet xs (a5 + 1)).bind fun v7 =>
  (hasO M4 a2 11).bind fun _ =>
  bd2 (f_X11_writtenByte fu a2 v7 M4) fun v9 M10 =>
  (hasO M10 a2 11).bind fun _ =>
  bd2 (f_X11_thrown fu a2 M10) fun v13 M14 =>
  if v13 = v3 then (if v3 = 0 then ((aJ M14 a3 0).bind fun v18 =>
  if (lg_cmp v18 ((v9 : Int32).toInt64)) = 0 then (k M14)
  else (some (0, M14)))
  else (k M14))
  else (some (0, M14))
set_option maxHeartbeats 4000000 in
theorem okg_32 {G : GT} (hz : gZ G = false) {fu : Nat} {xs : List Int32} (hX : gX G = xs) {a1 a2 a3 a4 : Nat} {a5 : Int32} {M : List Ob} {kk nn : Nat} (hkk : kk + 8 ≤ 601024) (hnn : nn + 48 ≤ 7293033) {k : List Ob → Option (Int32 × List Ob)} {out : Int32 × List Ob} (hk : ∀ M, k M = some out → X G t_L_law [] 2157 [some (.ref 3000000), some (.ref a1), some (.ref a2), some (.ref a3), some (.ref a4), some (.int a5), none, none] [] M (kk + 4) (nn + 24) (oI out)) (h : g_32 fu xs a1 a2 a3 a4 a5 M k = some out) : X G t_L_law [] 2057 [some (.ref 3000000), some (.ref a1), some (.ref a2), some (.ref a3), some (.ref a4), some (.int a5), none, none] [] M (kk + 0) (nn + 0) (oI out) := by
  unfold g_32 at h
  refine X.aload_n (x := a1) (pc' := 2058) dL_law_2057 rfl rfl rfl ?_
  refine X.aload_n (x := 3000000) (pc' := 2059) dL_law_2058 rfl rfl rfl ?_
  refine X.iload (x := a5) (pc' := 2061) dL_law_2059 rfl rfl ?_
  refine X.iconst (v := 1) (pc' := 2062) dL_law_2061 rfl (by decide) ?_
  refine X.iadd (pc' := 2063) dL_law_2062 rfl ?_
  obtain ⟨v1, e2, h⟩ := bindE h
  refine X.sld (pc' := 2064) dL_law_2063 rfl (by rw [hX]; exact e2) ?_
  refine X.aload_n (x := a3) (pc' := 2065) dL_law_2064 rfl rfl rfl ?_
  obtain ⟨v3, M4, e5, h⟩ := bd2E h
  refine X.callW (v := some (.int v3)) (As := [.ref a1, .int v1, .ref a3]) (st := []) (M' := M4) (pc' := 2068) dL_law_2065 rfl cw_L_235 ⟨⟨Nat.le_of_ble_eq_true rfl, Nat.le_of_ble_eq_true rfl⟩, (by show kk + 0 + 1 ≤ 601024; omega), (by show nn + 0 + 6 ≤ 7293033; omega)⟩ rfl (Nat.le_of_ble_eq_true rfl) (ok_L_writtenByte (G := zs G) (hz := hz) e5) ?_
  show X G t_L_law [] 2068 [some (.ref 3000000), some (.ref a1), some (.ref a2), some (.ref a3), some (.ref a4), some (.int a5), none, none] [.int v3] M4 (kk + 1) (nn + 6) _
  refine X.istore (L' := [some (.ref 3000000), some (.ref a1), some (.ref a2), some (.ref a3), some (.ref a4), some (.int a5), some (.int v3), none]) (pc' := 2070) dL_law_2068 rfl (Nat.le_of_ble_eq_true rfl) rfl ?_
  refine X.aload_n (x := a2) (pc' := 2071) dL_law_2070 rfl rfl rfl ?_
  refine X.aload_n (x := 3000000) (pc' := 2072) dL_law_2071 rfl rfl rfl ?_
  refine X.iload (x := a5) (pc' := 2074) dL_law_2072 rfl rfl ?_
  refine X.iconst (v := 1) (pc' := 2075) dL_law_2074 rfl (by decide) ?_
  refine X.iadd (pc' := 2076) dL_law_2075 rfl ?_
  obtain ⟨v7, e8, h⟩ := bindE h
  refine X.sld (pc' := 2077) dL_law_2076 rfl (by rw [hX]; exact e8) ?_
  obtain ⟨⟨⟩, e12, h⟩ := bindE h
  obtain ⟨v9, M10, e11, h⟩ := bd2E h
  refine X.callV (b := a2) (v := some (.int v9)) (As := [.int v7]) (st := []) (M' := M10) (pc' := 2080) dL_law_2077 rfl cl_L_237 mi_X11_writtenByte me_X11_writtenByte mr_X11_writtenByte e12 ⟨⟨Nat.le_of_ble_eq_true rfl, Nat.le_of_ble_eq_true rfl⟩, (by show kk + 1 + 0 ≤ 601024; omega), (by show nn + 6 + 0 ≤ 7293033; omega)⟩ rfl (Nat.le_of_ble_eq_true rfl) (ok_X11_writtenByte (G := zs G) e11) ?_
  show X G t_L_law [] 2080 [some (.ref 3000000), some (.ref a1), some (.ref a2), some (.ref a3), some (.ref a4), some (.int a5), some (.int v3), none] [.int v9] M10 (kk + 1) (nn + 6) _
  refine X.istore (L' := [some (.ref 3000000), some (.ref a1), some (.ref a2), some (.ref a3), some (.ref a4), some (.int a5), some (.int v3), some (.int v9)]) (pc' := 2082) dL_law_2080 rfl (Nat.le_of_ble_eq_true rfl) rfl ?_
  refine X.aload_n (x := a2) (pc' := 2083) dL_law_2082 rfl rfl rfl ?_
  obtain ⟨⟨⟩, e16, h⟩ := bindE h
  obtain ⟨v13, M14, e15, h⟩ := bd2E h
  refine X.callV (b := a2) (v := some (.int v13)) (As := []) (st := []) (M' := M14) (pc' := 2086) dL_law_2083 rfl cl_L_127 mi_X11_thrown me_X11_thrown mr_X11_thrown e16 ⟨⟨Nat.le_of_ble_eq_true rfl, Nat.le_of_ble_eq_true rfl⟩, (by show kk + 1 + 0 ≤ 601024; omega), (by show nn + 6 + 0 ≤ 7293033; omega)⟩ rfl (Nat.le_of_ble_eq_true rfl) (ok_X11_thrown (G := zs G) e15) ?_
  show X G t_L_law [] 2086 [some (.ref 3000000), some (.ref a1), some (.ref a2), some (.ref a3), some (.ref a4), some (.int a5), some (.int v3), some (.int v9)] [.int v13] M14 (kk + 1) (nn + 6) _
  refine X.iload (x := v3) (pc' := 2088) dL_law_2086 rfl rfl ?_
  refine X.icmp_eq (tgt := 2093) (pc' := 2091) dL_law_2088 (by decide) rfl (fun hc => ?_) (fun hc => ?_)
  · rw [if_pos hc] at h
    refine X.iload (x := v3) (pc' := 2095) dL_law_2093 rfl rfl ?_
    refine X.if_ne (tgt := 2110) (pc' := 2098) dL_law_2095 (by decide) rfl (fun hc => ?_) (fun hc => ?_)
    · rw [if_neg hc] at h
      refine X.goto (pc' := 2157) dL_law_2110 (by decide) ?_
      refine X.sub (L := [some (.ref 3000000), some (.ref a1), some (.ref a2), some (.ref a3), some (.ref a4), some (.int a5), none, none]) ?_ (⟨rfl, ⟨rfl, ⟨rfl, ⟨rfl, ⟨rfl, ⟨rfl, trivial⟩⟩⟩⟩⟩⟩)
      refine X.widen (k' := kk + 4) (n' := nn + 24) (by omega) (by omega) ?_
      exact hk _ h
    · rw [if_pos hc] at h
      refine X.aload_n (x := a3) (pc' := 2099) dL_law_2098 rfl rfl rfl ?_
      refine X.iconst (v := 0) (pc' := 2100) dL_law_2099 rfl (by decide) ?_
      obtain ⟨v18, e17, h⟩ := bindE h
      refine X.lald (pc' := 2101) dL_law_2100 rfl e17 ?_
      refine X.iload (x := v9) (pc' := 2103) dL_law_2101 rfl rfl ?_
      refine X.i2l (pc' := 2104) dL_law_2103 rfl ?_
      refine X.lcmp (pc' := 2105) dL_law_2104 rfl ?_
      refine X.if_eq (tgt := 2110) (pc' := 2108) dL_law_2105 (by decide) rfl (fun hc => ?_) (fun hc => ?_)
      · rw [if_pos hc] at h
        refine X.goto (pc' := 2157) dL_law_2110 (by decide) ?_
        refine X.sub (L := [some (.ref 3000000), some (.ref a1), some (.ref a2), some (.ref a3), some (.ref a4), some (.int a5), none, none]) ?_ (⟨rfl, ⟨rfl, ⟨rfl, ⟨rfl, ⟨rfl, ⟨rfl, trivial⟩⟩⟩⟩⟩⟩)
        refine X.widen (k' := kk + 4) (n' := nn + 24) (by omega) (by omega) ?_
        exact hk _ h
      · rw [if_neg hc] at h
        refine X.iconst (v := 0) (pc' := 2109) dL_law_2108 rfl (by decide) ?_
        cases h
        exact X.iret (ty := .boolean) dL_law_2109 rfl (by decide) (by show kk + 1 ≤ 601024; omega) (by show nn + 6 ≤ 7293033; omega) rfl
  · rw [if_neg hc] at h
    refine X.iconst (v := 0) (pc' := 2092) dL_law_2091 rfl (by decide) ?_
    cases h
    exact X.iret (ty := .boolean) dL_law_2092 rfl (by decide) (by show kk + 1 ≤ 601024; omega) (by show nn + 6 ≤ 7293033; omega) rfl
def g_33 (fu : Nat) (xs : List Int32) (a1 a2 a3 a4 : Nat) (a5 : Int32) (M : List Ob) (k : List Ob → Option (Int32 × List Ob)) : Option (Int32 × List Ob) :=
  bd2 (f_L_undo fu a1 a3 M) fun v1 M2 =>
  (hasO M2 a2 11).bind fun _ =>
  bd2 (f_X11_undo fu a2 M2) fun v5 M6 =>
  (hasO M6 a2 11).bind fun _ =>
  bd2 (f_X11_thrown fu a2 M6) fun v9 M10 =>
  if v9 = v1 then (if v1 = 0 then ((aJ M10 a3 0).bind fun v14 =>
  if (lg_cmp v14 ((v5 : Int32).toInt64)) = 0 then (k M10)
  else (some (0, M10)))
  else (k M10))
  else (some (0, M10))
set_option maxHeartbeats 4000000 in
theorem okg_33 {G : GT} (hz : gZ G = false) {fu : Nat} {xs : List Int32} (hX : gX G = xs) {a1 a2 a3 a4 : Nat} {a5 : Int32} {M : List Ob} {kk nn : Nat} (hkk : kk + 8 ≤ 601024) (hnn : nn + 48 ≤ 7293033) {k : List Ob → Option (Int32 × List Ob)} {out : Int32 × List Ob} (hk : ∀ M, k M = some out → X G t_L_law [] 2157 [some (.ref 3000000), some (.ref a1), some (.ref a2), some (.ref a3), some (.ref a4), some (.int a5), none, none] [] M (kk + 4) (nn + 24) (oI out)) (h : g_33 fu xs a1 a2 a3 a4 a5 M k = some out) : X G t_L_law [] 2113 [some (.ref 3000000), some (.ref a1), some (.ref a2), some (.ref a3), some (.ref a4), some (.int a5), none, none] [] M (kk + 0) (nn + 0) (oI out) := by
  unfold g_33 at h
  refine X.aload_n (x := a1) (pc' := 2114) dL_law_2113 rfl rfl rfl ?_
  refine X.aload_n (x := a3) (pc' := 2115) dL_law_2114 rfl rfl rfl ?_
  obtain ⟨v1, M2, e3, h⟩ := bd2E h
  refine X.callW (v := some (.int v1)) (As := [.ref a1, .ref a3]) (st := []) (M' := M2) (pc' := 2118) dL_law_2115 rfl cw_L_238 ⟨⟨Nat.le_of_ble_eq_true rfl, Nat.le_of_ble_eq_true rfl⟩, (by show kk + 0 + 1 ≤ 601024; omega), (by show nn + 0 + 6 ≤ 7293033; omega)⟩ rfl (Nat.le_of_ble_eq_true rfl) (ok_L_undo (G := zs G) (hz := hz) e3) ?_
  show X G t_L_law [] 2118 [some (.ref 3000000), some (.ref a1), some (.ref a2), some (.ref a3), some (.ref a4), some (.int a5), none, none] [.int v1] M2 (kk + 1) (nn + 6) _
  refine X.istore (L' := [some (.ref 3000000), some (.ref a1), some (.ref a2), some (.ref a3), some (.ref a4), some (.int a5), some (.int v1), none]) (pc' := 2120) dL_law_2118 rfl (Nat.le_of_ble_eq_true rfl) rfl ?_
  refine X.aload_n (x := a2) (pc' := 2121) dL_law_2120 rfl rfl rfl ?_
  obtain ⟨⟨⟩, e8, h⟩ := bindE h
  obtain ⟨v5, M6, e7, h⟩ := bd2E h
  refine X.callV (b := a2) (v := some (.int v5)) (As := []) (st := []) (M' := M6) (pc' := 2124) dL_law_2121 rfl cl_L_240 mi_X11_undo me_X11_undo mr_X11_undo e8 ⟨⟨Nat.le_of_ble_eq_true rfl, Nat.le_of_ble_eq_true rfl⟩, (by show kk + 1 + 0 ≤ 601024; omega), (by show nn + 6 + 0 ≤ 7293033; omega)⟩ rfl (Nat.le_of_ble_eq_true rfl) (ok_X11_undo (G := zs G) e7) ?_
  show X G t_L_law [] 2124 [some (.ref 3000000), some (.ref a1), some (.ref a2), some (.ref a3), some (.ref a4), some (.int a5), some (.int v1), none] [.int v5] M6 (kk + 1) (nn + 6) _
  refine X.istore (L' := [some (.ref 3000000), some (.ref a1), some (.ref a2), some (.ref a3), some (.ref a4), some (.int a5), some (.int v1), some (.int v5)]) (pc' := 2126) dL_law_2124 rfl (Nat.le_of_ble_eq_true rfl) rfl ?_
  refine X.aload_n (x := a2) (pc' := 2127) dL_law_2126 rfl rfl rfl ?_
  obtain ⟨⟨⟩, e12, h⟩ := bindE h
  obtain ⟨v9, M10, e11, h⟩ := bd2E h
  refine X.callV (b := a2) (v := some (.int v9)) (As := []) (st := []) (M' := M10) (pc' := 2130) dL_law_2127 rfl cl_L_127 mi_X11_thrown me_X11_thrown mr_X11_thrown e12 ⟨⟨Nat.le_of_ble_eq_true rfl, Nat.le_of_ble_eq_true rfl⟩, (by show kk + 1 + 0 ≤ 601024; omega), (by show nn + 6 + 0 ≤ 7293033; omega)⟩ rfl (Nat.le_of_ble_eq_true rfl) (ok_X11_thrown (G := zs G) e11) ?_
  show X G t_L_law [] 2130 [some (.ref 3000000), some (.ref a1), some (.ref a2), some (.ref a3), some (.ref a4), some (.int a5), some (.int v1), some (.int v5)] [.int v9] M10 (kk + 1) (nn + 6) _
  refine X.iload (x := v1) (pc' := 2132) dL_law_2130 rfl rfl ?_
  refine X.icmp_eq (tgt := 2137) (pc' := 2135) dL_law_2132 (by decide) rfl (fun hc => ?_) (fun hc => ?_)
  · rw [if_pos hc] at h
    refine X.iload (x := v1) (pc' := 2139) dL_law_2137 rfl rfl ?_
    refine X.if_ne (tgt := 2154) (pc' := 2142) dL_law_2139 (by decide) rfl (fun hc => ?_) (fun hc => ?_)
    · rw [if_neg hc] at h
      refine X.goto (pc' := 2157) dL_law_2154 (by decide) ?_
      refine X.sub (L := [some (.ref 3000000), some (.ref a1), some (.ref a2), some (.ref a3), some (.ref a4), some (.int a5), none, none]) ?_ (⟨rfl, ⟨rfl, ⟨rfl, ⟨rfl, ⟨rfl, ⟨rfl, trivial⟩⟩⟩⟩⟩⟩)
      refine X.widen (k' := kk + 4) (n' := nn + 24) (by omega) (by omega) ?_
      exact hk _ h
    · rw [if_pos hc] at h
      refine X.aload_n (x := a3) (pc' := 2143) dL_law_2142 rfl rfl rfl ?_
      refine X.iconst (v := 0) (pc' := 2144) dL_law_2143 rfl (by decide) ?_
      obtain ⟨v14, e13, h⟩ := bindE h
      refine X.lald (pc' := 2145) dL_law_2144 rfl e13 ?_
      refine X.iload (x := v5) (pc' := 2147) dL_law_2145 rfl rfl ?_
      refine X.i2l (pc' := 2148) dL_law_2147 rfl ?_
      refine X.lcmp (pc' := 2149) dL_law_2148 rfl ?_
      refine X.if_eq (tgt := 2154) (pc' := 2152) dL_law_2149 (by decide) rfl (fun hc => ?_) (fun hc => ?_)
      · rw [if_pos hc] at h
        refine X.goto (pc' := 2157) dL_law_2154 (by decide) ?_
        refine X.sub (L := [some (.ref 3000000), some (.ref a1), some (.ref a2), some (.ref a3), some (.ref a4), some (.int a5), none, none]) ?_ (⟨rfl, ⟨rfl, ⟨rfl, ⟨rfl, ⟨rfl, ⟨rfl, trivial⟩⟩⟩⟩⟩⟩)
        refine X.widen (k' := kk + 4) (n' := nn + 24) (by omega) (by omega) ?_
        exact hk _ h
      · rw [if_neg hc] at h
        refine X.iconst (v := 0) (pc' := 2153) dL_law_2152 rfl (by decide) ?_
        cases h
        exact X.iret (ty := .boolean) dL_law_2153 rfl (by decide) (by show kk + 1 ≤ 601024; omega) (by show nn + 6 ≤ 7293033; omega) rfl
  · rw [if_neg hc] at h
    refine X.iconst (v := 0) (pc' := 2136) dL_law_2135 rfl (by decide) ?_
    cases h
    exact X.iret (ty := .boolean) dL_law_2136 rfl (by decide) (by show kk + 1 ≤ 601024; omega) (by show nn + 6 ≤ 7293033; omega) rfl
