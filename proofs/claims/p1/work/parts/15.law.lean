set_option maxHeartbeats 4000000 in
theorem law_tail {x : JX} {bb k n : Nat} {xs : Nat → Int32} {h : List MC} (hq : LQ x bb) (hcon : x.2.2.2.2.2.2.2.2.2.2.2.2.2.2.1 0 = some (8, xs)) (hk : k ≤ 600000) (hn : n ≤ 7302250) : J x yL_law code 4 ret 12 600000 7302250 0 2268 [(3, .int 0), (2, .ref 162), (1, .ref 0), (0, .retAddr 0)] [] h k n := by
  refine J_iinc (i := 3) (j := 0) (v := 8) (lw := [(3, .int 8), (2, .ref 162), (1, .ref 0), (0, .retAddr 0)]) dL_law_2268 rfl (by decide) (by decide) rfl ?_
  refine J_goto (tgt := 18) dL_law_2271 (by decide) ?_
  refine J_iload_n (i := 3) (j := 0) dL_law_18 rfl rfl ?_
  refine J_aload_nC (i := 0) (j := 3) dL_law_19 rfl rfl ?_
  refine J_clen (z := 8) (f := xs) dL_law_20 hcon ?_
  refine J_ci (v := 8) (by decide) ?_
  refine J_bipush (v := 8) dL_law_21 (by decide) ?_
  refine J_isub dL_law_23 ?_
  refine J_ci (v := 0) (by decide) ?_
  refine J_icmp_gt (tgt := 2274) dL_law_24 (by decide) (fun _ => ?_) (fun q => absurd (by decide) q)
  refine J_iconst (v := 1) dL_law_2274 (by decide) ?_
  exact J_law1 hq dL_law_2275 hk hn
set_option maxHeartbeats 4000000 in
set_option maxRecDepth 100000 in
theorem law_0 {x : JX} {bb : Nat} {xs : Nat → Int32} {h : List MC} (hq : LQ x bb) (hN : JN x con0) (hcon : x.2.2.2.2.2.2.2.2.2.2.2.2.2.2.1 0 = some (8, xs)) (hx : ZX h) (hm : ZM h) (hd : 12 ≤ 12) : J x yL_law code 4 ret 12 600000 7302250 0 220 [(3, .int 0), (2, .ref 162), (1, .ref 0), (0, .retAddr 0)] [] h 182 13870 := by
  refine J_aload_n (i := 1) (j := 2) dL_law_220 rfl rfl ?_
  refine J_aload_nC (i := 0) (j := 3) dL_law_221 rfl rfl ?_
  refine J_iload_n (i := 3) (j := 0) dL_law_222 rfl rfl ?_
  refine J_iconst (v := 1) dL_law_223 (by decide) ?_
  refine J_iadd dL_law_224 ?_
  refine J_ci (v := 1) (by decide) ?_
  refine J_cald (z := 8) (f := xs) dL_law_225 hcon (vp_c (by decide)) ?_
  refine J_aload_nC (i := 0) (j := 3) dL_law_226 rfl rfl ?_
  refine J_iload_n (i := 3) (j := 0) dL_law_227 rfl rfl ?_
  refine J_iconst (v := 2) dL_law_228 (by decide) ?_
  refine J_iadd dL_law_229 ?_
  refine J_ci (v := 2) (by decide) ?_
  refine J_cald (z := 8) (f := xs) dL_law_230 hcon (vp_c (by decide)) ?_
  refine J_aload_nC (i := 0) (j := 3) dL_law_231 rfl rfl ?_
  refine J_iload_n (i := 3) (j := 0) dL_law_232 rfl rfl ?_
  refine J_iconst (v := 3) dL_law_233 (by decide) ?_
  refine J_iadd dL_law_234 ?_
  refine J_ci (v := 3) (by decide) ?_
  refine J_cald (z := 8) (f := xs) dL_law_235 hcon (vp_c (by decide)) ?_
  refine J_aload_nC (i := 0) (j := 3) dL_law_236 rfl rfl ?_
  refine J_iload_n (i := 3) (j := 0) dL_law_237 rfl rfl ?_
  refine J_iconst (v := 4) dL_law_238 (by decide) ?_
  refine J_iadd dL_law_239 ?_
  refine J_ci (v := 4) (by decide) ?_
  refine J_cald (z := 8) (f := xs) dL_law_240 hcon (vp_c (by decide)) ?_
  refine J_aload_nC (i := 0) (j := 3) dL_law_241 rfl rfl ?_
  refine J_iload_n (i := 3) (j := 0) dL_law_242 rfl rfl ?_
  refine J_iconst (v := 5) dL_law_243 (by decide) ?_
  refine J_iadd dL_law_244 ?_
  refine J_ci (v := 5) (by decide) ?_
  refine J_cald (z := 8) (f := xs) dL_law_245 hcon (vp_c (by decide)) ?_
  refine J_callV (As := [.int (xs (1 : Int32).toNatClampNeg), .int (xs (2 : Int32).toNatClampNeg), .int (xs (3 : Int32).toNatClampNeg), .int (xs (4 : Int32).toNatClampNeg), .int (xs (5 : Int32).toNatClampNeg)]) (rest := []) dL_law_246 (c_X10_feed0 (d := 1) (h := h) (a0 := (xs (1 : Int32).toNatClampNeg)) (a1 := (xs (2 : Int32).toNatClampNeg)) (a2 := (xs (3 : Int32).toNatClampNeg)) (a3 := (xs (4 : Int32).toNatClampNeg)) (a4 := (xs (5 : Int32).toNatClampNeg)) (by decide) (zx_0 hx) (zx_1 hx) (zx_2 hx)) hN k454 k455 k456 (zx_0 hx) rfl rfl k87 k457 np_X10_feed (Nat.le_trans (by decide) hd) (by decide) (by decide) (by decide) (hk182 hx.1) rfl (Nat.le_of_ble_eq_true rfl) (fun r_1 h_2 p_3 => ?_)
  obtain ⟨rfl, fx_4⟩ := p_3
  have zm_5 := ZM.fx hm fx_4
  refine J_aload_n (i := 2) (j := 1) dL_law_249 rfl rfl ?_
  refine J_aload_nC (i := 0) (j := 3) dL_law_250 rfl rfl ?_
  refine J_iload_n (i := 3) (j := 0) dL_law_251 rfl rfl ?_
  refine J_iconst (v := 1) dL_law_252 (by decide) ?_
  refine J_iadd dL_law_253 ?_
  refine J_ci (v := 1) (by decide) ?_
  refine J_cald (z := 8) (f := xs) dL_law_254 hcon (vp_c (by decide)) ?_
  refine J_aload_nC (i := 0) (j := 3) dL_law_255 rfl rfl ?_
  refine J_iload_n (i := 3) (j := 0) dL_law_256 rfl rfl ?_
  refine J_iconst (v := 2) dL_law_257 (by decide) ?_
  refine J_iadd dL_law_258 ?_
  refine J_ci (v := 2) (by decide) ?_
  refine J_cald (z := 8) (f := xs) dL_law_259 hcon (vp_c (by decide)) ?_
  refine J_aload_nC (i := 0) (j := 3) dL_law_260 rfl rfl ?_
  refine J_iload_n (i := 3) (j := 0) dL_law_261 rfl rfl ?_
  refine J_iconst (v := 3) dL_law_262 (by decide) ?_
  refine J_iadd dL_law_263 ?_
  refine J_ci (v := 3) (by decide) ?_
  refine J_cald (z := 8) (f := xs) dL_law_264 hcon (vp_c (by decide)) ?_
  refine J_aload_nC (i := 0) (j := 3) dL_law_265 rfl rfl ?_
  refine J_iload_n (i := 3) (j := 0) dL_law_266 rfl rfl ?_
  refine J_iconst (v := 4) dL_law_267 (by decide) ?_
  refine J_iadd dL_law_268 ?_
  refine J_ci (v := 4) (by decide) ?_
  refine J_cald (z := 8) (f := xs) dL_law_269 hcon (vp_c (by decide)) ?_
  refine J_aload_nC (i := 0) (j := 3) dL_law_270 rfl rfl ?_
  refine J_iload_n (i := 3) (j := 0) dL_law_271 rfl rfl ?_
  refine J_iconst (v := 5) dL_law_272 (by decide) ?_
  refine J_iadd dL_law_273 ?_
  refine J_ci (v := 5) (by decide) ?_
  refine J_cald (z := 8) (f := xs) dL_law_274 hcon (vp_c (by decide)) ?_
  refine J_callV (As := [.int (xs (1 : Int32).toNatClampNeg), .int (xs (2 : Int32).toNatClampNeg), .int (xs (3 : Int32).toNatClampNeg), .int (xs (4 : Int32).toNatClampNeg), .int (xs (5 : Int32).toNatClampNeg)]) (rest := [.int 20]) dL_law_275 (c_X11_feed0 (d := 1) (h := h_2) (a0 := (xs (1 : Int32).toNatClampNeg)) (a1 := (xs (2 : Int32).toNatClampNeg)) (a2 := (xs (3 : Int32).toNatClampNeg)) (a3 := (xs (4 : Int32).toNatClampNeg)) (a4 := (xs (5 : Int32).toNatClampNeg)) (by decide) (zm_162 zm_5) (zm_167 zm_5) (zm_163 zm_5) (zm_164 zm_5)) hN k1394 k1395 k1396 (zm_162 zm_5) rfl rfl k97 k1397 np_X11_feed (Nat.le_trans (by decide) hd) (by decide) (by decide) (by decide) (hk182 zm_5.1) rfl (Nat.le_of_ble_eq_true rfl) (fun r_6 h_7 p_8 => ?_)
  obtain rfl := p_8
  refine J_icmp_eq (tgt := 2268) dL_law_278 (by decide) (fun _ => ?_) (fun q => absurd (by decide) q)
  exact law_tail hq hcon (by decide) (by decide)
set_option maxHeartbeats 4000000 in
set_option maxRecDepth 100000 in
theorem law_1 {x : JX} {bb : Nat} {xs : Nat → Int32} {h : List MC} (hq : LQ x bb) (hN : JN x con0) (hcon : x.2.2.2.2.2.2.2.2.2.2.2.2.2.2.1 0 = some (8, xs)) (hx : ZX h) (hm : ZM h) (hd : 12 ≤ 12) : J x yL_law code 4 ret 12 600000 7302250 0 283 [(3, .int 0), (2, .ref 162), (1, .ref 0), (0, .retAddr 0)] [] h 182 13870 := by
  refine J_aload_n (i := 1) (j := 2) dL_law_283 rfl rfl ?_
  refine J_aload_nC (i := 0) (j := 3) dL_law_284 rfl rfl ?_
  refine J_iload_n (i := 3) (j := 0) dL_law_285 rfl rfl ?_
  refine J_iconst (v := 1) dL_law_286 (by decide) ?_
  refine J_iadd dL_law_287 ?_
  refine J_ci (v := 1) (by decide) ?_
  refine J_cald (z := 8) (f := xs) dL_law_288 hcon (vp_c (by decide)) ?_
  refine J_callV (As := [.int (xs (1 : Int32).toNatClampNeg)]) (rest := []) dL_law_289 (c_X10_end0 (d := 0) (h := h) (a0 := (xs (1 : Int32).toNatClampNeg)) (by decide) (zx_0 hx) (zx_1 hx)) hN k462 k463 k464 (zx_0 hx) rfl rfl k87 k465 np_X10_end (Nat.le_trans (by decide) hd) (by decide) (by decide) (by decide) (hk182 hx.1) rfl (Nat.le_of_ble_eq_true rfl) (fun r_1 h_2 p_3 => ?_)
  obtain ⟨rfl, fx_4⟩ := p_3
  have zm_5 := ZM.fx hm fx_4
  refine J_aload_n (i := 2) (j := 1) dL_law_292 rfl rfl ?_
  refine J_aload_nC (i := 0) (j := 3) dL_law_293 rfl rfl ?_
  refine J_iload_n (i := 3) (j := 0) dL_law_294 rfl rfl ?_
  refine J_iconst (v := 1) dL_law_295 (by decide) ?_
  refine J_iadd dL_law_296 ?_
  refine J_ci (v := 1) (by decide) ?_
  refine J_cald (z := 8) (f := xs) dL_law_297 hcon (vp_c (by decide)) ?_
  refine J_callV (As := [.int (xs (1 : Int32).toNatClampNeg)]) (rest := [.int (if (xs (1 : Int32).toNatClampNeg) < 0 then -1 else if (xs (1 : Int32).toNatClampNeg) ≤ 0 then (xs (1 : Int32).toNatClampNeg) else -1)]) dL_law_298 (c_X11_end0 (d := 1) (h := h_2) (a0 := (xs (1 : Int32).toNatClampNeg)) (by decide) (zm_162 zm_5) (zm_167 zm_5) (zm_164 zm_5) (zm_165 zm_5) (zm_166 zm_5) (zm_181 zm_5)) hN k1402 k1403 k1404 (zm_162 zm_5) rfl rfl k97 k1405 np_X11_end (Nat.le_trans (by decide) hd) (by decide) (by decide) (by decide) (hk182 zm_5.1) rfl (Nat.le_of_ble_eq_true rfl) (fun r_6 h_7 p_8 => ?_)
  obtain rfl := p_8
  refine J_icmp_eq (tgt := 2268) dL_law_301 (by decide) (fun _ => ?_) (fun q => absurd rfl q)
  exact law_tail hq hcon (by decide) (by decide)
set_option maxHeartbeats 4000000 in
set_option maxRecDepth 100000 in
theorem law_2 {x : JX} {bb : Nat} {xs : Nat → Int32} {h : List MC} (hq : LQ x bb) (hN : JN x con0) (hcon : x.2.2.2.2.2.2.2.2.2.2.2.2.2.2.1 0 = some (8, xs)) (hx : ZX h) (hm : ZM h) (hd : 12 ≤ 12) : J x yL_law code 4 ret 12 600000 7302250 0 306 [(3, .int 0), (2, .ref 162), (1, .ref 0), (0, .retAddr 0)] [] h 182 13870 := by
  refine J_aload_n (i := 1) (j := 2) dL_law_306 rfl rfl ?_
  refine J_aload_nC (i := 0) (j := 3) dL_law_307 rfl rfl ?_
  refine J_iload_n (i := 3) (j := 0) dL_law_308 rfl rfl ?_
  refine J_iconst (v := 1) dL_law_309 (by decide) ?_
  refine J_iadd dL_law_310 ?_
  refine J_ci (v := 1) (by decide) ?_
  refine J_cald (z := 8) (f := xs) dL_law_311 hcon (vp_c (by decide)) ?_
  refine J_aload_nC (i := 0) (j := 3) dL_law_312 rfl rfl ?_
  refine J_iload_n (i := 3) (j := 0) dL_law_313 rfl rfl ?_
  refine J_iconst (v := 2) dL_law_314 (by decide) ?_
  refine J_iadd dL_law_315 ?_
  refine J_ci (v := 2) (by decide) ?_
  refine J_cald (z := 8) (f := xs) dL_law_316 hcon (vp_c (by decide)) ?_
  refine J_callV (As := [.int (xs (1 : Int32).toNatClampNeg), .int (xs (2 : Int32).toNatClampNeg)]) (rest := []) dL_law_317 (c_X10_text0 (d := 8) (h := h) (a0 := (xs (1 : Int32).toNatClampNeg)) (a1 := (xs (2 : Int32).toNatClampNeg)) (by decide) (zx_0 hx) (zx_1 hx) (zx_2 hx) (zx_3 hx) (zx_4 hx) (zx_5 hx) (zx_6 hx) (zx_7 hx) (zx_8 hx) (zx_9 hx) (zx_15 hx) (zx_16 hx) (zx_17 hx) (zx_18 hx) (zx_29 hx) (zx_30 hx) (zx_31 hx) (zx_32 hx) (zx_33 hx) (zx_34 hx) (zx_35 hx) (zx_36 hx) (zx_37 hx) (zx_38 hx) (zx_39 hx) (zx_40 hx) (zx_41 hx) (zx_42 hx)) hN k466 k467 k468 (zx_0 hx) rfl rfl k87 k469 np_X10_text (Nat.le_trans (by decide) hd) (by decide) (by decide) (by decide) (hk182 hx.1) rfl (Nat.le_of_ble_eq_true rfl) (fun r_1 h_2 p_3 => ?_)
  obtain ⟨rfl, fx_4⟩ := p_3
  have zm_5 := ZM.fx hm fx_4
  refine J_aload_n (i := 2) (j := 1) dL_law_320 rfl rfl ?_
  refine J_aload_nC (i := 0) (j := 3) dL_law_321 rfl rfl ?_
  refine J_iload_n (i := 3) (j := 0) dL_law_322 rfl rfl ?_
  refine J_iconst (v := 1) dL_law_323 (by decide) ?_
  refine J_iadd dL_law_324 ?_
  refine J_ci (v := 1) (by decide) ?_
  refine J_cald (z := 8) (f := xs) dL_law_325 hcon (vp_c (by decide)) ?_
  refine J_aload_nC (i := 0) (j := 3) dL_law_326 rfl rfl ?_
  refine J_iload_n (i := 3) (j := 0) dL_law_327 rfl rfl ?_
  refine J_iconst (v := 2) dL_law_328 (by decide) ?_
  refine J_iadd dL_law_329 ?_
  refine J_ci (v := 2) (by decide) ?_
  refine J_cald (z := 8) (f := xs) dL_law_330 hcon (vp_c (by decide)) ?_
  refine J_callV (As := [.int (xs (1 : Int32).toNatClampNeg), .int (xs (2 : Int32).toNatClampNeg)]) (rest := [.int (TV (xs (1 : Int32).toNatClampNeg) (xs (2 : Int32).toNatClampNeg))]) dL_law_331 (c_X11_text0 (d := 5) (h := h_2) (a0 := (xs (1 : Int32).toNatClampNeg)) (a1 := (xs (2 : Int32).toNatClampNeg)) (by decide) (zm_162 zm_5) (zm_163 zm_5) (zm_164 zm_5) (zm_165 zm_5) (zm_166 zm_5) (zm_167 zm_5) (zm_168 zm_5) (zm_169 zm_5) (zm_170 zm_5)) hN k1409 k1410 k1411 (zm_162 zm_5) rfl rfl k97 k1412 np_X11_text (Nat.le_trans (by decide) hd) (by decide) (by decide) (by decide) (hk182 zm_5.1) rfl (Nat.le_of_ble_eq_true rfl) (fun r_6 h_7 p_8 => ?_)
  obtain rfl := p_8
  refine J_icmp_eq (tgt := 2268) dL_law_334 (by decide) (fun _ => ?_) (fun q => absurd rfl q)
  exact law_tail hq hcon (by decide) (by decide)
set_option maxHeartbeats 4000000 in
set_option maxRecDepth 100000 in
theorem law_3 {x : JX} {bb : Nat} {xs : Nat → Int32} {h : List MC} (hq : LQ x bb) (hN : JN x con0) (hcon : x.2.2.2.2.2.2.2.2.2.2.2.2.2.2.1 0 = some (8, xs)) (hx : ZX h) (hm : ZM h) (hd : 12 ≤ 12) : J x yL_law code 4 ret 12 600000 7302250 0 339 [(3, .int 0), (2, .ref 162), (1, .ref 0), (0, .retAddr 0)] [] h 182 13870 := by
  refine J_aload_n (i := 1) (j := 2) dL_law_339 rfl rfl ?_
  refine J_aload_nC (i := 0) (j := 3) dL_law_340 rfl rfl ?_
  refine J_iload_n (i := 3) (j := 0) dL_law_341 rfl rfl ?_
  refine J_iconst (v := 1) dL_law_342 (by decide) ?_
  refine J_iadd dL_law_343 ?_
  refine J_ci (v := 1) (by decide) ?_
  refine J_cald (z := 8) (f := xs) dL_law_344 hcon (vp_c (by decide)) ?_
  refine J_callV (As := [.int (xs (1 : Int32).toNatClampNeg)]) (rest := []) dL_law_345 (c_X10_fault0 (d := 0) (h := h) (a0 := (xs (1 : Int32).toNatClampNeg)) (by decide) (zx_0 hx) (zx_1 hx)) hN k695 k696 k697 (zx_0 hx) rfl rfl k87 k698 np_X10_fault (Nat.le_trans (by decide) hd) (by decide) (by decide) (by decide) (hk182 hx.1) rfl (Nat.le_of_ble_eq_true rfl) (fun r_1 h_2 p_3 => ?_)
  obtain ⟨rfl, fx_4⟩ := p_3
  have zm_5 := ZM.fx hm fx_4
  refine J_aload_n (i := 2) (j := 1) dL_law_348 rfl rfl ?_
  refine J_aload_nC (i := 0) (j := 3) dL_law_349 rfl rfl ?_
  refine J_iload_n (i := 3) (j := 0) dL_law_350 rfl rfl ?_
  refine J_iconst (v := 1) dL_law_351 (by decide) ?_
  refine J_iadd dL_law_352 ?_
  refine J_ci (v := 1) (by decide) ?_
  refine J_cald (z := 8) (f := xs) dL_law_353 hcon (vp_c (by decide)) ?_
  refine J_callV (As := [.int (xs (1 : Int32).toNatClampNeg)]) (rest := [.int (if (xs (1 : Int32).toNatClampNeg) = 0 then 0 else -1)]) dL_law_354 (c_X11_fault0 (d := 0) (h := h_2) (a0 := (xs (1 : Int32).toNatClampNeg)) (by decide) (zm_162 zm_5) (zm_167 zm_5) (zm_164 zm_5) (zm_165 zm_5) (zm_166 zm_5) (zm_181 zm_5)) hN k1487 k1488 k1489 (zm_162 zm_5) rfl rfl k97 k1490 np_X11_fault (Nat.le_trans (by decide) hd) (by decide) (by decide) (by decide) (hk182 zm_5.1) rfl (Nat.le_of_ble_eq_true rfl) (fun r_6 h_7 p_8 => ?_)
  obtain rfl := p_8
  refine J_icmp_eq (tgt := 2268) dL_law_357 (by decide) (fun _ => ?_) (fun q => absurd rfl q)
  exact law_tail hq hcon (by decide) (by decide)
set_option maxHeartbeats 4000000 in
set_option maxRecDepth 100000 in
theorem law_4 {x : JX} {bb : Nat} {xs : Nat → Int32} {h : List MC} (hq : LQ x bb) (hN : JN x con0) (hcon : x.2.2.2.2.2.2.2.2.2.2.2.2.2.2.1 0 = some (8, xs)) (hx : ZX h) (hm : ZM h) (hd : 12 ≤ 12) : J x yL_law code 4 ret 12 600000 7302250 0 362 [(3, .int 0), (2, .ref 162), (1, .ref 0), (0, .retAddr 0)] [] h 182 13870 := by
  refine J_aload_n (i := 1) (j := 2) dL_law_362 rfl rfl ?_
  refine J_aload_nC (i := 0) (j := 3) dL_law_363 rfl rfl ?_
  refine J_iload_n (i := 3) (j := 0) dL_law_364 rfl rfl ?_
  refine J_iconst (v := 1) dL_law_365 (by decide) ?_
  refine J_iadd dL_law_366 ?_
  refine J_ci (v := 1) (by decide) ?_
  refine J_cald (z := 8) (f := xs) dL_law_367 hcon (vp_c (by decide)) ?_
  refine J_aload_nC (i := 0) (j := 3) dL_law_368 rfl rfl ?_
  refine J_iload_n (i := 3) (j := 0) dL_law_369 rfl rfl ?_
  refine J_iconst (v := 2) dL_law_370 (by decide) ?_
  refine J_iadd dL_law_371 ?_
  refine J_ci (v := 2) (by decide) ?_
  refine J_cald (z := 8) (f := xs) dL_law_372 hcon (vp_c (by decide)) ?_
  refine J_callV (As := [.int (xs (1 : Int32).toNatClampNeg), .int (xs (2 : Int32).toNatClampNeg)]) (rest := []) dL_law_373 (c_X10_hill0 (d := 3) (h := h) (a0 := (xs (1 : Int32).toNatClampNeg)) (a1 := (xs (2 : Int32).toNatClampNeg)) (by decide) (zx_0 hx) (zx_1 hx)) hN k699 k700 k701 (zx_0 hx) rfl rfl k87 k702 np_X10_hill (Nat.le_trans (by decide) hd) (by decide) (by decide) (by decide) (hk182 hx.1) rfl (Nat.le_of_ble_eq_true rfl) (fun r_1 h_2 p_3 => ?_)
  obtain ⟨rfl, w_4⟩ := p_3
  refine J_w w_4 ?_
  refine J_aload_n (i := 2) (j := 1) dL_law_376 rfl rfl ?_
  refine J_aload_nC (i := 0) (j := 3) dL_law_377 rfl rfl ?_
  refine J_iload_n (i := 3) (j := 0) dL_law_378 rfl rfl ?_
  refine J_iconst (v := 1) dL_law_379 (by decide) ?_
  refine J_iadd dL_law_380 ?_
  refine J_ci (v := 1) (by decide) ?_
  refine J_cald (z := 8) (f := xs) dL_law_381 hcon (vp_c (by decide)) ?_
  refine J_aload_nC (i := 0) (j := 3) dL_law_382 rfl rfl ?_
  refine J_iload_n (i := 3) (j := 0) dL_law_383 rfl rfl ?_
  refine J_iconst (v := 2) dL_law_384 (by decide) ?_
  refine J_iadd dL_law_385 ?_
  refine J_ci (v := 2) (by decide) ?_
  refine J_cald (z := 8) (f := xs) dL_law_386 hcon (vp_c (by decide)) ?_
  refine J_callV (As := [.int (xs (1 : Int32).toNatClampNeg), .int (xs (2 : Int32).toNatClampNeg)]) (rest := [.int (-1)]) dL_law_387 (c_X11_hill0 (d := 4) (h := h) (a0 := (xs (1 : Int32).toNatClampNeg)) (a1 := (xs (2 : Int32).toNatClampNeg)) (by decide) (zm_162 hm) (zm_167 hm)) hN k1491 k1492 k1493 (zm_162 hm) rfl rfl k97 k1494 np_X11_hill (Nat.le_trans (by decide) hd) (by decide) (by decide) (by decide) (hk182 hx.1) rfl (Nat.le_of_ble_eq_true rfl) (fun r_5 h_6 p_7 => ?_)
  obtain rfl := p_7
  refine J_icmp_eq (tgt := 2268) dL_law_390 (by decide) (fun _ => ?_) (fun q => absurd (by decide) q)
  exact law_tail hq hcon (by decide) (by decide)
set_option maxHeartbeats 4000000 in
set_option maxRecDepth 100000 in
theorem law_5 {x : JX} {bb : Nat} {xs : Nat → Int32} {h : List MC} (hq : LQ x bb) (hN : JN x con0) (hcon : x.2.2.2.2.2.2.2.2.2.2.2.2.2.2.1 0 = some (8, xs)) (hx : ZX h) (hm : ZM h) (hd : 12 ≤ 12) : J x yL_law code 4 ret 12 600000 7302250 0 395 [(3, .int 0), (2, .ref 162), (1, .ref 0), (0, .retAddr 0)] [] h 182 13870 := by
  refine J_aload_n (i := 1) (j := 2) dL_law_395 rfl rfl ?_
  refine J_aload_nC (i := 0) (j := 3) dL_law_396 rfl rfl ?_
  refine J_iload_n (i := 3) (j := 0) dL_law_397 rfl rfl ?_
  refine J_iconst (v := 1) dL_law_398 (by decide) ?_
  refine J_iadd dL_law_399 ?_
  refine J_ci (v := 1) (by decide) ?_
  refine J_cald (z := 8) (f := xs) dL_law_400 hcon (vp_c (by decide)) ?_
  refine J_aload_nC (i := 0) (j := 3) dL_law_401 rfl rfl ?_
  refine J_iload_n (i := 3) (j := 0) dL_law_402 rfl rfl ?_
  refine J_iconst (v := 2) dL_law_403 (by decide) ?_
  refine J_iadd dL_law_404 ?_
  refine J_ci (v := 2) (by decide) ?_
  refine J_cald (z := 8) (f := xs) dL_law_405 hcon (vp_c (by decide)) ?_
  refine J_aload_nC (i := 0) (j := 3) dL_law_406 rfl rfl ?_
  refine J_iload_n (i := 3) (j := 0) dL_law_407 rfl rfl ?_
  refine J_iconst (v := 3) dL_law_408 (by decide) ?_
  refine J_iadd dL_law_409 ?_
  refine J_ci (v := 3) (by decide) ?_
  refine J_cald (z := 8) (f := xs) dL_law_410 hcon (vp_c (by decide)) ?_
  refine J_aload_nC (i := 0) (j := 3) dL_law_411 rfl rfl ?_
  refine J_iload_n (i := 3) (j := 0) dL_law_412 rfl rfl ?_
  refine J_iconst (v := 4) dL_law_413 (by decide) ?_
  refine J_iadd dL_law_414 ?_
  refine J_ci (v := 4) (by decide) ?_
  refine J_cald (z := 8) (f := xs) dL_law_415 hcon (vp_c (by decide)) ?_
  refine J_callV (As := [.int (xs (1 : Int32).toNatClampNeg), .int (xs (2 : Int32).toNatClampNeg), .int (xs (3 : Int32).toNatClampNeg), .int (xs (4 : Int32).toNatClampNeg)]) (rest := []) dL_law_416 (c_X10_pond0 (d := 3) (h := h) (a0 := (xs (1 : Int32).toNatClampNeg)) (a1 := (xs (2 : Int32).toNatClampNeg)) (a2 := (xs (3 : Int32).toNatClampNeg)) (a3 := (xs (4 : Int32).toNatClampNeg)) (by decide) (zx_0 hx) (zx_1 hx)) hN k719 k720 k721 (zx_0 hx) rfl rfl k87 k722 np_X10_pond (Nat.le_trans (by decide) hd) (by decide) (by decide) (by decide) (hk182 hx.1) rfl (Nat.le_of_ble_eq_true rfl) (fun r_1 h_2 p_3 => ?_)
  obtain ⟨rfl, w_4⟩ := p_3
  refine J_w w_4 ?_
  refine J_aload_n (i := 2) (j := 1) dL_law_419 rfl rfl ?_
  refine J_aload_nC (i := 0) (j := 3) dL_law_420 rfl rfl ?_
  refine J_iload_n (i := 3) (j := 0) dL_law_421 rfl rfl ?_
  refine J_iconst (v := 1) dL_law_422 (by decide) ?_
  refine J_iadd dL_law_423 ?_
  refine J_ci (v := 1) (by decide) ?_
  refine J_cald (z := 8) (f := xs) dL_law_424 hcon (vp_c (by decide)) ?_
  refine J_aload_nC (i := 0) (j := 3) dL_law_425 rfl rfl ?_
  refine J_iload_n (i := 3) (j := 0) dL_law_426 rfl rfl ?_
  refine J_iconst (v := 2) dL_law_427 (by decide) ?_
  refine J_iadd dL_law_428 ?_
  refine J_ci (v := 2) (by decide) ?_
  refine J_cald (z := 8) (f := xs) dL_law_429 hcon (vp_c (by decide)) ?_
  refine J_aload_nC (i := 0) (j := 3) dL_law_430 rfl rfl ?_
  refine J_iload_n (i := 3) (j := 0) dL_law_431 rfl rfl ?_
  refine J_iconst (v := 3) dL_law_432 (by decide) ?_
  refine J_iadd dL_law_433 ?_
  refine J_ci (v := 3) (by decide) ?_
  refine J_cald (z := 8) (f := xs) dL_law_434 hcon (vp_c (by decide)) ?_
  refine J_aload_nC (i := 0) (j := 3) dL_law_435 rfl rfl ?_
  refine J_iload_n (i := 3) (j := 0) dL_law_436 rfl rfl ?_
  refine J_iconst (v := 4) dL_law_437 (by decide) ?_
  refine J_iadd dL_law_438 ?_
  refine J_ci (v := 4) (by decide) ?_
  refine J_cald (z := 8) (f := xs) dL_law_439 hcon (vp_c (by decide)) ?_
  refine J_callV (As := [.int (xs (1 : Int32).toNatClampNeg), .int (xs (2 : Int32).toNatClampNeg), .int (xs (3 : Int32).toNatClampNeg), .int (xs (4 : Int32).toNatClampNeg)]) (rest := [.int (-2)]) dL_law_440 (c_X11_pond0 (d := 4) (h := h) (a0 := (xs (1 : Int32).toNatClampNeg)) (a1 := (xs (2 : Int32).toNatClampNeg)) (a2 := (xs (3 : Int32).toNatClampNeg)) (a3 := (xs (4 : Int32).toNatClampNeg)) (by decide) (zm_162 hm) (zm_167 hm)) hN k1499 k1500 k1501 (zm_162 hm) rfl rfl k97 k1502 np_X11_pond (Nat.le_trans (by decide) hd) (by decide) (by decide) (by decide) (hk182 hx.1) rfl (Nat.le_of_ble_eq_true rfl) (fun r_5 h_6 p_7 => ?_)
  obtain rfl := p_7
  refine J_icmp_eq (tgt := 2268) dL_law_443 (by decide) (fun _ => ?_) (fun q => absurd (by decide) q)
  exact law_tail hq hcon (by decide) (by decide)
set_option maxHeartbeats 4000000 in
set_option maxRecDepth 100000 in
theorem law_6 {x : JX} {bb : Nat} {xs : Nat → Int32} {h : List MC} (hq : LQ x bb) (hN : JN x con0) (hcon : x.2.2.2.2.2.2.2.2.2.2.2.2.2.2.1 0 = some (8, xs)) (hx : ZX h) (hm : ZM h) (hd : 12 ≤ 12) : J x yL_law code 4 ret 12 600000 7302250 0 448 [(3, .int 0), (2, .ref 162), (1, .ref 0), (0, .retAddr 0)] [] h 182 13870 := by
  refine J_aload_n (i := 1) (j := 2) dL_law_448 rfl rfl ?_
  refine J_aload_nC (i := 0) (j := 3) dL_law_449 rfl rfl ?_
  refine J_iload_n (i := 3) (j := 0) dL_law_450 rfl rfl ?_
  refine J_iconst (v := 1) dL_law_451 (by decide) ?_
  refine J_iadd dL_law_452 ?_
  refine J_ci (v := 1) (by decide) ?_
  refine J_cald (z := 8) (f := xs) dL_law_453 hcon (vp_c (by decide)) ?_
  refine J_aload_nC (i := 0) (j := 3) dL_law_454 rfl rfl ?_
  refine J_iload_n (i := 3) (j := 0) dL_law_455 rfl rfl ?_
  refine J_iconst (v := 2) dL_law_456 (by decide) ?_
  refine J_iadd dL_law_457 ?_
  refine J_ci (v := 2) (by decide) ?_
  refine J_cald (z := 8) (f := xs) dL_law_458 hcon (vp_c (by decide)) ?_
  refine J_aload_nC (i := 0) (j := 3) dL_law_459 rfl rfl ?_
  refine J_iload_n (i := 3) (j := 0) dL_law_460 rfl rfl ?_
  refine J_iconst (v := 3) dL_law_461 (by decide) ?_
  refine J_iadd dL_law_462 ?_
  refine J_ci (v := 3) (by decide) ?_
  refine J_cald (z := 8) (f := xs) dL_law_463 hcon (vp_c (by decide)) ?_
  refine J_callV (As := [.int (xs (1 : Int32).toNatClampNeg), .int (xs (2 : Int32).toNatClampNeg), .int (xs (3 : Int32).toNatClampNeg)]) (rest := []) dL_law_464 (c_X10_work0 (d := 3) (h := h) (a0 := (xs (1 : Int32).toNatClampNeg)) (a1 := (xs (2 : Int32).toNatClampNeg)) (a2 := (xs (3 : Int32).toNatClampNeg)) (by decide) (zx_0 hx) (zx_1 hx)) hN k776 k777 k778 (zx_0 hx) rfl rfl k87 k779 np_X10_work (Nat.le_trans (by decide) hd) (by decide) (by decide) (by decide) (hk182 hx.1) rfl (Nat.le_of_ble_eq_true rfl) (fun r_1 h_2 p_3 => ?_)
  obtain ⟨rfl, w_4⟩ := p_3
  refine J_w w_4 ?_
  refine J_aload_n (i := 2) (j := 1) dL_law_467 rfl rfl ?_
  refine J_aload_nC (i := 0) (j := 3) dL_law_468 rfl rfl ?_
  refine J_iload_n (i := 3) (j := 0) dL_law_469 rfl rfl ?_
  refine J_iconst (v := 1) dL_law_470 (by decide) ?_
  refine J_iadd dL_law_471 ?_
  refine J_ci (v := 1) (by decide) ?_
  refine J_cald (z := 8) (f := xs) dL_law_472 hcon (vp_c (by decide)) ?_
  refine J_aload_nC (i := 0) (j := 3) dL_law_473 rfl rfl ?_
  refine J_iload_n (i := 3) (j := 0) dL_law_474 rfl rfl ?_
  refine J_iconst (v := 2) dL_law_475 (by decide) ?_
  refine J_iadd dL_law_476 ?_
  refine J_ci (v := 2) (by decide) ?_
  refine J_cald (z := 8) (f := xs) dL_law_477 hcon (vp_c (by decide)) ?_
  refine J_aload_nC (i := 0) (j := 3) dL_law_478 rfl rfl ?_
  refine J_iload_n (i := 3) (j := 0) dL_law_479 rfl rfl ?_
  refine J_iconst (v := 3) dL_law_480 (by decide) ?_
  refine J_iadd dL_law_481 ?_
  refine J_ci (v := 3) (by decide) ?_
  refine J_cald (z := 8) (f := xs) dL_law_482 hcon (vp_c (by decide)) ?_
  refine J_callV (As := [.int (xs (1 : Int32).toNatClampNeg), .int (xs (2 : Int32).toNatClampNeg), .int (xs (3 : Int32).toNatClampNeg)]) (rest := [.int (-2)]) dL_law_483 (c_X11_work0 (d := 4) (h := h) (a0 := (xs (1 : Int32).toNatClampNeg)) (a1 := (xs (2 : Int32).toNatClampNeg)) (a2 := (xs (3 : Int32).toNatClampNeg)) (by decide) (zm_162 hm) (zm_167 hm)) hN k1527 k1528 k1529 (zm_162 hm) rfl rfl k97 k1530 np_X11_work (Nat.le_trans (by decide) hd) (by decide) (by decide) (by decide) (hk182 hx.1) rfl (Nat.le_of_ble_eq_true rfl) (fun r_5 h_6 p_7 => ?_)
  obtain rfl := p_7
  refine J_icmp_eq (tgt := 2268) dL_law_486 (by decide) (fun _ => ?_) (fun q => absurd (by decide) q)
  exact law_tail hq hcon (by decide) (by decide)
set_option maxHeartbeats 4000000 in
set_option maxRecDepth 100000 in
theorem law_7 {x : JX} {bb : Nat} {xs : Nat → Int32} {h : List MC} (hq : LQ x bb) (hN : JN x con0) (hcon : x.2.2.2.2.2.2.2.2.2.2.2.2.2.2.1 0 = some (8, xs)) (hx : ZX h) (hm : ZM h) (hd : 12 ≤ 12) : J x yL_law code 4 ret 12 600000 7302250 0 491 [(3, .int 0), (2, .ref 162), (1, .ref 0), (0, .retAddr 0)] [] h 182 13870 := by
  refine J_aload_n (i := 1) (j := 2) dL_law_491 rfl rfl ?_
  refine J_aload_nC (i := 0) (j := 3) dL_law_492 rfl rfl ?_
  refine J_iload_n (i := 3) (j := 0) dL_law_493 rfl rfl ?_
  refine J_iconst (v := 1) dL_law_494 (by decide) ?_
  refine J_iadd dL_law_495 ?_
  refine J_ci (v := 1) (by decide) ?_
  refine J_cald (z := 8) (f := xs) dL_law_496 hcon (vp_c (by decide)) ?_
  refine J_aload_nC (i := 0) (j := 3) dL_law_497 rfl rfl ?_
  refine J_iload_n (i := 3) (j := 0) dL_law_498 rfl rfl ?_
  refine J_iconst (v := 2) dL_law_499 (by decide) ?_
  refine J_iadd dL_law_500 ?_
  refine J_ci (v := 2) (by decide) ?_
  refine J_cald (z := 8) (f := xs) dL_law_501 hcon (vp_c (by decide)) ?_
  refine J_aload_nC (i := 0) (j := 3) dL_law_502 rfl rfl ?_
  refine J_iload_n (i := 3) (j := 0) dL_law_503 rfl rfl ?_
  refine J_iconst (v := 3) dL_law_504 (by decide) ?_
  refine J_iadd dL_law_505 ?_
  refine J_ci (v := 3) (by decide) ?_
  refine J_cald (z := 8) (f := xs) dL_law_506 hcon (vp_c (by decide)) ?_
  refine J_callV (As := [.int (xs (1 : Int32).toNatClampNeg), .int (xs (2 : Int32).toNatClampNeg), .int (xs (3 : Int32).toNatClampNeg)]) (rest := []) dL_law_507 (c_X10_plan0 (d := 3) (h := h) (a0 := (xs (1 : Int32).toNatClampNeg)) (a1 := (xs (2 : Int32).toNatClampNeg)) (a2 := (xs (3 : Int32).toNatClampNeg)) (by decide) (zx_0 hx) (zx_1 hx)) hN k784 k785 k786 (zx_0 hx) rfl rfl k87 k787 np_X10_plan (Nat.le_trans (by decide) hd) (by decide) (by decide) (by decide) (hk182 hx.1) rfl (Nat.le_of_ble_eq_true rfl) (fun r_1 h_2 p_3 => ?_)
  obtain ⟨rfl, w_4⟩ := p_3
  refine J_w w_4 ?_
  refine J_aload_n (i := 2) (j := 1) dL_law_510 rfl rfl ?_
  refine J_aload_nC (i := 0) (j := 3) dL_law_511 rfl rfl ?_
  refine J_iload_n (i := 3) (j := 0) dL_law_512 rfl rfl ?_
  refine J_iconst (v := 1) dL_law_513 (by decide) ?_
  refine J_iadd dL_law_514 ?_
  refine J_ci (v := 1) (by decide) ?_
  refine J_cald (z := 8) (f := xs) dL_law_515 hcon (vp_c (by decide)) ?_
  refine J_aload_nC (i := 0) (j := 3) dL_law_516 rfl rfl ?_
  refine J_iload_n (i := 3) (j := 0) dL_law_517 rfl rfl ?_
  refine J_iconst (v := 2) dL_law_518 (by decide) ?_
  refine J_iadd dL_law_519 ?_
  refine J_ci (v := 2) (by decide) ?_
  refine J_cald (z := 8) (f := xs) dL_law_520 hcon (vp_c (by decide)) ?_
  refine J_aload_nC (i := 0) (j := 3) dL_law_521 rfl rfl ?_
  refine J_iload_n (i := 3) (j := 0) dL_law_522 rfl rfl ?_
  refine J_iconst (v := 3) dL_law_523 (by decide) ?_
  refine J_iadd dL_law_524 ?_
  refine J_ci (v := 3) (by decide) ?_
  refine J_cald (z := 8) (f := xs) dL_law_525 hcon (vp_c (by decide)) ?_
  refine J_callV (As := [.int (xs (1 : Int32).toNatClampNeg), .int (xs (2 : Int32).toNatClampNeg), .int (xs (3 : Int32).toNatClampNeg)]) (rest := [.int (-1)]) dL_law_526 (c_X11_plan0 (d := 4) (h := h) (a0 := (xs (1 : Int32).toNatClampNeg)) (a1 := (xs (2 : Int32).toNatClampNeg)) (a2 := (xs (3 : Int32).toNatClampNeg)) (by decide) (zm_162 hm) (zm_167 hm)) hN k1531 k1532 k1533 (zm_162 hm) rfl rfl k97 k1534 np_X11_plan (Nat.le_trans (by decide) hd) (by decide) (by decide) (by decide) (hk182 hx.1) rfl (Nat.le_of_ble_eq_true rfl) (fun r_5 h_6 p_7 => ?_)
  obtain rfl := p_7
  refine J_icmp_eq (tgt := 2268) dL_law_529 (by decide) (fun _ => ?_) (fun q => absurd (by decide) q)
  exact law_tail hq hcon (by decide) (by decide)
set_option maxHeartbeats 4000000 in
set_option maxRecDepth 100000 in
theorem law_8 {x : JX} {bb : Nat} {xs : Nat → Int32} {h : List MC} (hq : LQ x bb) (hN : JN x con0) (hcon : x.2.2.2.2.2.2.2.2.2.2.2.2.2.2.1 0 = some (8, xs)) (hx : ZX h) (hm : ZM h) (hd : 12 ≤ 12) : J x yL_law code 4 ret 12 600000 7302250 0 534 [(3, .int 0), (2, .ref 162), (1, .ref 0), (0, .retAddr 0)] [] h 182 13870 := by
  refine J_aload_n (i := 1) (j := 2) dL_law_534 rfl rfl ?_
  refine J_aload_nC (i := 0) (j := 3) dL_law_535 rfl rfl ?_
  refine J_iload_n (i := 3) (j := 0) dL_law_536 rfl rfl ?_
  refine J_iconst (v := 1) dL_law_537 (by decide) ?_
  refine J_iadd dL_law_538 ?_
  refine J_ci (v := 1) (by decide) ?_
  refine J_cald (z := 8) (f := xs) dL_law_539 hcon (vp_c (by decide)) ?_
  refine J_aload_nC (i := 0) (j := 3) dL_law_540 rfl rfl ?_
  refine J_iload_n (i := 3) (j := 0) dL_law_541 rfl rfl ?_
  refine J_iconst (v := 2) dL_law_542 (by decide) ?_
  refine J_iadd dL_law_543 ?_
  refine J_ci (v := 2) (by decide) ?_
  refine J_cald (z := 8) (f := xs) dL_law_544 hcon (vp_c (by decide)) ?_
  refine J_aload_nC (i := 0) (j := 3) dL_law_545 rfl rfl ?_
  refine J_iload_n (i := 3) (j := 0) dL_law_546 rfl rfl ?_
  refine J_iconst (v := 3) dL_law_547 (by decide) ?_
  refine J_iadd dL_law_548 ?_
  refine J_ci (v := 3) (by decide) ?_
  refine J_cald (z := 8) (f := xs) dL_law_549 hcon (vp_c (by decide)) ?_
  refine J_aload_nC (i := 0) (j := 3) dL_law_550 rfl rfl ?_
  refine J_iload_n (i := 3) (j := 0) dL_law_551 rfl rfl ?_
  refine J_iconst (v := 4) dL_law_552 (by decide) ?_
  refine J_iadd dL_law_553 ?_
  refine J_ci (v := 4) (by decide) ?_
  refine J_cald (z := 8) (f := xs) dL_law_554 hcon (vp_c (by decide)) ?_
  refine J_aload_nC (i := 0) (j := 3) dL_law_555 rfl rfl ?_
  refine J_iload_n (i := 3) (j := 0) dL_law_556 rfl rfl ?_
  refine J_iconst (v := 5) dL_law_557 (by decide) ?_
  refine J_iadd dL_law_558 ?_
  refine J_ci (v := 5) (by decide) ?_
  refine J_cald (z := 8) (f := xs) dL_law_559 hcon (vp_c (by decide)) ?_
  refine J_callV (As := [.int (xs (1 : Int32).toNatClampNeg), .int (xs (2 : Int32).toNatClampNeg), .int (xs (3 : Int32).toNatClampNeg), .int (xs (4 : Int32).toNatClampNeg), .int (xs (5 : Int32).toNatClampNeg)]) (rest := []) dL_law_560 (c_X10_storm0 (d := 3) (h := h) (a0 := (xs (1 : Int32).toNatClampNeg)) (a1 := (xs (2 : Int32).toNatClampNeg)) (a2 := (xs (3 : Int32).toNatClampNeg)) (a3 := (xs (4 : Int32).toNatClampNeg)) (a4 := (xs (5 : Int32).toNatClampNeg)) (by decide) (zx_0 hx) (zx_1 hx)) hN k788 k789 k790 (zx_0 hx) rfl rfl k87 k791 np_X10_storm (Nat.le_trans (by decide) hd) (by decide) (by decide) (by decide) (hk182 hx.1) rfl (Nat.le_of_ble_eq_true rfl) (fun r_1 h_2 p_3 => ?_)
  obtain ⟨rfl, w_4⟩ := p_3
  refine J_w w_4 ?_
  refine J_aload_n (i := 2) (j := 1) dL_law_563 rfl rfl ?_
  refine J_aload_nC (i := 0) (j := 3) dL_law_564 rfl rfl ?_
  refine J_iload_n (i := 3) (j := 0) dL_law_565 rfl rfl ?_
  refine J_iconst (v := 1) dL_law_566 (by decide) ?_
  refine J_iadd dL_law_567 ?_
  refine J_ci (v := 1) (by decide) ?_
  refine J_cald (z := 8) (f := xs) dL_law_568 hcon (vp_c (by decide)) ?_
  refine J_aload_nC (i := 0) (j := 3) dL_law_569 rfl rfl ?_
  refine J_iload_n (i := 3) (j := 0) dL_law_570 rfl rfl ?_
  refine J_iconst (v := 2) dL_law_571 (by decide) ?_
  refine J_iadd dL_law_572 ?_
  refine J_ci (v := 2) (by decide) ?_
  refine J_cald (z := 8) (f := xs) dL_law_573 hcon (vp_c (by decide)) ?_
  refine J_aload_nC (i := 0) (j := 3) dL_law_574 rfl rfl ?_
  refine J_iload_n (i := 3) (j := 0) dL_law_575 rfl rfl ?_
  refine J_iconst (v := 3) dL_law_576 (by decide) ?_
  refine J_iadd dL_law_577 ?_
  refine J_ci (v := 3) (by decide) ?_
  refine J_cald (z := 8) (f := xs) dL_law_578 hcon (vp_c (by decide)) ?_
  refine J_aload_nC (i := 0) (j := 3) dL_law_579 rfl rfl ?_
  refine J_iload_n (i := 3) (j := 0) dL_law_580 rfl rfl ?_
  refine J_iconst (v := 4) dL_law_581 (by decide) ?_
  refine J_iadd dL_law_582 ?_
  refine J_ci (v := 4) (by decide) ?_
  refine J_cald (z := 8) (f := xs) dL_law_583 hcon (vp_c (by decide)) ?_
  refine J_aload_nC (i := 0) (j := 3) dL_law_584 rfl rfl ?_
  refine J_iload_n (i := 3) (j := 0) dL_law_585 rfl rfl ?_
  refine J_iconst (v := 5) dL_law_586 (by decide) ?_
  refine J_iadd dL_law_587 ?_
  refine J_ci (v := 5) (by decide) ?_
  refine J_cald (z := 8) (f := xs) dL_law_588 hcon (vp_c (by decide)) ?_
  refine J_callV (As := [.int (xs (1 : Int32).toNatClampNeg), .int (xs (2 : Int32).toNatClampNeg), .int (xs (3 : Int32).toNatClampNeg), .int (xs (4 : Int32).toNatClampNeg), .int (xs (5 : Int32).toNatClampNeg)]) (rest := [.int (-1)]) dL_law_589 (c_X11_storm0 (d := 4) (h := h) (a0 := (xs (1 : Int32).toNatClampNeg)) (a1 := (xs (2 : Int32).toNatClampNeg)) (a2 := (xs (3 : Int32).toNatClampNeg)) (a3 := (xs (4 : Int32).toNatClampNeg)) (a4 := (xs (5 : Int32).toNatClampNeg)) (by decide) (zm_162 hm) (zm_167 hm)) hN k1535 k1536 k1537 (zm_162 hm) rfl rfl k97 k1538 np_X11_storm (Nat.le_trans (by decide) hd) (by decide) (by decide) (by decide) (hk182 hx.1) rfl (Nat.le_of_ble_eq_true rfl) (fun r_5 h_6 p_7 => ?_)
  obtain rfl := p_7
  refine J_icmp_eq (tgt := 2268) dL_law_592 (by decide) (fun _ => ?_) (fun q => absurd (by decide) q)
  exact law_tail hq hcon (by decide) (by decide)
set_option maxHeartbeats 4000000 in
set_option maxRecDepth 100000 in
theorem law_9 {x : JX} {bb : Nat} {xs : Nat → Int32} {h : List MC} (hq : LQ x bb) (hN : JN x con0) (hcon : x.2.2.2.2.2.2.2.2.2.2.2.2.2.2.1 0 = some (8, xs)) (hx : ZX h) (hm : ZM h) (hd : 12 ≤ 12) : J x yL_law code 4 ret 12 600000 7302250 0 597 [(3, .int 0), (2, .ref 162), (1, .ref 0), (0, .retAddr 0)] [] h 182 13870 := by
  refine J_aload_n (i := 1) (j := 2) dL_law_597 rfl rfl ?_
  refine J_aload_nC (i := 0) (j := 3) dL_law_598 rfl rfl ?_
  refine J_iload_n (i := 3) (j := 0) dL_law_599 rfl rfl ?_
  refine J_iconst (v := 1) dL_law_600 (by decide) ?_
  refine J_iadd dL_law_601 ?_
  refine J_ci (v := 1) (by decide) ?_
  refine J_cald (z := 8) (f := xs) dL_law_602 hcon (vp_c (by decide)) ?_
  refine J_aload_nC (i := 0) (j := 3) dL_law_603 rfl rfl ?_
  refine J_iload_n (i := 3) (j := 0) dL_law_604 rfl rfl ?_
  refine J_iconst (v := 2) dL_law_605 (by decide) ?_
  refine J_iadd dL_law_606 ?_
  refine J_ci (v := 2) (by decide) ?_
  refine J_cald (z := 8) (f := xs) dL_law_607 hcon (vp_c (by decide)) ?_
  refine J_aload_nC (i := 0) (j := 3) dL_law_608 rfl rfl ?_
  refine J_iload_n (i := 3) (j := 0) dL_law_609 rfl rfl ?_
  refine J_iconst (v := 3) dL_law_610 (by decide) ?_
  refine J_iadd dL_law_611 ?_
  refine J_ci (v := 3) (by decide) ?_
  refine J_cald (z := 8) (f := xs) dL_law_612 hcon (vp_c (by decide)) ?_
  refine J_callV (As := [.int (xs (1 : Int32).toNatClampNeg), .int (xs (2 : Int32).toNatClampNeg), .int (xs (3 : Int32).toNatClampNeg)]) (rest := []) dL_law_613 (c_X10_likely0 (d := 3) (h := h) (a0 := (xs (1 : Int32).toNatClampNeg)) (a1 := (xs (2 : Int32).toNatClampNeg)) (a2 := (xs (3 : Int32).toNatClampNeg)) (by decide) (zx_0 hx) (zx_1 hx)) hN k848 k849 k850 (zx_0 hx) rfl rfl k87 k851 np_X10_likely (Nat.le_trans (by decide) hd) (by decide) (by decide) (by decide) (hk182 hx.1) rfl (Nat.le_of_ble_eq_true rfl) (fun r_1 h_2 p_3 => ?_)
  obtain ⟨rfl, w_4⟩ := p_3
  refine J_w w_4 ?_
  refine J_aload_n (i := 2) (j := 1) dL_law_616 rfl rfl ?_
  refine J_aload_nC (i := 0) (j := 3) dL_law_617 rfl rfl ?_
  refine J_iload_n (i := 3) (j := 0) dL_law_618 rfl rfl ?_
  refine J_iconst (v := 1) dL_law_619 (by decide) ?_
  refine J_iadd dL_law_620 ?_
  refine J_ci (v := 1) (by decide) ?_
  refine J_cald (z := 8) (f := xs) dL_law_621 hcon (vp_c (by decide)) ?_
  refine J_aload_nC (i := 0) (j := 3) dL_law_622 rfl rfl ?_
  refine J_iload_n (i := 3) (j := 0) dL_law_623 rfl rfl ?_
  refine J_iconst (v := 2) dL_law_624 (by decide) ?_
  refine J_iadd dL_law_625 ?_
  refine J_ci (v := 2) (by decide) ?_
  refine J_cald (z := 8) (f := xs) dL_law_626 hcon (vp_c (by decide)) ?_
  refine J_aload_nC (i := 0) (j := 3) dL_law_627 rfl rfl ?_
  refine J_iload_n (i := 3) (j := 0) dL_law_628 rfl rfl ?_
  refine J_iconst (v := 3) dL_law_629 (by decide) ?_
  refine J_iadd dL_law_630 ?_
  refine J_ci (v := 3) (by decide) ?_
  refine J_cald (z := 8) (f := xs) dL_law_631 hcon (vp_c (by decide)) ?_
  refine J_callV (As := [.int (xs (1 : Int32).toNatClampNeg), .int (xs (2 : Int32).toNatClampNeg), .int (xs (3 : Int32).toNatClampNeg)]) (rest := [.long (-1)]) dL_law_632 (c_X11_likely0 (d := 4) (h := h) (a0 := (xs (1 : Int32).toNatClampNeg)) (a1 := (xs (2 : Int32).toNatClampNeg)) (a2 := (xs (3 : Int32).toNatClampNeg)) (by decide) (zm_162 hm) (zm_167 hm)) hN k1574 k1575 k1576 (zm_162 hm) rfl rfl k97 k1577 np_X11_likely (Nat.le_trans (by decide) hd) (by decide) (by decide) (by decide) (hk182 hx.1) rfl (Nat.le_of_ble_eq_true rfl) (fun r_5 h_6 p_7 => ?_)
  obtain rfl := p_7
  refine J_lcmp dL_law_635 ?_
  refine J_ci (v := 0) (by decide) ?_
  refine J_if_eq (tgt := 2268) dL_law_636 (by decide) (fun _ => ?_) (fun q => absurd (by decide) q)
  exact law_tail hq hcon (by decide) (by decide)
set_option maxHeartbeats 4000000 in
set_option maxRecDepth 100000 in
theorem law_10 {x : JX} {bb : Nat} {xs : Nat → Int32} {h : List MC} (hq : LQ x bb) (hN : JN x con0) (hcon : x.2.2.2.2.2.2.2.2.2.2.2.2.2.2.1 0 = some (8, xs)) (hx : ZX h) (hm : ZM h) (hd : 12 ≤ 12) : J x yL_law code 4 ret 12 600000 7302250 0 641 [(3, .int 0), (2, .ref 162), (1, .ref 0), (0, .retAddr 0)] [] h 182 13870 := by
  refine J_aload_n (i := 1) (j := 2) dL_law_641 rfl rfl ?_
  refine J_aload_nC (i := 0) (j := 3) dL_law_642 rfl rfl ?_
  refine J_iload_n (i := 3) (j := 0) dL_law_643 rfl rfl ?_
  refine J_iconst (v := 1) dL_law_644 (by decide) ?_
  refine J_iadd dL_law_645 ?_
  refine J_ci (v := 1) (by decide) ?_
  refine J_cald (z := 8) (f := xs) dL_law_646 hcon (vp_c (by decide)) ?_
  refine J_aload_nC (i := 0) (j := 3) dL_law_647 rfl rfl ?_
  refine J_iload_n (i := 3) (j := 0) dL_law_648 rfl rfl ?_
  refine J_iconst (v := 2) dL_law_649 (by decide) ?_
  refine J_iadd dL_law_650 ?_
  refine J_ci (v := 2) (by decide) ?_
  refine J_cald (z := 8) (f := xs) dL_law_651 hcon (vp_c (by decide)) ?_
  refine J_aload_nC (i := 0) (j := 3) dL_law_652 rfl rfl ?_
  refine J_iload_n (i := 3) (j := 0) dL_law_653 rfl rfl ?_
  refine J_iconst (v := 3) dL_law_654 (by decide) ?_
  refine J_iadd dL_law_655 ?_
  refine J_ci (v := 3) (by decide) ?_
  refine J_cald (z := 8) (f := xs) dL_law_656 hcon (vp_c (by decide)) ?_
  refine J_callV (As := [.int (xs (1 : Int32).toNatClampNeg), .int (xs (2 : Int32).toNatClampNeg), .int (xs (3 : Int32).toNatClampNeg)]) (rest := []) dL_law_657 (c_X10_mean0 (d := 3) (h := h) (a0 := (xs (1 : Int32).toNatClampNeg)) (a1 := (xs (2 : Int32).toNatClampNeg)) (a2 := (xs (3 : Int32).toNatClampNeg)) (by decide) (zx_0 hx) (zx_1 hx)) hN k895 k896 k897 (zx_0 hx) rfl rfl k87 k898 np_X10_mean (Nat.le_trans (by decide) hd) (by decide) (by decide) (by decide) (hk182 hx.1) rfl (Nat.le_of_ble_eq_true rfl) (fun r_1 h_2 p_3 => ?_)
  obtain ⟨rfl, w_4⟩ := p_3
  refine J_w w_4 ?_
  refine J_aload_n (i := 2) (j := 1) dL_law_660 rfl rfl ?_
  refine J_aload_nC (i := 0) (j := 3) dL_law_661 rfl rfl ?_
  refine J_iload_n (i := 3) (j := 0) dL_law_662 rfl rfl ?_
  refine J_iconst (v := 1) dL_law_663 (by decide) ?_
  refine J_iadd dL_law_664 ?_
  refine J_ci (v := 1) (by decide) ?_
  refine J_cald (z := 8) (f := xs) dL_law_665 hcon (vp_c (by decide)) ?_
  refine J_aload_nC (i := 0) (j := 3) dL_law_666 rfl rfl ?_
  refine J_iload_n (i := 3) (j := 0) dL_law_667 rfl rfl ?_
  refine J_iconst (v := 2) dL_law_668 (by decide) ?_
  refine J_iadd dL_law_669 ?_
  refine J_ci (v := 2) (by decide) ?_
  refine J_cald (z := 8) (f := xs) dL_law_670 hcon (vp_c (by decide)) ?_
  refine J_aload_nC (i := 0) (j := 3) dL_law_671 rfl rfl ?_
  refine J_iload_n (i := 3) (j := 0) dL_law_672 rfl rfl ?_
  refine J_iconst (v := 3) dL_law_673 (by decide) ?_
  refine J_iadd dL_law_674 ?_
  refine J_ci (v := 3) (by decide) ?_
  refine J_cald (z := 8) (f := xs) dL_law_675 hcon (vp_c (by decide)) ?_
  refine J_callV (As := [.int (xs (1 : Int32).toNatClampNeg), .int (xs (2 : Int32).toNatClampNeg), .int (xs (3 : Int32).toNatClampNeg)]) (rest := [.long (-1)]) dL_law_676 (c_X11_mean0 (d := 4) (h := h) (a0 := (xs (1 : Int32).toNatClampNeg)) (a1 := (xs (2 : Int32).toNatClampNeg)) (a2 := (xs (3 : Int32).toNatClampNeg)) (by decide) (zm_162 hm) (zm_167 hm)) hN k1589 k1590 k1591 (zm_162 hm) rfl rfl k97 k1592 np_X11_mean (Nat.le_trans (by decide) hd) (by decide) (by decide) (by decide) (hk182 hx.1) rfl (Nat.le_of_ble_eq_true rfl) (fun r_5 h_6 p_7 => ?_)
  obtain rfl := p_7
  refine J_lcmp dL_law_679 ?_
  refine J_ci (v := 0) (by decide) ?_
  refine J_if_eq (tgt := 2268) dL_law_680 (by decide) (fun _ => ?_) (fun q => absurd (by decide) q)
  exact law_tail hq hcon (by decide) (by decide)
set_option maxHeartbeats 4000000 in
set_option maxRecDepth 100000 in
theorem law_11 {x : JX} {bb : Nat} {xs : Nat → Int32} {h : List MC} (hq : LQ x bb) (hN : JN x con0) (hcon : x.2.2.2.2.2.2.2.2.2.2.2.2.2.2.1 0 = some (8, xs)) (hx : ZX h) (hm : ZM h) (hd : 12 ≤ 12) : J x yL_law code 4 ret 12 600000 7302250 0 685 [(3, .int 0), (2, .ref 162), (1, .ref 0), (0, .retAddr 0)] [] h 182 13870 := by
  refine J_aload_n (i := 1) (j := 2) dL_law_685 rfl rfl ?_
  refine J_aload_nC (i := 0) (j := 3) dL_law_686 rfl rfl ?_
  refine J_iload_n (i := 3) (j := 0) dL_law_687 rfl rfl ?_
  refine J_iconst (v := 1) dL_law_688 (by decide) ?_
  refine J_iadd dL_law_689 ?_
  refine J_ci (v := 1) (by decide) ?_
  refine J_cald (z := 8) (f := xs) dL_law_690 hcon (vp_c (by decide)) ?_
  refine J_aload_nC (i := 0) (j := 3) dL_law_691 rfl rfl ?_
  refine J_iload_n (i := 3) (j := 0) dL_law_692 rfl rfl ?_
  refine J_iconst (v := 2) dL_law_693 (by decide) ?_
  refine J_iadd dL_law_694 ?_
  refine J_ci (v := 2) (by decide) ?_
  refine J_cald (z := 8) (f := xs) dL_law_695 hcon (vp_c (by decide)) ?_
  refine J_aload_nC (i := 0) (j := 3) dL_law_696 rfl rfl ?_
  refine J_iload_n (i := 3) (j := 0) dL_law_697 rfl rfl ?_
  refine J_iconst (v := 3) dL_law_698 (by decide) ?_
  refine J_iadd dL_law_699 ?_
  refine J_ci (v := 3) (by decide) ?_
  refine J_cald (z := 8) (f := xs) dL_law_700 hcon (vp_c (by decide)) ?_
  refine J_if_eq (tgt := 708) dL_law_701 (by decide) (fun c_1 => ?_) (fun c_1 => ?_)
  · refine J_iconst (v := 0) dL_law_708 (by decide) ?_
    refine J_callV (As := [.int (xs (1 : Int32).toNatClampNeg), .int (xs (2 : Int32).toNatClampNeg), .int 0]) (rest := []) dL_law_709 (c_X10_rows0 (d := 3) (h := h) (a0 := (xs (1 : Int32).toNatClampNeg)) (a1 := (xs (2 : Int32).toNatClampNeg)) (a2 := 0) (by decide) (zx_0 hx) (zx_1 hx)) hN k911 k912 k913 (zx_0 hx) rfl rfl k87 k914 np_X10_rows (Nat.le_trans (by decide) hd) (by decide) (by decide) (by decide) (hk182 hx.1) rfl (Nat.le_of_ble_eq_true rfl) (fun r_2 h_3 p_4 => ?_)
    obtain ⟨rfl, w_5⟩ := p_4
    refine J_w w_5 ?_
    refine J_aload_n (i := 2) (j := 1) dL_law_712 rfl rfl ?_
    refine J_aload_nC (i := 0) (j := 3) dL_law_713 rfl rfl ?_
    refine J_iload_n (i := 3) (j := 0) dL_law_714 rfl rfl ?_
    refine J_iconst (v := 1) dL_law_715 (by decide) ?_
    refine J_iadd dL_law_716 ?_
    refine J_ci (v := 1) (by decide) ?_
    refine J_cald (z := 8) (f := xs) dL_law_717 hcon (vp_c (by decide)) ?_
    refine J_aload_nC (i := 0) (j := 3) dL_law_718 rfl rfl ?_
    refine J_iload_n (i := 3) (j := 0) dL_law_719 rfl rfl ?_
    refine J_iconst (v := 2) dL_law_720 (by decide) ?_
    refine J_iadd dL_law_721 ?_
    refine J_ci (v := 2) (by decide) ?_
    refine J_cald (z := 8) (f := xs) dL_law_722 hcon (vp_c (by decide)) ?_
    refine J_aload_nC (i := 0) (j := 3) dL_law_723 rfl rfl ?_
    refine J_iload_n (i := 3) (j := 0) dL_law_724 rfl rfl ?_
    refine J_iconst (v := 3) dL_law_725 (by decide) ?_
    refine J_iadd dL_law_726 ?_
    refine J_ci (v := 3) (by decide) ?_
    refine J_cald (z := 8) (f := xs) dL_law_727 hcon (vp_c (by decide)) ?_
    refine J_if_eq (tgt := 735) dL_law_728 (by decide) (fun c_6 => ?_) (fun c_6 => ?_)
    · refine J_iconst (v := 0) dL_law_735 (by decide) ?_
      refine J_callV (As := [.int (xs (1 : Int32).toNatClampNeg), .int (xs (2 : Int32).toNatClampNeg), .int 0]) (rest := [.long (-1)]) dL_law_736 (c_X11_rows0 (d := 4) (h := h) (a0 := (xs (1 : Int32).toNatClampNeg)) (a1 := (xs (2 : Int32).toNatClampNeg)) (a2 := 0) (by decide) (zm_162 hm) (zm_167 hm)) hN k1600 k1601 k1602 (zm_162 hm) rfl rfl k97 k1603 np_X11_rows (Nat.le_trans (by decide) hd) (by decide) (by decide) (by decide) (hk182 hx.1) rfl (Nat.le_of_ble_eq_true rfl) (fun r_7 h_8 p_9 => ?_)
      obtain rfl := p_9
      refine J_lcmp dL_law_739 ?_
      refine J_ci (v := 0) (by decide) ?_
      refine J_if_eq (tgt := 2268) dL_law_740 (by decide) (fun _ => ?_) (fun q => absurd (by decide) q)
      exact law_tail hq hcon (by decide) (by decide)
    · refine J_iconst (v := 1) dL_law_731 (by decide) ?_
      refine J_goto (tgt := 736) dL_law_732 (by decide) ?_
      refine J_callV (As := [.int (xs (1 : Int32).toNatClampNeg), .int (xs (2 : Int32).toNatClampNeg), .int 1]) (rest := [.long (-1)]) dL_law_736 (c_X11_rows0 (d := 4) (h := h) (a0 := (xs (1 : Int32).toNatClampNeg)) (a1 := (xs (2 : Int32).toNatClampNeg)) (a2 := 1) (by decide) (zm_162 hm) (zm_167 hm)) hN k1600 k1601 k1602 (zm_162 hm) rfl rfl k97 k1603 np_X11_rows (Nat.le_trans (by decide) hd) (by decide) (by decide) (by decide) (hk182 hx.1) rfl (Nat.le_of_ble_eq_true rfl) (fun r_10 h_11 p_12 => ?_)
      obtain rfl := p_12
      refine J_lcmp dL_law_739 ?_
      refine J_ci (v := 0) (by decide) ?_
      refine J_if_eq (tgt := 2268) dL_law_740 (by decide) (fun _ => ?_) (fun q => absurd (by decide) q)
      exact law_tail hq hcon (by decide) (by decide)
  · refine J_iconst (v := 1) dL_law_704 (by decide) ?_
    refine J_goto (tgt := 709) dL_law_705 (by decide) ?_
    refine J_callV (As := [.int (xs (1 : Int32).toNatClampNeg), .int (xs (2 : Int32).toNatClampNeg), .int 1]) (rest := []) dL_law_709 (c_X10_rows0 (d := 3) (h := h) (a0 := (xs (1 : Int32).toNatClampNeg)) (a1 := (xs (2 : Int32).toNatClampNeg)) (a2 := 1) (by decide) (zx_0 hx) (zx_1 hx)) hN k911 k912 k913 (zx_0 hx) rfl rfl k87 k914 np_X10_rows (Nat.le_trans (by decide) hd) (by decide) (by decide) (by decide) (hk182 hx.1) rfl (Nat.le_of_ble_eq_true rfl) (fun r_13 h_14 p_15 => ?_)
    obtain ⟨rfl, w_16⟩ := p_15
    refine J_w w_16 ?_
    refine J_aload_n (i := 2) (j := 1) dL_law_712 rfl rfl ?_
    refine J_aload_nC (i := 0) (j := 3) dL_law_713 rfl rfl ?_
    refine J_iload_n (i := 3) (j := 0) dL_law_714 rfl rfl ?_
    refine J_iconst (v := 1) dL_law_715 (by decide) ?_
    refine J_iadd dL_law_716 ?_
    refine J_ci (v := 1) (by decide) ?_
    refine J_cald (z := 8) (f := xs) dL_law_717 hcon (vp_c (by decide)) ?_
    refine J_aload_nC (i := 0) (j := 3) dL_law_718 rfl rfl ?_
    refine J_iload_n (i := 3) (j := 0) dL_law_719 rfl rfl ?_
    refine J_iconst (v := 2) dL_law_720 (by decide) ?_
    refine J_iadd dL_law_721 ?_
    refine J_ci (v := 2) (by decide) ?_
    refine J_cald (z := 8) (f := xs) dL_law_722 hcon (vp_c (by decide)) ?_
    refine J_aload_nC (i := 0) (j := 3) dL_law_723 rfl rfl ?_
    refine J_iload_n (i := 3) (j := 0) dL_law_724 rfl rfl ?_
    refine J_iconst (v := 3) dL_law_725 (by decide) ?_
    refine J_iadd dL_law_726 ?_
    refine J_ci (v := 3) (by decide) ?_
    refine J_cald (z := 8) (f := xs) dL_law_727 hcon (vp_c (by decide)) ?_
    refine J_if_eq (tgt := 735) dL_law_728 (by decide) (fun c_17 => ?_) (fun c_17 => ?_)
    · refine J_iconst (v := 0) dL_law_735 (by decide) ?_
      refine J_callV (As := [.int (xs (1 : Int32).toNatClampNeg), .int (xs (2 : Int32).toNatClampNeg), .int 0]) (rest := [.long (-1)]) dL_law_736 (c_X11_rows0 (d := 4) (h := h) (a0 := (xs (1 : Int32).toNatClampNeg)) (a1 := (xs (2 : Int32).toNatClampNeg)) (a2 := 0) (by decide) (zm_162 hm) (zm_167 hm)) hN k1600 k1601 k1602 (zm_162 hm) rfl rfl k97 k1603 np_X11_rows (Nat.le_trans (by decide) hd) (by decide) (by decide) (by decide) (hk182 hx.1) rfl (Nat.le_of_ble_eq_true rfl) (fun r_18 h_19 p_20 => ?_)
      obtain rfl := p_20
      refine J_lcmp dL_law_739 ?_
      refine J_ci (v := 0) (by decide) ?_
      refine J_if_eq (tgt := 2268) dL_law_740 (by decide) (fun _ => ?_) (fun q => absurd (by decide) q)
      exact law_tail hq hcon (by decide) (by decide)
    · refine J_iconst (v := 1) dL_law_731 (by decide) ?_
      refine J_goto (tgt := 736) dL_law_732 (by decide) ?_
      refine J_callV (As := [.int (xs (1 : Int32).toNatClampNeg), .int (xs (2 : Int32).toNatClampNeg), .int 1]) (rest := [.long (-1)]) dL_law_736 (c_X11_rows0 (d := 4) (h := h) (a0 := (xs (1 : Int32).toNatClampNeg)) (a1 := (xs (2 : Int32).toNatClampNeg)) (a2 := 1) (by decide) (zm_162 hm) (zm_167 hm)) hN k1600 k1601 k1602 (zm_162 hm) rfl rfl k97 k1603 np_X11_rows (Nat.le_trans (by decide) hd) (by decide) (by decide) (by decide) (hk182 hx.1) rfl (Nat.le_of_ble_eq_true rfl) (fun r_21 h_22 p_23 => ?_)
      obtain rfl := p_23
      refine J_lcmp dL_law_739 ?_
      refine J_ci (v := 0) (by decide) ?_
      refine J_if_eq (tgt := 2268) dL_law_740 (by decide) (fun _ => ?_) (fun q => absurd (by decide) q)
      exact law_tail hq hcon (by decide) (by decide)
set_option maxHeartbeats 4000000 in
set_option maxRecDepth 100000 in
theorem law_12 {x : JX} {bb : Nat} {xs : Nat → Int32} {h : List MC} (hq : LQ x bb) (hN : JN x con0) (hcon : x.2.2.2.2.2.2.2.2.2.2.2.2.2.2.1 0 = some (8, xs)) (hx : ZX h) (hm : ZM h) (hd : 12 ≤ 12) : J x yL_law code 4 ret 12 600000 7302250 0 745 [(3, .int 0), (2, .ref 162), (1, .ref 0), (0, .retAddr 0)] [] h 182 13870 := by
  refine J_aload_n (i := 1) (j := 2) dL_law_745 rfl rfl ?_
  refine J_aload_nC (i := 0) (j := 3) dL_law_746 rfl rfl ?_
  refine J_iload_n (i := 3) (j := 0) dL_law_747 rfl rfl ?_
  refine J_iconst (v := 1) dL_law_748 (by decide) ?_
  refine J_iadd dL_law_749 ?_
  refine J_ci (v := 1) (by decide) ?_
  refine J_cald (z := 8) (f := xs) dL_law_750 hcon (vp_c (by decide)) ?_
  refine J_aload_nC (i := 0) (j := 3) dL_law_751 rfl rfl ?_
  refine J_iload_n (i := 3) (j := 0) dL_law_752 rfl rfl ?_
  refine J_iconst (v := 2) dL_law_753 (by decide) ?_
  refine J_iadd dL_law_754 ?_
  refine J_ci (v := 2) (by decide) ?_
  refine J_cald (z := 8) (f := xs) dL_law_755 hcon (vp_c (by decide)) ?_
  refine J_aload_nC (i := 0) (j := 3) dL_law_756 rfl rfl ?_
  refine J_iload_n (i := 3) (j := 0) dL_law_757 rfl rfl ?_
  refine J_iconst (v := 3) dL_law_758 (by decide) ?_
  refine J_iadd dL_law_759 ?_
  refine J_ci (v := 3) (by decide) ?_
  refine J_cald (z := 8) (f := xs) dL_law_760 hcon (vp_c (by decide)) ?_
  refine J_aload_nC (i := 0) (j := 3) dL_law_761 rfl rfl ?_
  refine J_iload_n (i := 3) (j := 0) dL_law_762 rfl rfl ?_
  refine J_iconst (v := 4) dL_law_763 (by decide) ?_
  refine J_iadd dL_law_764 ?_
  refine J_ci (v := 4) (by decide) ?_
  refine J_cald (z := 8) (f := xs) dL_law_765 hcon (vp_c (by decide)) ?_
  refine J_callV (As := [.int (xs (1 : Int32).toNatClampNeg), .int (xs (2 : Int32).toNatClampNeg), .int (xs (3 : Int32).toNatClampNeg), .int (xs (4 : Int32).toNatClampNeg)]) (rest := []) dL_law_766 (c_X10_brings0 (d := 3) (h := h) (a0 := (xs (1 : Int32).toNatClampNeg)) (a1 := (xs (2 : Int32).toNatClampNeg)) (a2 := (xs (3 : Int32).toNatClampNeg)) (a3 := (xs (4 : Int32).toNatClampNeg)) (by decide) (zx_0 hx) (zx_1 hx)) hN k922 k923 k924 (zx_0 hx) rfl rfl k87 k925 np_X10_brings (Nat.le_trans (by decide) hd) (by decide) (by decide) (by decide) (hk182 hx.1) rfl (Nat.le_of_ble_eq_true rfl) (fun r_1 h_2 p_3 => ?_)
  obtain ⟨rfl, w_4⟩ := p_3
  refine J_w w_4 ?_
  refine J_aload_n (i := 2) (j := 1) dL_law_769 rfl rfl ?_
  refine J_aload_nC (i := 0) (j := 3) dL_law_770 rfl rfl ?_
  refine J_iload_n (i := 3) (j := 0) dL_law_771 rfl rfl ?_
  refine J_iconst (v := 1) dL_law_772 (by decide) ?_
  refine J_iadd dL_law_773 ?_
  refine J_ci (v := 1) (by decide) ?_
  refine J_cald (z := 8) (f := xs) dL_law_774 hcon (vp_c (by decide)) ?_
  refine J_aload_nC (i := 0) (j := 3) dL_law_775 rfl rfl ?_
  refine J_iload_n (i := 3) (j := 0) dL_law_776 rfl rfl ?_
  refine J_iconst (v := 2) dL_law_777 (by decide) ?_
  refine J_iadd dL_law_778 ?_
  refine J_ci (v := 2) (by decide) ?_
  refine J_cald (z := 8) (f := xs) dL_law_779 hcon (vp_c (by decide)) ?_
  refine J_aload_nC (i := 0) (j := 3) dL_law_780 rfl rfl ?_
  refine J_iload_n (i := 3) (j := 0) dL_law_781 rfl rfl ?_
  refine J_iconst (v := 3) dL_law_782 (by decide) ?_
  refine J_iadd dL_law_783 ?_
  refine J_ci (v := 3) (by decide) ?_
  refine J_cald (z := 8) (f := xs) dL_law_784 hcon (vp_c (by decide)) ?_
  refine J_aload_nC (i := 0) (j := 3) dL_law_785 rfl rfl ?_
  refine J_iload_n (i := 3) (j := 0) dL_law_786 rfl rfl ?_
  refine J_iconst (v := 4) dL_law_787 (by decide) ?_
  refine J_iadd dL_law_788 ?_
  refine J_ci (v := 4) (by decide) ?_
  refine J_cald (z := 8) (f := xs) dL_law_789 hcon (vp_c (by decide)) ?_
  refine J_callV (As := [.int (xs (1 : Int32).toNatClampNeg), .int (xs (2 : Int32).toNatClampNeg), .int (xs (3 : Int32).toNatClampNeg), .int (xs (4 : Int32).toNatClampNeg)]) (rest := [.int (-1)]) dL_law_790 (c_X11_brings0 (d := 4) (h := h) (a0 := (xs (1 : Int32).toNatClampNeg)) (a1 := (xs (2 : Int32).toNatClampNeg)) (a2 := (xs (3 : Int32).toNatClampNeg)) (a3 := (xs (4 : Int32).toNatClampNeg)) (by decide) (zm_162 hm) (zm_167 hm)) hN k1604 k1605 k1606 (zm_162 hm) rfl rfl k97 k1607 np_X11_brings (Nat.le_trans (by decide) hd) (by decide) (by decide) (by decide) (hk182 hx.1) rfl (Nat.le_of_ble_eq_true rfl) (fun r_5 h_6 p_7 => ?_)
  obtain rfl := p_7
  refine J_icmp_eq (tgt := 2268) dL_law_793 (by decide) (fun _ => ?_) (fun q => absurd (by decide) q)
  exact law_tail hq hcon (by decide) (by decide)
set_option maxHeartbeats 4000000 in
set_option maxRecDepth 100000 in
theorem law_13 {x : JX} {bb : Nat} {xs : Nat → Int32} {h : List MC} (hq : LQ x bb) (hN : JN x con0) (hcon : x.2.2.2.2.2.2.2.2.2.2.2.2.2.2.1 0 = some (8, xs)) (hx : ZX h) (hm : ZM h) (hd : 12 ≤ 12) : J x yL_law code 4 ret 12 600000 7302250 0 798 [(3, .int 0), (2, .ref 162), (1, .ref 0), (0, .retAddr 0)] [] h 182 13870 := by
  refine J_aload_n (i := 1) (j := 2) dL_law_798 rfl rfl ?_
  refine J_aload_nC (i := 0) (j := 3) dL_law_799 rfl rfl ?_
  refine J_iload_n (i := 3) (j := 0) dL_law_800 rfl rfl ?_
  refine J_iconst (v := 1) dL_law_801 (by decide) ?_
  refine J_iadd dL_law_802 ?_
  refine J_ci (v := 1) (by decide) ?_
  refine J_cald (z := 8) (f := xs) dL_law_803 hcon (vp_c (by decide)) ?_
  refine J_aload_nC (i := 0) (j := 3) dL_law_804 rfl rfl ?_
  refine J_iload_n (i := 3) (j := 0) dL_law_805 rfl rfl ?_
  refine J_iconst (v := 2) dL_law_806 (by decide) ?_
  refine J_iadd dL_law_807 ?_
  refine J_ci (v := 2) (by decide) ?_
  refine J_cald (z := 8) (f := xs) dL_law_808 hcon (vp_c (by decide)) ?_
  refine J_aload_nC (i := 0) (j := 3) dL_law_809 rfl rfl ?_
  refine J_iload_n (i := 3) (j := 0) dL_law_810 rfl rfl ?_
  refine J_iconst (v := 3) dL_law_811 (by decide) ?_
  refine J_iadd dL_law_812 ?_
  refine J_ci (v := 3) (by decide) ?_
  refine J_cald (z := 8) (f := xs) dL_law_813 hcon (vp_c (by decide)) ?_
  refine J_aload_nC (i := 0) (j := 3) dL_law_814 rfl rfl ?_
  refine J_iload_n (i := 3) (j := 0) dL_law_815 rfl rfl ?_
  refine J_iconst (v := 4) dL_law_816 (by decide) ?_
  refine J_iadd dL_law_817 ?_
  refine J_ci (v := 4) (by decide) ?_
  refine J_cald (z := 8) (f := xs) dL_law_818 hcon (vp_c (by decide)) ?_
  refine J_callV (As := [.int (xs (1 : Int32).toNatClampNeg), .int (xs (2 : Int32).toNatClampNeg), .int (xs (3 : Int32).toNatClampNeg), .int (xs (4 : Int32).toNatClampNeg)]) (rest := []) dL_law_819 (c_X10_best0 (d := 3) (h := h) (a0 := (xs (1 : Int32).toNatClampNeg)) (a1 := (xs (2 : Int32).toNatClampNeg)) (a2 := (xs (3 : Int32).toNatClampNeg)) (a3 := (xs (4 : Int32).toNatClampNeg)) (by decide) (zx_0 hx) (zx_1 hx)) hN k934 k935 k936 (zx_0 hx) rfl rfl k87 k937 np_X10_best (Nat.le_trans (by decide) hd) (by decide) (by decide) (by decide) (hk182 hx.1) rfl (Nat.le_of_ble_eq_true rfl) (fun r_1 h_2 p_3 => ?_)
  obtain ⟨rfl, w_4⟩ := p_3
  refine J_w w_4 ?_
  refine J_aload_n (i := 2) (j := 1) dL_law_822 rfl rfl ?_
  refine J_aload_nC (i := 0) (j := 3) dL_law_823 rfl rfl ?_
  refine J_iload_n (i := 3) (j := 0) dL_law_824 rfl rfl ?_
  refine J_iconst (v := 1) dL_law_825 (by decide) ?_
  refine J_iadd dL_law_826 ?_
  refine J_ci (v := 1) (by decide) ?_
  refine J_cald (z := 8) (f := xs) dL_law_827 hcon (vp_c (by decide)) ?_
  refine J_aload_nC (i := 0) (j := 3) dL_law_828 rfl rfl ?_
  refine J_iload_n (i := 3) (j := 0) dL_law_829 rfl rfl ?_
  refine J_iconst (v := 2) dL_law_830 (by decide) ?_
  refine J_iadd dL_law_831 ?_
  refine J_ci (v := 2) (by decide) ?_
  refine J_cald (z := 8) (f := xs) dL_law_832 hcon (vp_c (by decide)) ?_
  refine J_aload_nC (i := 0) (j := 3) dL_law_833 rfl rfl ?_
  refine J_iload_n (i := 3) (j := 0) dL_law_834 rfl rfl ?_
  refine J_iconst (v := 3) dL_law_835 (by decide) ?_
  refine J_iadd dL_law_836 ?_
  refine J_ci (v := 3) (by decide) ?_
  refine J_cald (z := 8) (f := xs) dL_law_837 hcon (vp_c (by decide)) ?_
  refine J_aload_nC (i := 0) (j := 3) dL_law_838 rfl rfl ?_
  refine J_iload_n (i := 3) (j := 0) dL_law_839 rfl rfl ?_
  refine J_iconst (v := 4) dL_law_840 (by decide) ?_
  refine J_iadd dL_law_841 ?_
  refine J_ci (v := 4) (by decide) ?_
  refine J_cald (z := 8) (f := xs) dL_law_842 hcon (vp_c (by decide)) ?_
  refine J_callV (As := [.int (xs (1 : Int32).toNatClampNeg), .int (xs (2 : Int32).toNatClampNeg), .int (xs (3 : Int32).toNatClampNeg), .int (xs (4 : Int32).toNatClampNeg)]) (rest := [.int (-1)]) dL_law_843 (c_X11_best0 (d := 4) (h := h) (a0 := (xs (1 : Int32).toNatClampNeg)) (a1 := (xs (2 : Int32).toNatClampNeg)) (a2 := (xs (3 : Int32).toNatClampNeg)) (a3 := (xs (4 : Int32).toNatClampNeg)) (by decide) (zm_162 hm) (zm_167 hm)) hN k1611 k1612 k1613 (zm_162 hm) rfl rfl k97 k1614 np_X11_best (Nat.le_trans (by decide) hd) (by decide) (by decide) (by decide) (hk182 hx.1) rfl (Nat.le_of_ble_eq_true rfl) (fun r_5 h_6 p_7 => ?_)
  obtain rfl := p_7
  refine J_icmp_eq (tgt := 2268) dL_law_846 (by decide) (fun _ => ?_) (fun q => absurd (by decide) q)
  exact law_tail hq hcon (by decide) (by decide)
set_option maxHeartbeats 4000000 in
set_option maxRecDepth 100000 in
theorem law_14 {x : JX} {bb : Nat} {xs : Nat → Int32} {h : List MC} (hq : LQ x bb) (hN : JN x con0) (hcon : x.2.2.2.2.2.2.2.2.2.2.2.2.2.2.1 0 = some (8, xs)) (hx : ZX h) (hm : ZM h) (hd : 12 ≤ 12) : J x yL_law code 4 ret 12 600000 7302250 0 851 [(3, .int 0), (2, .ref 162), (1, .ref 0), (0, .retAddr 0)] [] h 182 13870 := by
  refine J_aload_n (i := 1) (j := 2) dL_law_851 rfl rfl ?_
  refine J_aload_nC (i := 0) (j := 3) dL_law_852 rfl rfl ?_
  refine J_iload_n (i := 3) (j := 0) dL_law_853 rfl rfl ?_
  refine J_iconst (v := 1) dL_law_854 (by decide) ?_
  refine J_iadd dL_law_855 ?_
  refine J_ci (v := 1) (by decide) ?_
  refine J_cald (z := 8) (f := xs) dL_law_856 hcon (vp_c (by decide)) ?_
  refine J_aload_nC (i := 0) (j := 3) dL_law_857 rfl rfl ?_
  refine J_iload_n (i := 3) (j := 0) dL_law_858 rfl rfl ?_
  refine J_iconst (v := 2) dL_law_859 (by decide) ?_
  refine J_iadd dL_law_860 ?_
  refine J_ci (v := 2) (by decide) ?_
  refine J_cald (z := 8) (f := xs) dL_law_861 hcon (vp_c (by decide)) ?_
  refine J_aload_nC (i := 0) (j := 3) dL_law_862 rfl rfl ?_
  refine J_iload_n (i := 3) (j := 0) dL_law_863 rfl rfl ?_
  refine J_iconst (v := 3) dL_law_864 (by decide) ?_
  refine J_iadd dL_law_865 ?_
  refine J_ci (v := 3) (by decide) ?_
  refine J_cald (z := 8) (f := xs) dL_law_866 hcon (vp_c (by decide)) ?_
  refine J_aload_nC (i := 0) (j := 3) dL_law_867 rfl rfl ?_
  refine J_iload_n (i := 3) (j := 0) dL_law_868 rfl rfl ?_
  refine J_iconst (v := 4) dL_law_869 (by decide) ?_
  refine J_iadd dL_law_870 ?_
  refine J_ci (v := 4) (by decide) ?_
  refine J_cald (z := 8) (f := xs) dL_law_871 hcon (vp_c (by decide)) ?_
  refine J_callV (As := [.int (xs (1 : Int32).toNatClampNeg), .int (xs (2 : Int32).toNatClampNeg), .int (xs (3 : Int32).toNatClampNeg), .int (xs (4 : Int32).toNatClampNeg)]) (rest := []) dL_law_872 (c_X10_steps0 (d := 3) (h := h) (a0 := (xs (1 : Int32).toNatClampNeg)) (a1 := (xs (2 : Int32).toNatClampNeg)) (a2 := (xs (3 : Int32).toNatClampNeg)) (a3 := (xs (4 : Int32).toNatClampNeg)) (by decide) (zx_0 hx) (zx_1 hx)) hN k960 k961 k962 (zx_0 hx) rfl rfl k87 k963 np_X10_steps (Nat.le_trans (by decide) hd) (by decide) (by decide) (by decide) (hk182 hx.1) rfl (Nat.le_of_ble_eq_true rfl) (fun r_1 h_2 p_3 => ?_)
  obtain ⟨rfl, w_4⟩ := p_3
  refine J_w w_4 ?_
  refine J_aload_n (i := 2) (j := 1) dL_law_875 rfl rfl ?_
  refine J_aload_nC (i := 0) (j := 3) dL_law_876 rfl rfl ?_
  refine J_iload_n (i := 3) (j := 0) dL_law_877 rfl rfl ?_
  refine J_iconst (v := 1) dL_law_878 (by decide) ?_
  refine J_iadd dL_law_879 ?_
  refine J_ci (v := 1) (by decide) ?_
  refine J_cald (z := 8) (f := xs) dL_law_880 hcon (vp_c (by decide)) ?_
  refine J_aload_nC (i := 0) (j := 3) dL_law_881 rfl rfl ?_
  refine J_iload_n (i := 3) (j := 0) dL_law_882 rfl rfl ?_
  refine J_iconst (v := 2) dL_law_883 (by decide) ?_
  refine J_iadd dL_law_884 ?_
  refine J_ci (v := 2) (by decide) ?_
  refine J_cald (z := 8) (f := xs) dL_law_885 hcon (vp_c (by decide)) ?_
  refine J_aload_nC (i := 0) (j := 3) dL_law_886 rfl rfl ?_
  refine J_iload_n (i := 3) (j := 0) dL_law_887 rfl rfl ?_
  refine J_iconst (v := 3) dL_law_888 (by decide) ?_
  refine J_iadd dL_law_889 ?_
  refine J_ci (v := 3) (by decide) ?_
  refine J_cald (z := 8) (f := xs) dL_law_890 hcon (vp_c (by decide)) ?_
  refine J_aload_nC (i := 0) (j := 3) dL_law_891 rfl rfl ?_
  refine J_iload_n (i := 3) (j := 0) dL_law_892 rfl rfl ?_
  refine J_iconst (v := 4) dL_law_893 (by decide) ?_
  refine J_iadd dL_law_894 ?_
  refine J_ci (v := 4) (by decide) ?_
  refine J_cald (z := 8) (f := xs) dL_law_895 hcon (vp_c (by decide)) ?_
  refine J_callV (As := [.int (xs (1 : Int32).toNatClampNeg), .int (xs (2 : Int32).toNatClampNeg), .int (xs (3 : Int32).toNatClampNeg), .int (xs (4 : Int32).toNatClampNeg)]) (rest := [.int (-1)]) dL_law_896 (c_X11_steps0 (d := 4) (h := h) (a0 := (xs (1 : Int32).toNatClampNeg)) (a1 := (xs (2 : Int32).toNatClampNeg)) (a2 := (xs (3 : Int32).toNatClampNeg)) (a3 := (xs (4 : Int32).toNatClampNeg)) (by decide) (zm_162 hm) (zm_167 hm)) hN k1635 k1636 k1637 (zm_162 hm) rfl rfl k97 k1638 np_X11_steps (Nat.le_trans (by decide) hd) (by decide) (by decide) (by decide) (hk182 hx.1) rfl (Nat.le_of_ble_eq_true rfl) (fun r_5 h_6 p_7 => ?_)
  obtain rfl := p_7
  refine J_icmp_eq (tgt := 2268) dL_law_899 (by decide) (fun _ => ?_) (fun q => absurd (by decide) q)
  exact law_tail hq hcon (by decide) (by decide)
set_option maxHeartbeats 4000000 in
set_option maxRecDepth 100000 in
theorem law_15 {x : JX} {bb : Nat} {xs : Nat → Int32} {h : List MC} (hq : LQ x bb) (hN : JN x con0) (hcon : x.2.2.2.2.2.2.2.2.2.2.2.2.2.2.1 0 = some (8, xs)) (hx : ZX h) (hm : ZM h) (hd : 12 ≤ 12) : J x yL_law code 4 ret 12 600000 7302250 0 904 [(3, .int 0), (2, .ref 162), (1, .ref 0), (0, .retAddr 0)] [] h 182 13870 := by
  refine J_aload_n (i := 1) (j := 2) dL_law_904 rfl rfl ?_
  refine J_aload_nC (i := 0) (j := 3) dL_law_905 rfl rfl ?_
  refine J_iload_n (i := 3) (j := 0) dL_law_906 rfl rfl ?_
  refine J_iconst (v := 1) dL_law_907 (by decide) ?_
  refine J_iadd dL_law_908 ?_
  refine J_ci (v := 1) (by decide) ?_
  refine J_cald (z := 8) (f := xs) dL_law_909 hcon (vp_c (by decide)) ?_
  refine J_aload_nC (i := 0) (j := 3) dL_law_910 rfl rfl ?_
  refine J_iload_n (i := 3) (j := 0) dL_law_911 rfl rfl ?_
  refine J_iconst (v := 2) dL_law_912 (by decide) ?_
  refine J_iadd dL_law_913 ?_
  refine J_ci (v := 2) (by decide) ?_
  refine J_cald (z := 8) (f := xs) dL_law_914 hcon (vp_c (by decide)) ?_
  refine J_aload_nC (i := 0) (j := 3) dL_law_915 rfl rfl ?_
  refine J_iload_n (i := 3) (j := 0) dL_law_916 rfl rfl ?_
  refine J_iconst (v := 3) dL_law_917 (by decide) ?_
  refine J_iadd dL_law_918 ?_
  refine J_ci (v := 3) (by decide) ?_
  refine J_cald (z := 8) (f := xs) dL_law_919 hcon (vp_c (by decide)) ?_
  refine J_callV (As := [.int (xs (1 : Int32).toNatClampNeg), .int (xs (2 : Int32).toNatClampNeg), .int (xs (3 : Int32).toNatClampNeg)]) (rest := []) dL_law_920 (c_X10_mended0 (d := 3) (h := h) (a0 := (xs (1 : Int32).toNatClampNeg)) (a1 := (xs (2 : Int32).toNatClampNeg)) (a2 := (xs (3 : Int32).toNatClampNeg)) (by decide) (zx_0 hx) (zx_1 hx)) hN k981 k982 k983 (zx_0 hx) rfl rfl k87 k984 np_X10_mended (Nat.le_trans (by decide) hd) (by decide) (by decide) (by decide) (hk182 hx.1) rfl (Nat.le_of_ble_eq_true rfl) (fun r_1 h_2 p_3 => ?_)
  obtain ⟨rfl, w_4⟩ := p_3
  refine J_w w_4 ?_
  refine J_aload_n (i := 2) (j := 1) dL_law_923 rfl rfl ?_
  refine J_aload_nC (i := 0) (j := 3) dL_law_924 rfl rfl ?_
  refine J_iload_n (i := 3) (j := 0) dL_law_925 rfl rfl ?_
  refine J_iconst (v := 1) dL_law_926 (by decide) ?_
  refine J_iadd dL_law_927 ?_
  refine J_ci (v := 1) (by decide) ?_
  refine J_cald (z := 8) (f := xs) dL_law_928 hcon (vp_c (by decide)) ?_
  refine J_aload_nC (i := 0) (j := 3) dL_law_929 rfl rfl ?_
  refine J_iload_n (i := 3) (j := 0) dL_law_930 rfl rfl ?_
  refine J_iconst (v := 2) dL_law_931 (by decide) ?_
  refine J_iadd dL_law_932 ?_
  refine J_ci (v := 2) (by decide) ?_
  refine J_cald (z := 8) (f := xs) dL_law_933 hcon (vp_c (by decide)) ?_
  refine J_aload_nC (i := 0) (j := 3) dL_law_934 rfl rfl ?_
  refine J_iload_n (i := 3) (j := 0) dL_law_935 rfl rfl ?_
  refine J_iconst (v := 3) dL_law_936 (by decide) ?_
  refine J_iadd dL_law_937 ?_
  refine J_ci (v := 3) (by decide) ?_
  refine J_cald (z := 8) (f := xs) dL_law_938 hcon (vp_c (by decide)) ?_
  refine J_callV (As := [.int (xs (1 : Int32).toNatClampNeg), .int (xs (2 : Int32).toNatClampNeg), .int (xs (3 : Int32).toNatClampNeg)]) (rest := [.long (-1)]) dL_law_939 (c_X11_mended0 (d := 4) (h := h) (a0 := (xs (1 : Int32).toNatClampNeg)) (a1 := (xs (2 : Int32).toNatClampNeg)) (a2 := (xs (3 : Int32).toNatClampNeg)) (by decide) (zm_162 hm) (zm_167 hm)) hN k1646 k1647 k1648 (zm_162 hm) rfl rfl k97 k1649 np_X11_mended (Nat.le_trans (by decide) hd) (by decide) (by decide) (by decide) (hk182 hx.1) rfl (Nat.le_of_ble_eq_true rfl) (fun r_5 h_6 p_7 => ?_)
  obtain rfl := p_7
  refine J_lcmp dL_law_942 ?_
  refine J_ci (v := 0) (by decide) ?_
  refine J_if_eq (tgt := 2268) dL_law_943 (by decide) (fun _ => ?_) (fun q => absurd (by decide) q)
  exact law_tail hq hcon (by decide) (by decide)
set_option maxHeartbeats 4000000 in
set_option maxRecDepth 100000 in
theorem law_16 {x : JX} {bb : Nat} {xs : Nat → Int32} {h : List MC} (hq : LQ x bb) (hN : JN x con0) (hcon : x.2.2.2.2.2.2.2.2.2.2.2.2.2.2.1 0 = some (8, xs)) (hx : ZX h) (hm : ZM h) (hd : 12 ≤ 12) : J x yL_law code 4 ret 12 600000 7302250 0 948 [(3, .int 0), (2, .ref 162), (1, .ref 0), (0, .retAddr 0)] [] h 182 13870 := by
  refine J_aload_n (i := 1) (j := 2) dL_law_948 rfl rfl ?_
  refine J_aload_nC (i := 0) (j := 3) dL_law_949 rfl rfl ?_
  refine J_iload_n (i := 3) (j := 0) dL_law_950 rfl rfl ?_
  refine J_iconst (v := 1) dL_law_951 (by decide) ?_
  refine J_iadd dL_law_952 ?_
  refine J_ci (v := 1) (by decide) ?_
  refine J_cald (z := 8) (f := xs) dL_law_953 hcon (vp_c (by decide)) ?_
  refine J_aload_nC (i := 0) (j := 3) dL_law_954 rfl rfl ?_
  refine J_iload_n (i := 3) (j := 0) dL_law_955 rfl rfl ?_
  refine J_iconst (v := 2) dL_law_956 (by decide) ?_
  refine J_iadd dL_law_957 ?_
  refine J_ci (v := 2) (by decide) ?_
  refine J_cald (z := 8) (f := xs) dL_law_958 hcon (vp_c (by decide)) ?_
  refine J_aload_nC (i := 0) (j := 3) dL_law_959 rfl rfl ?_
  refine J_iload_n (i := 3) (j := 0) dL_law_960 rfl rfl ?_
  refine J_iconst (v := 3) dL_law_961 (by decide) ?_
  refine J_iadd dL_law_962 ?_
  refine J_ci (v := 3) (by decide) ?_
  refine J_cald (z := 8) (f := xs) dL_law_963 hcon (vp_c (by decide)) ?_
  refine J_if_eq (tgt := 971) dL_law_964 (by decide) (fun c_1 => ?_) (fun c_1 => ?_)
  · refine J_iconst (v := 0) dL_law_971 (by decide) ?_
    refine J_callV (As := [.int (xs (1 : Int32).toNatClampNeg), .int (xs (2 : Int32).toNatClampNeg), .int 0]) (rest := []) dL_law_972 (c_X10_one0 (d := 3) (h := h) (a0 := (xs (1 : Int32).toNatClampNeg)) (a1 := (xs (2 : Int32).toNatClampNeg)) (a2 := 0) (by decide) (zx_0 hx) (zx_1 hx)) hN k986 k987 k988 (zx_0 hx) rfl rfl k87 k989 np_X10_one (Nat.le_trans (by decide) hd) (by decide) (by decide) (by decide) (hk182 hx.1) rfl (Nat.le_of_ble_eq_true rfl) (fun r_2 h_3 p_4 => ?_)
    obtain ⟨rfl, w_5⟩ := p_4
    refine J_w w_5 ?_
    refine J_aload_n (i := 2) (j := 1) dL_law_975 rfl rfl ?_
    refine J_aload_nC (i := 0) (j := 3) dL_law_976 rfl rfl ?_
    refine J_iload_n (i := 3) (j := 0) dL_law_977 rfl rfl ?_
    refine J_iconst (v := 1) dL_law_978 (by decide) ?_
    refine J_iadd dL_law_979 ?_
    refine J_ci (v := 1) (by decide) ?_
    refine J_cald (z := 8) (f := xs) dL_law_980 hcon (vp_c (by decide)) ?_
    refine J_aload_nC (i := 0) (j := 3) dL_law_981 rfl rfl ?_
    refine J_iload_n (i := 3) (j := 0) dL_law_982 rfl rfl ?_
    refine J_iconst (v := 2) dL_law_983 (by decide) ?_
    refine J_iadd dL_law_984 ?_
    refine J_ci (v := 2) (by decide) ?_
    refine J_cald (z := 8) (f := xs) dL_law_985 hcon (vp_c (by decide)) ?_
    refine J_aload_nC (i := 0) (j := 3) dL_law_986 rfl rfl ?_
    refine J_iload_n (i := 3) (j := 0) dL_law_987 rfl rfl ?_
    refine J_iconst (v := 3) dL_law_988 (by decide) ?_
    refine J_iadd dL_law_989 ?_
    refine J_ci (v := 3) (by decide) ?_
    refine J_cald (z := 8) (f := xs) dL_law_990 hcon (vp_c (by decide)) ?_
    refine J_if_eq (tgt := 998) dL_law_991 (by decide) (fun c_6 => ?_) (fun c_6 => ?_)
    · refine J_iconst (v := 0) dL_law_998 (by decide) ?_
      refine J_callV (As := [.int (xs (1 : Int32).toNatClampNeg), .int (xs (2 : Int32).toNatClampNeg), .int 0]) (rest := [.long (-1)]) dL_law_999 (c_X11_one0 (d := 4) (h := h) (a0 := (xs (1 : Int32).toNatClampNeg)) (a1 := (xs (2 : Int32).toNatClampNeg)) (a2 := 0) (by decide) (zm_162 hm) (zm_167 hm)) hN k1650 k1651 k1652 (zm_162 hm) rfl rfl k97 k1653 np_X11_one (Nat.le_trans (by decide) hd) (by decide) (by decide) (by decide) (hk182 hx.1) rfl (Nat.le_of_ble_eq_true rfl) (fun r_7 h_8 p_9 => ?_)
      obtain rfl := p_9
      refine J_lcmp dL_law_1002 ?_
      refine J_ci (v := 0) (by decide) ?_
      refine J_if_eq (tgt := 2268) dL_law_1003 (by decide) (fun _ => ?_) (fun q => absurd (by decide) q)
      exact law_tail hq hcon (by decide) (by decide)
    · refine J_iconst (v := 1) dL_law_994 (by decide) ?_
      refine J_goto (tgt := 999) dL_law_995 (by decide) ?_
      refine J_callV (As := [.int (xs (1 : Int32).toNatClampNeg), .int (xs (2 : Int32).toNatClampNeg), .int 1]) (rest := [.long (-1)]) dL_law_999 (c_X11_one0 (d := 4) (h := h) (a0 := (xs (1 : Int32).toNatClampNeg)) (a1 := (xs (2 : Int32).toNatClampNeg)) (a2 := 1) (by decide) (zm_162 hm) (zm_167 hm)) hN k1650 k1651 k1652 (zm_162 hm) rfl rfl k97 k1653 np_X11_one (Nat.le_trans (by decide) hd) (by decide) (by decide) (by decide) (hk182 hx.1) rfl (Nat.le_of_ble_eq_true rfl) (fun r_10 h_11 p_12 => ?_)
      obtain rfl := p_12
      refine J_lcmp dL_law_1002 ?_
      refine J_ci (v := 0) (by decide) ?_
      refine J_if_eq (tgt := 2268) dL_law_1003 (by decide) (fun _ => ?_) (fun q => absurd (by decide) q)
      exact law_tail hq hcon (by decide) (by decide)
  · refine J_iconst (v := 1) dL_law_967 (by decide) ?_
    refine J_goto (tgt := 972) dL_law_968 (by decide) ?_
    refine J_callV (As := [.int (xs (1 : Int32).toNatClampNeg), .int (xs (2 : Int32).toNatClampNeg), .int 1]) (rest := []) dL_law_972 (c_X10_one0 (d := 3) (h := h) (a0 := (xs (1 : Int32).toNatClampNeg)) (a1 := (xs (2 : Int32).toNatClampNeg)) (a2 := 1) (by decide) (zx_0 hx) (zx_1 hx)) hN k986 k987 k988 (zx_0 hx) rfl rfl k87 k989 np_X10_one (Nat.le_trans (by decide) hd) (by decide) (by decide) (by decide) (hk182 hx.1) rfl (Nat.le_of_ble_eq_true rfl) (fun r_13 h_14 p_15 => ?_)
    obtain ⟨rfl, w_16⟩ := p_15
    refine J_w w_16 ?_
    refine J_aload_n (i := 2) (j := 1) dL_law_975 rfl rfl ?_
    refine J_aload_nC (i := 0) (j := 3) dL_law_976 rfl rfl ?_
    refine J_iload_n (i := 3) (j := 0) dL_law_977 rfl rfl ?_
    refine J_iconst (v := 1) dL_law_978 (by decide) ?_
    refine J_iadd dL_law_979 ?_
    refine J_ci (v := 1) (by decide) ?_
    refine J_cald (z := 8) (f := xs) dL_law_980 hcon (vp_c (by decide)) ?_
    refine J_aload_nC (i := 0) (j := 3) dL_law_981 rfl rfl ?_
    refine J_iload_n (i := 3) (j := 0) dL_law_982 rfl rfl ?_
    refine J_iconst (v := 2) dL_law_983 (by decide) ?_
    refine J_iadd dL_law_984 ?_
    refine J_ci (v := 2) (by decide) ?_
    refine J_cald (z := 8) (f := xs) dL_law_985 hcon (vp_c (by decide)) ?_
    refine J_aload_nC (i := 0) (j := 3) dL_law_986 rfl rfl ?_
    refine J_iload_n (i := 3) (j := 0) dL_law_987 rfl rfl ?_
    refine J_iconst (v := 3) dL_law_988 (by decide) ?_
    refine J_iadd dL_law_989 ?_
    refine J_ci (v := 3) (by decide) ?_
    refine J_cald (z := 8) (f := xs) dL_law_990 hcon (vp_c (by decide)) ?_
    refine J_if_eq (tgt := 998) dL_law_991 (by decide) (fun c_17 => ?_) (fun c_17 => ?_)
    · refine J_iconst (v := 0) dL_law_998 (by decide) ?_
      refine J_callV (As := [.int (xs (1 : Int32).toNatClampNeg), .int (xs (2 : Int32).toNatClampNeg), .int 0]) (rest := [.long (-1)]) dL_law_999 (c_X11_one0 (d := 4) (h := h) (a0 := (xs (1 : Int32).toNatClampNeg)) (a1 := (xs (2 : Int32).toNatClampNeg)) (a2 := 0) (by decide) (zm_162 hm) (zm_167 hm)) hN k1650 k1651 k1652 (zm_162 hm) rfl rfl k97 k1653 np_X11_one (Nat.le_trans (by decide) hd) (by decide) (by decide) (by decide) (hk182 hx.1) rfl (Nat.le_of_ble_eq_true rfl) (fun r_18 h_19 p_20 => ?_)
      obtain rfl := p_20
      refine J_lcmp dL_law_1002 ?_
      refine J_ci (v := 0) (by decide) ?_
      refine J_if_eq (tgt := 2268) dL_law_1003 (by decide) (fun _ => ?_) (fun q => absurd (by decide) q)
      exact law_tail hq hcon (by decide) (by decide)
    · refine J_iconst (v := 1) dL_law_994 (by decide) ?_
      refine J_goto (tgt := 999) dL_law_995 (by decide) ?_
      refine J_callV (As := [.int (xs (1 : Int32).toNatClampNeg), .int (xs (2 : Int32).toNatClampNeg), .int 1]) (rest := [.long (-1)]) dL_law_999 (c_X11_one0 (d := 4) (h := h) (a0 := (xs (1 : Int32).toNatClampNeg)) (a1 := (xs (2 : Int32).toNatClampNeg)) (a2 := 1) (by decide) (zm_162 hm) (zm_167 hm)) hN k1650 k1651 k1652 (zm_162 hm) rfl rfl k97 k1653 np_X11_one (Nat.le_trans (by decide) hd) (by decide) (by decide) (by decide) (hk182 hx.1) rfl (Nat.le_of_ble_eq_true rfl) (fun r_21 h_22 p_23 => ?_)
      obtain rfl := p_23
      refine J_lcmp dL_law_1002 ?_
      refine J_ci (v := 0) (by decide) ?_
      refine J_if_eq (tgt := 2268) dL_law_1003 (by decide) (fun _ => ?_) (fun q => absurd (by decide) q)
      exact law_tail hq hcon (by decide) (by decide)
set_option maxHeartbeats 4000000 in
set_option maxRecDepth 100000 in
theorem law_17 {x : JX} {bb : Nat} {xs : Nat → Int32} {h : List MC} (hq : LQ x bb) (hN : JN x con0) (hcon : x.2.2.2.2.2.2.2.2.2.2.2.2.2.2.1 0 = some (8, xs)) (hx : ZX h) (hm : ZM h) (hd : 12 ≤ 12) : J x yL_law code 4 ret 12 600000 7302250 0 1008 [(3, .int 0), (2, .ref 162), (1, .ref 0), (0, .retAddr 0)] [] h 182 13870 := by
  refine J_aload_n (i := 1) (j := 2) dL_law_1008 rfl rfl ?_
  refine J_aload_nC (i := 0) (j := 3) dL_law_1009 rfl rfl ?_
  refine J_iload_n (i := 3) (j := 0) dL_law_1010 rfl rfl ?_
  refine J_iconst (v := 1) dL_law_1011 (by decide) ?_
  refine J_iadd dL_law_1012 ?_
  refine J_ci (v := 1) (by decide) ?_
  refine J_cald (z := 8) (f := xs) dL_law_1013 hcon (vp_c (by decide)) ?_
  refine J_aload_nC (i := 0) (j := 3) dL_law_1014 rfl rfl ?_
  refine J_iload_n (i := 3) (j := 0) dL_law_1015 rfl rfl ?_
  refine J_iconst (v := 2) dL_law_1016 (by decide) ?_
  refine J_iadd dL_law_1017 ?_
  refine J_ci (v := 2) (by decide) ?_
  refine J_cald (z := 8) (f := xs) dL_law_1018 hcon (vp_c (by decide)) ?_
  refine J_aload_nC (i := 0) (j := 3) dL_law_1019 rfl rfl ?_
  refine J_iload_n (i := 3) (j := 0) dL_law_1020 rfl rfl ?_
  refine J_iconst (v := 3) dL_law_1021 (by decide) ?_
  refine J_iadd dL_law_1022 ?_
  refine J_ci (v := 3) (by decide) ?_
  refine J_cald (z := 8) (f := xs) dL_law_1023 hcon (vp_c (by decide)) ?_
  refine J_callV (As := [.int (xs (1 : Int32).toNatClampNeg), .int (xs (2 : Int32).toNatClampNeg), .int (xs (3 : Int32).toNatClampNeg)]) (rest := []) dL_law_1024 (c_X10_low0 (d := 3) (h := h) (a0 := (xs (1 : Int32).toNatClampNeg)) (a1 := (xs (2 : Int32).toNatClampNeg)) (a2 := (xs (3 : Int32).toNatClampNeg)) (by decide) (zx_0 hx) (zx_1 hx)) hN k1001 k1002 k1003 (zx_0 hx) rfl rfl k87 k1004 np_X10_low (Nat.le_trans (by decide) hd) (by decide) (by decide) (by decide) (hk182 hx.1) rfl (Nat.le_of_ble_eq_true rfl) (fun r_1 h_2 p_3 => ?_)
  obtain ⟨rfl, w_4⟩ := p_3
  refine J_w w_4 ?_
  refine J_aload_n (i := 2) (j := 1) dL_law_1027 rfl rfl ?_
  refine J_aload_nC (i := 0) (j := 3) dL_law_1028 rfl rfl ?_
  refine J_iload_n (i := 3) (j := 0) dL_law_1029 rfl rfl ?_
  refine J_iconst (v := 1) dL_law_1030 (by decide) ?_
  refine J_iadd dL_law_1031 ?_
  refine J_ci (v := 1) (by decide) ?_
  refine J_cald (z := 8) (f := xs) dL_law_1032 hcon (vp_c (by decide)) ?_
  refine J_aload_nC (i := 0) (j := 3) dL_law_1033 rfl rfl ?_
  refine J_iload_n (i := 3) (j := 0) dL_law_1034 rfl rfl ?_
  refine J_iconst (v := 2) dL_law_1035 (by decide) ?_
  refine J_iadd dL_law_1036 ?_
  refine J_ci (v := 2) (by decide) ?_
  refine J_cald (z := 8) (f := xs) dL_law_1037 hcon (vp_c (by decide)) ?_
  refine J_aload_nC (i := 0) (j := 3) dL_law_1038 rfl rfl ?_
  refine J_iload_n (i := 3) (j := 0) dL_law_1039 rfl rfl ?_
  refine J_iconst (v := 3) dL_law_1040 (by decide) ?_
  refine J_iadd dL_law_1041 ?_
  refine J_ci (v := 3) (by decide) ?_
  refine J_cald (z := 8) (f := xs) dL_law_1042 hcon (vp_c (by decide)) ?_
  refine J_callV (As := [.int (xs (1 : Int32).toNatClampNeg), .int (xs (2 : Int32).toNatClampNeg), .int (xs (3 : Int32).toNatClampNeg)]) (rest := [.int (-1)]) dL_law_1043 (c_X11_low0 (d := 4) (h := h) (a0 := (xs (1 : Int32).toNatClampNeg)) (a1 := (xs (2 : Int32).toNatClampNeg)) (a2 := (xs (3 : Int32).toNatClampNeg)) (by decide) (zm_162 hm) (zm_167 hm)) hN k1654 k1655 k1656 (zm_162 hm) rfl rfl k97 k1657 np_X11_low (Nat.le_trans (by decide) hd) (by decide) (by decide) (by decide) (hk182 hx.1) rfl (Nat.le_of_ble_eq_true rfl) (fun r_5 h_6 p_7 => ?_)
  obtain rfl := p_7
  refine J_icmp_eq (tgt := 2268) dL_law_1046 (by decide) (fun _ => ?_) (fun q => absurd (by decide) q)
  exact law_tail hq hcon (by decide) (by decide)
set_option maxHeartbeats 4000000 in
set_option maxRecDepth 100000 in
theorem law_18 {x : JX} {bb : Nat} {xs : Nat → Int32} {h : List MC} (hq : LQ x bb) (hN : JN x con0) (hcon : x.2.2.2.2.2.2.2.2.2.2.2.2.2.2.1 0 = some (8, xs)) (hx : ZX h) (hm : ZM h) (hd : 12 ≤ 12) : J x yL_law code 4 ret 12 600000 7302250 0 1051 [(3, .int 0), (2, .ref 162), (1, .ref 0), (0, .retAddr 0)] [] h 182 13870 := by
  refine J_aload_n (i := 1) (j := 2) dL_law_1051 rfl rfl ?_
  refine J_aload_nC (i := 0) (j := 3) dL_law_1052 rfl rfl ?_
  refine J_iload_n (i := 3) (j := 0) dL_law_1053 rfl rfl ?_
  refine J_iconst (v := 1) dL_law_1054 (by decide) ?_
  refine J_iadd dL_law_1055 ?_
  refine J_ci (v := 1) (by decide) ?_
  refine J_cald (z := 8) (f := xs) dL_law_1056 hcon (vp_c (by decide)) ?_
  refine J_aload_nC (i := 0) (j := 3) dL_law_1057 rfl rfl ?_
  refine J_iload_n (i := 3) (j := 0) dL_law_1058 rfl rfl ?_
  refine J_iconst (v := 2) dL_law_1059 (by decide) ?_
  refine J_iadd dL_law_1060 ?_
  refine J_ci (v := 2) (by decide) ?_
  refine J_cald (z := 8) (f := xs) dL_law_1061 hcon (vp_c (by decide)) ?_
  refine J_aload_nC (i := 0) (j := 3) dL_law_1062 rfl rfl ?_
  refine J_iload_n (i := 3) (j := 0) dL_law_1063 rfl rfl ?_
  refine J_iconst (v := 3) dL_law_1064 (by decide) ?_
  refine J_iadd dL_law_1065 ?_
  refine J_ci (v := 3) (by decide) ?_
  refine J_cald (z := 8) (f := xs) dL_law_1066 hcon (vp_c (by decide)) ?_
  refine J_aload_nC (i := 0) (j := 3) dL_law_1067 rfl rfl ?_
  refine J_iload_n (i := 3) (j := 0) dL_law_1068 rfl rfl ?_
  refine J_iconst (v := 4) dL_law_1069 (by decide) ?_
  refine J_iadd dL_law_1070 ?_
  refine J_ci (v := 4) (by decide) ?_
  refine J_cald (z := 8) (f := xs) dL_law_1071 hcon (vp_c (by decide)) ?_
  refine J_callV (As := [.int (xs (1 : Int32).toNatClampNeg), .int (xs (2 : Int32).toNatClampNeg), .int (xs (3 : Int32).toNatClampNeg), .int (xs (4 : Int32).toNatClampNeg)]) (rest := []) dL_law_1072 (c_X10_helps0 (d := 3) (h := h) (a0 := (xs (1 : Int32).toNatClampNeg)) (a1 := (xs (2 : Int32).toNatClampNeg)) (a2 := (xs (3 : Int32).toNatClampNeg)) (a3 := (xs (4 : Int32).toNatClampNeg)) (by decide) (zx_0 hx) (zx_1 hx)) hN k1016 k1017 k1018 (zx_0 hx) rfl rfl k87 k1019 np_X10_helps (Nat.le_trans (by decide) hd) (by decide) (by decide) (by decide) (hk182 hx.1) rfl (Nat.le_of_ble_eq_true rfl) (fun r_1 h_2 p_3 => ?_)
  obtain ⟨rfl, w_4⟩ := p_3
  refine J_w w_4 ?_
  refine J_aload_n (i := 2) (j := 1) dL_law_1075 rfl rfl ?_
  refine J_aload_nC (i := 0) (j := 3) dL_law_1076 rfl rfl ?_
  refine J_iload_n (i := 3) (j := 0) dL_law_1077 rfl rfl ?_
  refine J_iconst (v := 1) dL_law_1078 (by decide) ?_
  refine J_iadd dL_law_1079 ?_
  refine J_ci (v := 1) (by decide) ?_
  refine J_cald (z := 8) (f := xs) dL_law_1080 hcon (vp_c (by decide)) ?_
  refine J_aload_nC (i := 0) (j := 3) dL_law_1081 rfl rfl ?_
  refine J_iload_n (i := 3) (j := 0) dL_law_1082 rfl rfl ?_
  refine J_iconst (v := 2) dL_law_1083 (by decide) ?_
  refine J_iadd dL_law_1084 ?_
  refine J_ci (v := 2) (by decide) ?_
  refine J_cald (z := 8) (f := xs) dL_law_1085 hcon (vp_c (by decide)) ?_
  refine J_aload_nC (i := 0) (j := 3) dL_law_1086 rfl rfl ?_
  refine J_iload_n (i := 3) (j := 0) dL_law_1087 rfl rfl ?_
  refine J_iconst (v := 3) dL_law_1088 (by decide) ?_
  refine J_iadd dL_law_1089 ?_
  refine J_ci (v := 3) (by decide) ?_
  refine J_cald (z := 8) (f := xs) dL_law_1090 hcon (vp_c (by decide)) ?_
  refine J_aload_nC (i := 0) (j := 3) dL_law_1091 rfl rfl ?_
  refine J_iload_n (i := 3) (j := 0) dL_law_1092 rfl rfl ?_
  refine J_iconst (v := 4) dL_law_1093 (by decide) ?_
  refine J_iadd dL_law_1094 ?_
  refine J_ci (v := 4) (by decide) ?_
  refine J_cald (z := 8) (f := xs) dL_law_1095 hcon (vp_c (by decide)) ?_
  refine J_callV (As := [.int (xs (1 : Int32).toNatClampNeg), .int (xs (2 : Int32).toNatClampNeg), .int (xs (3 : Int32).toNatClampNeg), .int (xs (4 : Int32).toNatClampNeg)]) (rest := [.long (-1)]) dL_law_1096 (c_X11_helps0 (d := 4) (h := h) (a0 := (xs (1 : Int32).toNatClampNeg)) (a1 := (xs (2 : Int32).toNatClampNeg)) (a2 := (xs (3 : Int32).toNatClampNeg)) (a3 := (xs (4 : Int32).toNatClampNeg)) (by decide) (zm_162 hm) (zm_167 hm)) hN k1658 k1659 k1660 (zm_162 hm) rfl rfl k97 k1661 np_X11_helps (Nat.le_trans (by decide) hd) (by decide) (by decide) (by decide) (hk182 hx.1) rfl (Nat.le_of_ble_eq_true rfl) (fun r_5 h_6 p_7 => ?_)
  obtain rfl := p_7
  refine J_lcmp dL_law_1099 ?_
  refine J_ci (v := 0) (by decide) ?_
  refine J_if_eq (tgt := 2268) dL_law_1100 (by decide) (fun _ => ?_) (fun q => absurd (by decide) q)
  exact law_tail hq hcon (by decide) (by decide)
set_option maxHeartbeats 4000000 in
set_option maxRecDepth 100000 in
theorem law_19 {x : JX} {bb : Nat} {xs : Nat → Int32} {h : List MC} (hq : LQ x bb) (hN : JN x con0) (hcon : x.2.2.2.2.2.2.2.2.2.2.2.2.2.2.1 0 = some (8, xs)) (hx : ZX h) (hm : ZM h) (hd : 12 ≤ 12) : J x yL_law code 4 ret 12 600000 7302250 0 1105 [(3, .int 0), (2, .ref 162), (1, .ref 0), (0, .retAddr 0)] [] h 182 13870 := by
  refine J_aload_n (i := 1) (j := 2) dL_law_1105 rfl rfl ?_
  refine J_aload_nC (i := 0) (j := 3) dL_law_1106 rfl rfl ?_
  refine J_iload_n (i := 3) (j := 0) dL_law_1107 rfl rfl ?_
  refine J_iconst (v := 1) dL_law_1108 (by decide) ?_
  refine J_iadd dL_law_1109 ?_
  refine J_ci (v := 1) (by decide) ?_
  refine J_cald (z := 8) (f := xs) dL_law_1110 hcon (vp_c (by decide)) ?_
  refine J_aload_nC (i := 0) (j := 3) dL_law_1111 rfl rfl ?_
  refine J_iload_n (i := 3) (j := 0) dL_law_1112 rfl rfl ?_
  refine J_iconst (v := 2) dL_law_1113 (by decide) ?_
  refine J_iadd dL_law_1114 ?_
  refine J_ci (v := 2) (by decide) ?_
  refine J_cald (z := 8) (f := xs) dL_law_1115 hcon (vp_c (by decide)) ?_
  refine J_aload_nC (i := 0) (j := 3) dL_law_1116 rfl rfl ?_
  refine J_iload_n (i := 3) (j := 0) dL_law_1117 rfl rfl ?_
  refine J_iconst (v := 3) dL_law_1118 (by decide) ?_
  refine J_iadd dL_law_1119 ?_
  refine J_ci (v := 3) (by decide) ?_
  refine J_cald (z := 8) (f := xs) dL_law_1120 hcon (vp_c (by decide)) ?_
  refine J_callV (As := [.int (xs (1 : Int32).toNatClampNeg), .int (xs (2 : Int32).toNatClampNeg), .int (xs (3 : Int32).toNatClampNeg)]) (rest := []) dL_law_1121 (c_X10_alone0 (d := 3) (h := h) (a0 := (xs (1 : Int32).toNatClampNeg)) (a1 := (xs (2 : Int32).toNatClampNeg)) (a2 := (xs (3 : Int32).toNatClampNeg)) (by decide) (zx_0 hx) (zx_1 hx)) hN k1020 k1021 k1022 (zx_0 hx) rfl rfl k87 k1023 np_X10_alone (Nat.le_trans (by decide) hd) (by decide) (by decide) (by decide) (hk182 hx.1) rfl (Nat.le_of_ble_eq_true rfl) (fun r_1 h_2 p_3 => ?_)
  obtain ⟨rfl, w_4⟩ := p_3
  refine J_w w_4 ?_
  refine J_aload_n (i := 2) (j := 1) dL_law_1124 rfl rfl ?_
  refine J_aload_nC (i := 0) (j := 3) dL_law_1125 rfl rfl ?_
  refine J_iload_n (i := 3) (j := 0) dL_law_1126 rfl rfl ?_
  refine J_iconst (v := 1) dL_law_1127 (by decide) ?_
  refine J_iadd dL_law_1128 ?_
  refine J_ci (v := 1) (by decide) ?_
  refine J_cald (z := 8) (f := xs) dL_law_1129 hcon (vp_c (by decide)) ?_
  refine J_aload_nC (i := 0) (j := 3) dL_law_1130 rfl rfl ?_
  refine J_iload_n (i := 3) (j := 0) dL_law_1131 rfl rfl ?_
  refine J_iconst (v := 2) dL_law_1132 (by decide) ?_
  refine J_iadd dL_law_1133 ?_
  refine J_ci (v := 2) (by decide) ?_
  refine J_cald (z := 8) (f := xs) dL_law_1134 hcon (vp_c (by decide)) ?_
  refine J_aload_nC (i := 0) (j := 3) dL_law_1135 rfl rfl ?_
  refine J_iload_n (i := 3) (j := 0) dL_law_1136 rfl rfl ?_
  refine J_iconst (v := 3) dL_law_1137 (by decide) ?_
  refine J_iadd dL_law_1138 ?_
  refine J_ci (v := 3) (by decide) ?_
  refine J_cald (z := 8) (f := xs) dL_law_1139 hcon (vp_c (by decide)) ?_
  refine J_callV (As := [.int (xs (1 : Int32).toNatClampNeg), .int (xs (2 : Int32).toNatClampNeg), .int (xs (3 : Int32).toNatClampNeg)]) (rest := [.long (-1)]) dL_law_1140 (c_X11_alone0 (d := 4) (h := h) (a0 := (xs (1 : Int32).toNatClampNeg)) (a1 := (xs (2 : Int32).toNatClampNeg)) (a2 := (xs (3 : Int32).toNatClampNeg)) (by decide) (zm_162 hm) (zm_167 hm)) hN k1666 k1667 k1668 (zm_162 hm) rfl rfl k97 k1669 np_X11_alone (Nat.le_trans (by decide) hd) (by decide) (by decide) (by decide) (hk182 hx.1) rfl (Nat.le_of_ble_eq_true rfl) (fun r_5 h_6 p_7 => ?_)
  obtain rfl := p_7
  refine J_lcmp dL_law_1143 ?_
  refine J_ci (v := 0) (by decide) ?_
  refine J_if_eq (tgt := 2268) dL_law_1144 (by decide) (fun _ => ?_) (fun q => absurd (by decide) q)
  exact law_tail hq hcon (by decide) (by decide)
set_option maxHeartbeats 4000000 in
set_option maxRecDepth 100000 in
theorem law_20 {x : JX} {bb : Nat} {xs : Nat → Int32} {h : List MC} (hq : LQ x bb) (hN : JN x con0) (hcon : x.2.2.2.2.2.2.2.2.2.2.2.2.2.2.1 0 = some (8, xs)) (hx : ZX h) (hm : ZM h) (hd : 12 ≤ 12) : J x yL_law code 4 ret 12 600000 7302250 0 1149 [(3, .int 0), (2, .ref 162), (1, .ref 0), (0, .retAddr 0)] [] h 182 13870 := by
  refine J_aload_n (i := 1) (j := 2) dL_law_1149 rfl rfl ?_
  refine J_aload_nC (i := 0) (j := 3) dL_law_1150 rfl rfl ?_
  refine J_iload_n (i := 3) (j := 0) dL_law_1151 rfl rfl ?_
  refine J_iconst (v := 1) dL_law_1152 (by decide) ?_
  refine J_iadd dL_law_1153 ?_
  refine J_ci (v := 1) (by decide) ?_
  refine J_cald (z := 8) (f := xs) dL_law_1154 hcon (vp_c (by decide)) ?_
  refine J_aload_nC (i := 0) (j := 3) dL_law_1155 rfl rfl ?_
  refine J_iload_n (i := 3) (j := 0) dL_law_1156 rfl rfl ?_
  refine J_iconst (v := 2) dL_law_1157 (by decide) ?_
  refine J_iadd dL_law_1158 ?_
  refine J_ci (v := 2) (by decide) ?_
  refine J_cald (z := 8) (f := xs) dL_law_1159 hcon (vp_c (by decide)) ?_
  refine J_aload_nC (i := 0) (j := 3) dL_law_1160 rfl rfl ?_
  refine J_iload_n (i := 3) (j := 0) dL_law_1161 rfl rfl ?_
  refine J_iconst (v := 3) dL_law_1162 (by decide) ?_
  refine J_iadd dL_law_1163 ?_
  refine J_ci (v := 3) (by decide) ?_
  refine J_cald (z := 8) (f := xs) dL_law_1164 hcon (vp_c (by decide)) ?_
  refine J_aload_nC (i := 0) (j := 3) dL_law_1165 rfl rfl ?_
  refine J_iload_n (i := 3) (j := 0) dL_law_1166 rfl rfl ?_
  refine J_iconst (v := 4) dL_law_1167 (by decide) ?_
  refine J_iadd dL_law_1168 ?_
  refine J_ci (v := 4) (by decide) ?_
  refine J_cald (z := 8) (f := xs) dL_law_1169 hcon (vp_c (by decide)) ?_
  refine J_callV (As := [.int (xs (1 : Int32).toNatClampNeg), .int (xs (2 : Int32).toNatClampNeg), .int (xs (3 : Int32).toNatClampNeg), .int (xs (4 : Int32).toNatClampNeg)]) (rest := []) dL_law_1170 (c_X10_hear0 (d := 3) (h := h) (a0 := (xs (1 : Int32).toNatClampNeg)) (a1 := (xs (2 : Int32).toNatClampNeg)) (a2 := (xs (3 : Int32).toNatClampNeg)) (a3 := (xs (4 : Int32).toNatClampNeg)) (by decide) (zx_0 hx) (zx_1 hx)) hN k1024 k1025 k1026 (zx_0 hx) rfl rfl k87 k1027 np_X10_hear (Nat.le_trans (by decide) hd) (by decide) (by decide) (by decide) (hk182 hx.1) rfl (Nat.le_of_ble_eq_true rfl) (fun r_1 h_2 p_3 => ?_)
  obtain ⟨rfl, w_4⟩ := p_3
  refine J_w w_4 ?_
  refine J_aload_n (i := 2) (j := 1) dL_law_1173 rfl rfl ?_
  refine J_aload_nC (i := 0) (j := 3) dL_law_1174 rfl rfl ?_
  refine J_iload_n (i := 3) (j := 0) dL_law_1175 rfl rfl ?_
  refine J_iconst (v := 1) dL_law_1176 (by decide) ?_
  refine J_iadd dL_law_1177 ?_
  refine J_ci (v := 1) (by decide) ?_
  refine J_cald (z := 8) (f := xs) dL_law_1178 hcon (vp_c (by decide)) ?_
  refine J_aload_nC (i := 0) (j := 3) dL_law_1179 rfl rfl ?_
  refine J_iload_n (i := 3) (j := 0) dL_law_1180 rfl rfl ?_
  refine J_iconst (v := 2) dL_law_1181 (by decide) ?_
  refine J_iadd dL_law_1182 ?_
  refine J_ci (v := 2) (by decide) ?_
  refine J_cald (z := 8) (f := xs) dL_law_1183 hcon (vp_c (by decide)) ?_
  refine J_aload_nC (i := 0) (j := 3) dL_law_1184 rfl rfl ?_
  refine J_iload_n (i := 3) (j := 0) dL_law_1185 rfl rfl ?_
  refine J_iconst (v := 3) dL_law_1186 (by decide) ?_
  refine J_iadd dL_law_1187 ?_
  refine J_ci (v := 3) (by decide) ?_
  refine J_cald (z := 8) (f := xs) dL_law_1188 hcon (vp_c (by decide)) ?_
  refine J_aload_nC (i := 0) (j := 3) dL_law_1189 rfl rfl ?_
  refine J_iload_n (i := 3) (j := 0) dL_law_1190 rfl rfl ?_
  refine J_iconst (v := 4) dL_law_1191 (by decide) ?_
  refine J_iadd dL_law_1192 ?_
  refine J_ci (v := 4) (by decide) ?_
  refine J_cald (z := 8) (f := xs) dL_law_1193 hcon (vp_c (by decide)) ?_
  refine J_callV (As := [.int (xs (1 : Int32).toNatClampNeg), .int (xs (2 : Int32).toNatClampNeg), .int (xs (3 : Int32).toNatClampNeg), .int (xs (4 : Int32).toNatClampNeg)]) (rest := [.long (-9223372036854775808)]) dL_law_1194 (c_X11_hear0 (d := 4) (h := h) (a0 := (xs (1 : Int32).toNatClampNeg)) (a1 := (xs (2 : Int32).toNatClampNeg)) (a2 := (xs (3 : Int32).toNatClampNeg)) (a3 := (xs (4 : Int32).toNatClampNeg)) (by decide) (zm_162 hm) (zm_167 hm)) hN k1670 k1671 k1672 (zm_162 hm) rfl rfl k97 k1673 np_X11_hear (Nat.le_trans (by decide) hd) (by decide) (by decide) (by decide) (hk182 hx.1) rfl (Nat.le_of_ble_eq_true rfl) (fun r_5 h_6 p_7 => ?_)
  obtain rfl := p_7
  refine J_lcmp dL_law_1197 ?_
  refine J_ci (v := 0) (by decide) ?_
  refine J_if_eq (tgt := 2268) dL_law_1198 (by decide) (fun _ => ?_) (fun q => absurd (by decide) q)
  exact law_tail hq hcon (by decide) (by decide)
set_option maxHeartbeats 4000000 in
set_option maxRecDepth 100000 in
theorem law_21 {x : JX} {bb : Nat} {xs : Nat → Int32} {h : List MC} (hq : LQ x bb) (hN : JN x con0) (hcon : x.2.2.2.2.2.2.2.2.2.2.2.2.2.2.1 0 = some (8, xs)) (hx : ZX h) (hm : ZM h) (hd : 12 ≤ 12) : J x yL_law code 4 ret 12 600000 7302250 0 1203 [(3, .int 0), (2, .ref 162), (1, .ref 0), (0, .retAddr 0)] [] h 182 13870 := by
  refine J_aload_n (i := 1) (j := 2) dL_law_1203 rfl rfl ?_
  refine J_aload_nC (i := 0) (j := 3) dL_law_1204 rfl rfl ?_
  refine J_iload_n (i := 3) (j := 0) dL_law_1205 rfl rfl ?_
  refine J_iconst (v := 1) dL_law_1206 (by decide) ?_
  refine J_iadd dL_law_1207 ?_
  refine J_ci (v := 1) (by decide) ?_
  refine J_cald (z := 8) (f := xs) dL_law_1208 hcon (vp_c (by decide)) ?_
  refine J_aload_nC (i := 0) (j := 3) dL_law_1209 rfl rfl ?_
  refine J_iload_n (i := 3) (j := 0) dL_law_1210 rfl rfl ?_
  refine J_iconst (v := 2) dL_law_1211 (by decide) ?_
  refine J_iadd dL_law_1212 ?_
  refine J_ci (v := 2) (by decide) ?_
  refine J_cald (z := 8) (f := xs) dL_law_1213 hcon (vp_c (by decide)) ?_
  refine J_aload_nC (i := 0) (j := 3) dL_law_1214 rfl rfl ?_
  refine J_iload_n (i := 3) (j := 0) dL_law_1215 rfl rfl ?_
  refine J_iconst (v := 3) dL_law_1216 (by decide) ?_
  refine J_iadd dL_law_1217 ?_
  refine J_ci (v := 3) (by decide) ?_
  refine J_cald (z := 8) (f := xs) dL_law_1218 hcon (vp_c (by decide)) ?_
  refine J_aload_nC (i := 0) (j := 3) dL_law_1219 rfl rfl ?_
  refine J_iload_n (i := 3) (j := 0) dL_law_1220 rfl rfl ?_
  refine J_iconst (v := 4) dL_law_1221 (by decide) ?_
  refine J_iadd dL_law_1222 ?_
  refine J_ci (v := 4) (by decide) ?_
  refine J_cald (z := 8) (f := xs) dL_law_1223 hcon (vp_c (by decide)) ?_
  refine J_if_eq (tgt := 1231) dL_law_1224 (by decide) (fun c_1 => ?_) (fun c_1 => ?_)
  · refine J_iconst (v := 0) dL_law_1231 (by decide) ?_
    refine J_callV (As := [.int (xs (1 : Int32).toNatClampNeg), .int (xs (2 : Int32).toNatClampNeg), .int (xs (3 : Int32).toNatClampNeg), .int 0]) (rest := []) dL_law_1232 (c_X10_may0 (d := 3) (h := h) (a0 := (xs (1 : Int32).toNatClampNeg)) (a1 := (xs (2 : Int32).toNatClampNeg)) (a2 := (xs (3 : Int32).toNatClampNeg)) (a3 := 0) (by decide) (zx_0 hx) (zx_1 hx)) hN k1032 k1033 k1034 (zx_0 hx) rfl rfl k87 k1035 np_X10_may (Nat.le_trans (by decide) hd) (by decide) (by decide) (by decide) (hk182 hx.1) rfl (Nat.le_of_ble_eq_true rfl) (fun r_2 h_3 p_4 => ?_)
    obtain ⟨rfl, w_5⟩ := p_4
    refine J_w w_5 ?_
    refine J_aload_n (i := 2) (j := 1) dL_law_1235 rfl rfl ?_
    refine J_aload_nC (i := 0) (j := 3) dL_law_1236 rfl rfl ?_
    refine J_iload_n (i := 3) (j := 0) dL_law_1237 rfl rfl ?_
    refine J_iconst (v := 1) dL_law_1238 (by decide) ?_
    refine J_iadd dL_law_1239 ?_
    refine J_ci (v := 1) (by decide) ?_
    refine J_cald (z := 8) (f := xs) dL_law_1240 hcon (vp_c (by decide)) ?_
    refine J_aload_nC (i := 0) (j := 3) dL_law_1241 rfl rfl ?_
    refine J_iload_n (i := 3) (j := 0) dL_law_1242 rfl rfl ?_
    refine J_iconst (v := 2) dL_law_1243 (by decide) ?_
    refine J_iadd dL_law_1244 ?_
    refine J_ci (v := 2) (by decide) ?_
    refine J_cald (z := 8) (f := xs) dL_law_1245 hcon (vp_c (by decide)) ?_
    refine J_aload_nC (i := 0) (j := 3) dL_law_1246 rfl rfl ?_
    refine J_iload_n (i := 3) (j := 0) dL_law_1247 rfl rfl ?_
    refine J_iconst (v := 3) dL_law_1248 (by decide) ?_
    refine J_iadd dL_law_1249 ?_
    refine J_ci (v := 3) (by decide) ?_
    refine J_cald (z := 8) (f := xs) dL_law_1250 hcon (vp_c (by decide)) ?_
    refine J_aload_nC (i := 0) (j := 3) dL_law_1251 rfl rfl ?_
    refine J_iload_n (i := 3) (j := 0) dL_law_1252 rfl rfl ?_
    refine J_iconst (v := 4) dL_law_1253 (by decide) ?_
    refine J_iadd dL_law_1254 ?_
    refine J_ci (v := 4) (by decide) ?_
    refine J_cald (z := 8) (f := xs) dL_law_1255 hcon (vp_c (by decide)) ?_
    refine J_if_eq (tgt := 1263) dL_law_1256 (by decide) (fun c_6 => ?_) (fun c_6 => ?_)
    · refine J_iconst (v := 0) dL_law_1263 (by decide) ?_
      refine J_callV (As := [.int (xs (1 : Int32).toNatClampNeg), .int (xs (2 : Int32).toNatClampNeg), .int (xs (3 : Int32).toNatClampNeg), .int 0]) (rest := [.long (-1)]) dL_law_1264 (c_X11_may0 (d := 4) (h := h) (a0 := (xs (1 : Int32).toNatClampNeg)) (a1 := (xs (2 : Int32).toNatClampNeg)) (a2 := (xs (3 : Int32).toNatClampNeg)) (a3 := 0) (by decide) (zm_162 hm) (zm_167 hm)) hN k1675 k1676 k1677 (zm_162 hm) rfl rfl k97 k1678 np_X11_may (Nat.le_trans (by decide) hd) (by decide) (by decide) (by decide) (hk182 hx.1) rfl (Nat.le_of_ble_eq_true rfl) (fun r_7 h_8 p_9 => ?_)
      obtain rfl := p_9
      refine J_lcmp dL_law_1267 ?_
      refine J_ci (v := 0) (by decide) ?_
      refine J_if_eq (tgt := 2268) dL_law_1268 (by decide) (fun _ => ?_) (fun q => absurd (by decide) q)
      exact law_tail hq hcon (by decide) (by decide)
    · refine J_iconst (v := 1) dL_law_1259 (by decide) ?_
      refine J_goto (tgt := 1264) dL_law_1260 (by decide) ?_
      refine J_callV (As := [.int (xs (1 : Int32).toNatClampNeg), .int (xs (2 : Int32).toNatClampNeg), .int (xs (3 : Int32).toNatClampNeg), .int 1]) (rest := [.long (-1)]) dL_law_1264 (c_X11_may0 (d := 4) (h := h) (a0 := (xs (1 : Int32).toNatClampNeg)) (a1 := (xs (2 : Int32).toNatClampNeg)) (a2 := (xs (3 : Int32).toNatClampNeg)) (a3 := 1) (by decide) (zm_162 hm) (zm_167 hm)) hN k1675 k1676 k1677 (zm_162 hm) rfl rfl k97 k1678 np_X11_may (Nat.le_trans (by decide) hd) (by decide) (by decide) (by decide) (hk182 hx.1) rfl (Nat.le_of_ble_eq_true rfl) (fun r_10 h_11 p_12 => ?_)
      obtain rfl := p_12
      refine J_lcmp dL_law_1267 ?_
      refine J_ci (v := 0) (by decide) ?_
      refine J_if_eq (tgt := 2268) dL_law_1268 (by decide) (fun _ => ?_) (fun q => absurd (by decide) q)
      exact law_tail hq hcon (by decide) (by decide)
  · refine J_iconst (v := 1) dL_law_1227 (by decide) ?_
    refine J_goto (tgt := 1232) dL_law_1228 (by decide) ?_
    refine J_callV (As := [.int (xs (1 : Int32).toNatClampNeg), .int (xs (2 : Int32).toNatClampNeg), .int (xs (3 : Int32).toNatClampNeg), .int 1]) (rest := []) dL_law_1232 (c_X10_may0 (d := 3) (h := h) (a0 := (xs (1 : Int32).toNatClampNeg)) (a1 := (xs (2 : Int32).toNatClampNeg)) (a2 := (xs (3 : Int32).toNatClampNeg)) (a3 := 1) (by decide) (zx_0 hx) (zx_1 hx)) hN k1032 k1033 k1034 (zx_0 hx) rfl rfl k87 k1035 np_X10_may (Nat.le_trans (by decide) hd) (by decide) (by decide) (by decide) (hk182 hx.1) rfl (Nat.le_of_ble_eq_true rfl) (fun r_13 h_14 p_15 => ?_)
    obtain ⟨rfl, w_16⟩ := p_15
    refine J_w w_16 ?_
    refine J_aload_n (i := 2) (j := 1) dL_law_1235 rfl rfl ?_
    refine J_aload_nC (i := 0) (j := 3) dL_law_1236 rfl rfl ?_
    refine J_iload_n (i := 3) (j := 0) dL_law_1237 rfl rfl ?_
    refine J_iconst (v := 1) dL_law_1238 (by decide) ?_
    refine J_iadd dL_law_1239 ?_
    refine J_ci (v := 1) (by decide) ?_
    refine J_cald (z := 8) (f := xs) dL_law_1240 hcon (vp_c (by decide)) ?_
    refine J_aload_nC (i := 0) (j := 3) dL_law_1241 rfl rfl ?_
    refine J_iload_n (i := 3) (j := 0) dL_law_1242 rfl rfl ?_
    refine J_iconst (v := 2) dL_law_1243 (by decide) ?_
    refine J_iadd dL_law_1244 ?_
    refine J_ci (v := 2) (by decide) ?_
    refine J_cald (z := 8) (f := xs) dL_law_1245 hcon (vp_c (by decide)) ?_
    refine J_aload_nC (i := 0) (j := 3) dL_law_1246 rfl rfl ?_
    refine J_iload_n (i := 3) (j := 0) dL_law_1247 rfl rfl ?_
    refine J_iconst (v := 3) dL_law_1248 (by decide) ?_
    refine J_iadd dL_law_1249 ?_
    refine J_ci (v := 3) (by decide) ?_
    refine J_cald (z := 8) (f := xs) dL_law_1250 hcon (vp_c (by decide)) ?_
    refine J_aload_nC (i := 0) (j := 3) dL_law_1251 rfl rfl ?_
    refine J_iload_n (i := 3) (j := 0) dL_law_1252 rfl rfl ?_
    refine J_iconst (v := 4) dL_law_1253 (by decide) ?_
    refine J_iadd dL_law_1254 ?_
    refine J_ci (v := 4) (by decide) ?_
    refine J_cald (z := 8) (f := xs) dL_law_1255 hcon (vp_c (by decide)) ?_
    refine J_if_eq (tgt := 1263) dL_law_1256 (by decide) (fun c_17 => ?_) (fun c_17 => ?_)
    · refine J_iconst (v := 0) dL_law_1263 (by decide) ?_
      refine J_callV (As := [.int (xs (1 : Int32).toNatClampNeg), .int (xs (2 : Int32).toNatClampNeg), .int (xs (3 : Int32).toNatClampNeg), .int 0]) (rest := [.long (-1)]) dL_law_1264 (c_X11_may0 (d := 4) (h := h) (a0 := (xs (1 : Int32).toNatClampNeg)) (a1 := (xs (2 : Int32).toNatClampNeg)) (a2 := (xs (3 : Int32).toNatClampNeg)) (a3 := 0) (by decide) (zm_162 hm) (zm_167 hm)) hN k1675 k1676 k1677 (zm_162 hm) rfl rfl k97 k1678 np_X11_may (Nat.le_trans (by decide) hd) (by decide) (by decide) (by decide) (hk182 hx.1) rfl (Nat.le_of_ble_eq_true rfl) (fun r_18 h_19 p_20 => ?_)
      obtain rfl := p_20
      refine J_lcmp dL_law_1267 ?_
      refine J_ci (v := 0) (by decide) ?_
      refine J_if_eq (tgt := 2268) dL_law_1268 (by decide) (fun _ => ?_) (fun q => absurd (by decide) q)
      exact law_tail hq hcon (by decide) (by decide)
    · refine J_iconst (v := 1) dL_law_1259 (by decide) ?_
      refine J_goto (tgt := 1264) dL_law_1260 (by decide) ?_
      refine J_callV (As := [.int (xs (1 : Int32).toNatClampNeg), .int (xs (2 : Int32).toNatClampNeg), .int (xs (3 : Int32).toNatClampNeg), .int 1]) (rest := [.long (-1)]) dL_law_1264 (c_X11_may0 (d := 4) (h := h) (a0 := (xs (1 : Int32).toNatClampNeg)) (a1 := (xs (2 : Int32).toNatClampNeg)) (a2 := (xs (3 : Int32).toNatClampNeg)) (a3 := 1) (by decide) (zm_162 hm) (zm_167 hm)) hN k1675 k1676 k1677 (zm_162 hm) rfl rfl k97 k1678 np_X11_may (Nat.le_trans (by decide) hd) (by decide) (by decide) (by decide) (hk182 hx.1) rfl (Nat.le_of_ble_eq_true rfl) (fun r_21 h_22 p_23 => ?_)
      obtain rfl := p_23
      refine J_lcmp dL_law_1267 ?_
      refine J_ci (v := 0) (by decide) ?_
      refine J_if_eq (tgt := 2268) dL_law_1268 (by decide) (fun _ => ?_) (fun q => absurd (by decide) q)
      exact law_tail hq hcon (by decide) (by decide)
set_option maxHeartbeats 4000000 in
set_option maxRecDepth 100000 in
theorem law_22 {x : JX} {bb : Nat} {xs : Nat → Int32} {h : List MC} (hq : LQ x bb) (hN : JN x con0) (hcon : x.2.2.2.2.2.2.2.2.2.2.2.2.2.2.1 0 = some (8, xs)) (hx : ZX h) (hm : ZM h) (hd : 12 ≤ 12) : J x yL_law code 4 ret 12 600000 7302250 0 1273 [(3, .int 0), (2, .ref 162), (1, .ref 0), (0, .retAddr 0)] [] h 182 13870 := by
  refine J_aload_n (i := 1) (j := 2) dL_law_1273 rfl rfl ?_
  refine J_aload_nC (i := 0) (j := 3) dL_law_1274 rfl rfl ?_
  refine J_iload_n (i := 3) (j := 0) dL_law_1275 rfl rfl ?_
  refine J_iconst (v := 1) dL_law_1276 (by decide) ?_
  refine J_iadd dL_law_1277 ?_
  refine J_ci (v := 1) (by decide) ?_
  refine J_cald (z := 8) (f := xs) dL_law_1278 hcon (vp_c (by decide)) ?_
  refine J_aload_nC (i := 0) (j := 3) dL_law_1279 rfl rfl ?_
  refine J_iload_n (i := 3) (j := 0) dL_law_1280 rfl rfl ?_
  refine J_iconst (v := 2) dL_law_1281 (by decide) ?_
  refine J_iadd dL_law_1282 ?_
  refine J_ci (v := 2) (by decide) ?_
  refine J_cald (z := 8) (f := xs) dL_law_1283 hcon (vp_c (by decide)) ?_
  refine J_aload_nC (i := 0) (j := 3) dL_law_1284 rfl rfl ?_
  refine J_iload_n (i := 3) (j := 0) dL_law_1285 rfl rfl ?_
  refine J_iconst (v := 3) dL_law_1286 (by decide) ?_
  refine J_iadd dL_law_1287 ?_
  refine J_ci (v := 3) (by decide) ?_
  refine J_cald (z := 8) (f := xs) dL_law_1288 hcon (vp_c (by decide)) ?_
  refine J_aload_nC (i := 0) (j := 3) dL_law_1289 rfl rfl ?_
  refine J_iload_n (i := 3) (j := 0) dL_law_1290 rfl rfl ?_
  refine J_iconst (v := 4) dL_law_1291 (by decide) ?_
  refine J_iadd dL_law_1292 ?_
  refine J_ci (v := 4) (by decide) ?_
  refine J_cald (z := 8) (f := xs) dL_law_1293 hcon (vp_c (by decide)) ?_
  refine J_callV (As := [.int (xs (1 : Int32).toNatClampNeg), .int (xs (2 : Int32).toNatClampNeg), .int (xs (3 : Int32).toNatClampNeg), .int (xs (4 : Int32).toNatClampNeg)]) (rest := []) dL_law_1294 (c_X10_order0 (d := 3) (h := h) (a0 := (xs (1 : Int32).toNatClampNeg)) (a1 := (xs (2 : Int32).toNatClampNeg)) (a2 := (xs (3 : Int32).toNatClampNeg)) (a3 := (xs (4 : Int32).toNatClampNeg)) (by decide) (zx_0 hx) (zx_1 hx)) hN k1062 k1063 k1064 (zx_0 hx) rfl rfl k87 k1065 np_X10_order (Nat.le_trans (by decide) hd) (by decide) (by decide) (by decide) (hk182 hx.1) rfl (Nat.le_of_ble_eq_true rfl) (fun r_1 h_2 p_3 => ?_)
  obtain ⟨rfl, w_4⟩ := p_3
  refine J_w w_4 ?_
  refine J_aload_n (i := 2) (j := 1) dL_law_1297 rfl rfl ?_
  refine J_aload_nC (i := 0) (j := 3) dL_law_1298 rfl rfl ?_
  refine J_iload_n (i := 3) (j := 0) dL_law_1299 rfl rfl ?_
  refine J_iconst (v := 1) dL_law_1300 (by decide) ?_
  refine J_iadd dL_law_1301 ?_
  refine J_ci (v := 1) (by decide) ?_
  refine J_cald (z := 8) (f := xs) dL_law_1302 hcon (vp_c (by decide)) ?_
  refine J_aload_nC (i := 0) (j := 3) dL_law_1303 rfl rfl ?_
  refine J_iload_n (i := 3) (j := 0) dL_law_1304 rfl rfl ?_
  refine J_iconst (v := 2) dL_law_1305 (by decide) ?_
  refine J_iadd dL_law_1306 ?_
  refine J_ci (v := 2) (by decide) ?_
  refine J_cald (z := 8) (f := xs) dL_law_1307 hcon (vp_c (by decide)) ?_
  refine J_aload_nC (i := 0) (j := 3) dL_law_1308 rfl rfl ?_
  refine J_iload_n (i := 3) (j := 0) dL_law_1309 rfl rfl ?_
  refine J_iconst (v := 3) dL_law_1310 (by decide) ?_
  refine J_iadd dL_law_1311 ?_
  refine J_ci (v := 3) (by decide) ?_
  refine J_cald (z := 8) (f := xs) dL_law_1312 hcon (vp_c (by decide)) ?_
  refine J_aload_nC (i := 0) (j := 3) dL_law_1313 rfl rfl ?_
  refine J_iload_n (i := 3) (j := 0) dL_law_1314 rfl rfl ?_
  refine J_iconst (v := 4) dL_law_1315 (by decide) ?_
  refine J_iadd dL_law_1316 ?_
  refine J_ci (v := 4) (by decide) ?_
  refine J_cald (z := 8) (f := xs) dL_law_1317 hcon (vp_c (by decide)) ?_
  refine J_callV (As := [.int (xs (1 : Int32).toNatClampNeg), .int (xs (2 : Int32).toNatClampNeg), .int (xs (3 : Int32).toNatClampNeg), .int (xs (4 : Int32).toNatClampNeg)]) (rest := [.int (-1)]) dL_law_1318 (c_X11_order0 (d := 4) (h := h) (a0 := (xs (1 : Int32).toNatClampNeg)) (a1 := (xs (2 : Int32).toNatClampNeg)) (a2 := (xs (3 : Int32).toNatClampNeg)) (a3 := (xs (4 : Int32).toNatClampNeg)) (by decide) (zm_162 hm) (zm_167 hm)) hN k1691 k1692 k1693 (zm_162 hm) rfl rfl k97 k1694 np_X11_order (Nat.le_trans (by decide) hd) (by decide) (by decide) (by decide) (hk182 hx.1) rfl (Nat.le_of_ble_eq_true rfl) (fun r_5 h_6 p_7 => ?_)
  obtain rfl := p_7
  refine J_icmp_eq (tgt := 2268) dL_law_1321 (by decide) (fun _ => ?_) (fun q => absurd (by decide) q)
  exact law_tail hq hcon (by decide) (by decide)
set_option maxHeartbeats 4000000 in
set_option maxRecDepth 100000 in
theorem law_23 {x : JX} {bb : Nat} {xs : Nat → Int32} {h : List MC} (hq : LQ x bb) (hN : JN x con0) (hcon : x.2.2.2.2.2.2.2.2.2.2.2.2.2.2.1 0 = some (8, xs)) (hx : ZX h) (hm : ZM h) (hd : 12 ≤ 12) : J x yL_law code 4 ret 12 600000 7302250 0 1326 [(3, .int 0), (2, .ref 162), (1, .ref 0), (0, .retAddr 0)] [] h 182 13870 := by
  refine J_aload_n (i := 1) (j := 2) dL_law_1326 rfl rfl ?_
  refine J_aload_nC (i := 0) (j := 3) dL_law_1327 rfl rfl ?_
  refine J_iload_n (i := 3) (j := 0) dL_law_1328 rfl rfl ?_
  refine J_iconst (v := 1) dL_law_1329 (by decide) ?_
  refine J_iadd dL_law_1330 ?_
  refine J_ci (v := 1) (by decide) ?_
  refine J_cald (z := 8) (f := xs) dL_law_1331 hcon (vp_c (by decide)) ?_
  refine J_aload_nC (i := 0) (j := 3) dL_law_1332 rfl rfl ?_
  refine J_iload_n (i := 3) (j := 0) dL_law_1333 rfl rfl ?_
  refine J_iconst (v := 2) dL_law_1334 (by decide) ?_
  refine J_iadd dL_law_1335 ?_
  refine J_ci (v := 2) (by decide) ?_
  refine J_cald (z := 8) (f := xs) dL_law_1336 hcon (vp_c (by decide)) ?_
  refine J_aload_nC (i := 0) (j := 3) dL_law_1337 rfl rfl ?_
  refine J_iload_n (i := 3) (j := 0) dL_law_1338 rfl rfl ?_
  refine J_iconst (v := 3) dL_law_1339 (by decide) ?_
  refine J_iadd dL_law_1340 ?_
  refine J_ci (v := 3) (by decide) ?_
  refine J_cald (z := 8) (f := xs) dL_law_1341 hcon (vp_c (by decide)) ?_
  refine J_aload_nC (i := 0) (j := 3) dL_law_1342 rfl rfl ?_
  refine J_iload_n (i := 3) (j := 0) dL_law_1343 rfl rfl ?_
  refine J_iconst (v := 4) dL_law_1344 (by decide) ?_
  refine J_iadd dL_law_1345 ?_
  refine J_ci (v := 4) (by decide) ?_
  refine J_cald (z := 8) (f := xs) dL_law_1346 hcon (vp_c (by decide)) ?_
  refine J_if_eq (tgt := 1354) dL_law_1347 (by decide) (fun c_1 => ?_) (fun c_1 => ?_)
  · refine J_iconst (v := 0) dL_law_1354 (by decide) ?_
    refine J_callV (As := [.int (xs (1 : Int32).toNatClampNeg), .int (xs (2 : Int32).toNatClampNeg), .int (xs (3 : Int32).toNatClampNeg), .int 0]) (rest := []) dL_law_1355 (c_X10_think0 (d := 3) (h := h) (a0 := (xs (1 : Int32).toNatClampNeg)) (a1 := (xs (2 : Int32).toNatClampNeg)) (a2 := (xs (3 : Int32).toNatClampNeg)) (a3 := 0) (by decide) (zx_0 hx) (zx_1 hx)) hN k1070 k1071 k1072 (zx_0 hx) rfl rfl k87 k1073 np_X10_think (Nat.le_trans (by decide) hd) (by decide) (by decide) (by decide) (hk182 hx.1) rfl (Nat.le_of_ble_eq_true rfl) (fun r_2 h_3 p_4 => ?_)
    obtain ⟨rfl, w_5⟩ := p_4
    refine J_w w_5 ?_
    refine J_aload_n (i := 2) (j := 1) dL_law_1358 rfl rfl ?_
    refine J_aload_nC (i := 0) (j := 3) dL_law_1359 rfl rfl ?_
    refine J_iload_n (i := 3) (j := 0) dL_law_1360 rfl rfl ?_
    refine J_iconst (v := 1) dL_law_1361 (by decide) ?_
    refine J_iadd dL_law_1362 ?_
    refine J_ci (v := 1) (by decide) ?_
    refine J_cald (z := 8) (f := xs) dL_law_1363 hcon (vp_c (by decide)) ?_
    refine J_aload_nC (i := 0) (j := 3) dL_law_1364 rfl rfl ?_
    refine J_iload_n (i := 3) (j := 0) dL_law_1365 rfl rfl ?_
    refine J_iconst (v := 2) dL_law_1366 (by decide) ?_
    refine J_iadd dL_law_1367 ?_
    refine J_ci (v := 2) (by decide) ?_
    refine J_cald (z := 8) (f := xs) dL_law_1368 hcon (vp_c (by decide)) ?_
    refine J_aload_nC (i := 0) (j := 3) dL_law_1369 rfl rfl ?_
    refine J_iload_n (i := 3) (j := 0) dL_law_1370 rfl rfl ?_
    refine J_iconst (v := 3) dL_law_1371 (by decide) ?_
    refine J_iadd dL_law_1372 ?_
    refine J_ci (v := 3) (by decide) ?_
    refine J_cald (z := 8) (f := xs) dL_law_1373 hcon (vp_c (by decide)) ?_
    refine J_aload_nC (i := 0) (j := 3) dL_law_1374 rfl rfl ?_
    refine J_iload_n (i := 3) (j := 0) dL_law_1375 rfl rfl ?_
    refine J_iconst (v := 4) dL_law_1376 (by decide) ?_
    refine J_iadd dL_law_1377 ?_
    refine J_ci (v := 4) (by decide) ?_
    refine J_cald (z := 8) (f := xs) dL_law_1378 hcon (vp_c (by decide)) ?_
    refine J_if_eq (tgt := 1386) dL_law_1379 (by decide) (fun c_6 => ?_) (fun c_6 => ?_)
    · refine J_iconst (v := 0) dL_law_1386 (by decide) ?_
      refine J_callV (As := [.int (xs (1 : Int32).toNatClampNeg), .int (xs (2 : Int32).toNatClampNeg), .int (xs (3 : Int32).toNatClampNeg), .int 0]) (rest := [.int (-1)]) dL_law_1387 (c_X11_think0 (d := 4) (h := h) (a0 := (xs (1 : Int32).toNatClampNeg)) (a1 := (xs (2 : Int32).toNatClampNeg)) (a2 := (xs (3 : Int32).toNatClampNeg)) (a3 := 0) (by decide) (zm_162 hm) (zm_167 hm)) hN k1695 k1696 k1697 (zm_162 hm) rfl rfl k97 k1698 np_X11_think (Nat.le_trans (by decide) hd) (by decide) (by decide) (by decide) (hk182 hx.1) rfl (Nat.le_of_ble_eq_true rfl) (fun r_7 h_8 p_9 => ?_)
      obtain rfl := p_9
      refine J_icmp_eq (tgt := 2268) dL_law_1390 (by decide) (fun _ => ?_) (fun q => absurd (by decide) q)
      exact law_tail hq hcon (by decide) (by decide)
    · refine J_iconst (v := 1) dL_law_1382 (by decide) ?_
      refine J_goto (tgt := 1387) dL_law_1383 (by decide) ?_
      refine J_callV (As := [.int (xs (1 : Int32).toNatClampNeg), .int (xs (2 : Int32).toNatClampNeg), .int (xs (3 : Int32).toNatClampNeg), .int 1]) (rest := [.int (-1)]) dL_law_1387 (c_X11_think0 (d := 4) (h := h) (a0 := (xs (1 : Int32).toNatClampNeg)) (a1 := (xs (2 : Int32).toNatClampNeg)) (a2 := (xs (3 : Int32).toNatClampNeg)) (a3 := 1) (by decide) (zm_162 hm) (zm_167 hm)) hN k1695 k1696 k1697 (zm_162 hm) rfl rfl k97 k1698 np_X11_think (Nat.le_trans (by decide) hd) (by decide) (by decide) (by decide) (hk182 hx.1) rfl (Nat.le_of_ble_eq_true rfl) (fun r_10 h_11 p_12 => ?_)
      obtain rfl := p_12
      refine J_icmp_eq (tgt := 2268) dL_law_1390 (by decide) (fun _ => ?_) (fun q => absurd (by decide) q)
      exact law_tail hq hcon (by decide) (by decide)
  · refine J_iconst (v := 1) dL_law_1350 (by decide) ?_
    refine J_goto (tgt := 1355) dL_law_1351 (by decide) ?_
    refine J_callV (As := [.int (xs (1 : Int32).toNatClampNeg), .int (xs (2 : Int32).toNatClampNeg), .int (xs (3 : Int32).toNatClampNeg), .int 1]) (rest := []) dL_law_1355 (c_X10_think0 (d := 3) (h := h) (a0 := (xs (1 : Int32).toNatClampNeg)) (a1 := (xs (2 : Int32).toNatClampNeg)) (a2 := (xs (3 : Int32).toNatClampNeg)) (a3 := 1) (by decide) (zx_0 hx) (zx_1 hx)) hN k1070 k1071 k1072 (zx_0 hx) rfl rfl k87 k1073 np_X10_think (Nat.le_trans (by decide) hd) (by decide) (by decide) (by decide) (hk182 hx.1) rfl (Nat.le_of_ble_eq_true rfl) (fun r_13 h_14 p_15 => ?_)
    obtain ⟨rfl, w_16⟩ := p_15
    refine J_w w_16 ?_
    refine J_aload_n (i := 2) (j := 1) dL_law_1358 rfl rfl ?_
    refine J_aload_nC (i := 0) (j := 3) dL_law_1359 rfl rfl ?_
    refine J_iload_n (i := 3) (j := 0) dL_law_1360 rfl rfl ?_
    refine J_iconst (v := 1) dL_law_1361 (by decide) ?_
    refine J_iadd dL_law_1362 ?_
    refine J_ci (v := 1) (by decide) ?_
    refine J_cald (z := 8) (f := xs) dL_law_1363 hcon (vp_c (by decide)) ?_
    refine J_aload_nC (i := 0) (j := 3) dL_law_1364 rfl rfl ?_
    refine J_iload_n (i := 3) (j := 0) dL_law_1365 rfl rfl ?_
    refine J_iconst (v := 2) dL_law_1366 (by decide) ?_
    refine J_iadd dL_law_1367 ?_
    refine J_ci (v := 2) (by decide) ?_
    refine J_cald (z := 8) (f := xs) dL_law_1368 hcon (vp_c (by decide)) ?_
    refine J_aload_nC (i := 0) (j := 3) dL_law_1369 rfl rfl ?_
    refine J_iload_n (i := 3) (j := 0) dL_law_1370 rfl rfl ?_
    refine J_iconst (v := 3) dL_law_1371 (by decide) ?_
    refine J_iadd dL_law_1372 ?_
    refine J_ci (v := 3) (by decide) ?_
    refine J_cald (z := 8) (f := xs) dL_law_1373 hcon (vp_c (by decide)) ?_
    refine J_aload_nC (i := 0) (j := 3) dL_law_1374 rfl rfl ?_
    refine J_iload_n (i := 3) (j := 0) dL_law_1375 rfl rfl ?_
    refine J_iconst (v := 4) dL_law_1376 (by decide) ?_
    refine J_iadd dL_law_1377 ?_
    refine J_ci (v := 4) (by decide) ?_
    refine J_cald (z := 8) (f := xs) dL_law_1378 hcon (vp_c (by decide)) ?_
    refine J_if_eq (tgt := 1386) dL_law_1379 (by decide) (fun c_17 => ?_) (fun c_17 => ?_)
    · refine J_iconst (v := 0) dL_law_1386 (by decide) ?_
      refine J_callV (As := [.int (xs (1 : Int32).toNatClampNeg), .int (xs (2 : Int32).toNatClampNeg), .int (xs (3 : Int32).toNatClampNeg), .int 0]) (rest := [.int (-1)]) dL_law_1387 (c_X11_think0 (d := 4) (h := h) (a0 := (xs (1 : Int32).toNatClampNeg)) (a1 := (xs (2 : Int32).toNatClampNeg)) (a2 := (xs (3 : Int32).toNatClampNeg)) (a3 := 0) (by decide) (zm_162 hm) (zm_167 hm)) hN k1695 k1696 k1697 (zm_162 hm) rfl rfl k97 k1698 np_X11_think (Nat.le_trans (by decide) hd) (by decide) (by decide) (by decide) (hk182 hx.1) rfl (Nat.le_of_ble_eq_true rfl) (fun r_18 h_19 p_20 => ?_)
      obtain rfl := p_20
      refine J_icmp_eq (tgt := 2268) dL_law_1390 (by decide) (fun _ => ?_) (fun q => absurd (by decide) q)
      exact law_tail hq hcon (by decide) (by decide)
    · refine J_iconst (v := 1) dL_law_1382 (by decide) ?_
      refine J_goto (tgt := 1387) dL_law_1383 (by decide) ?_
      refine J_callV (As := [.int (xs (1 : Int32).toNatClampNeg), .int (xs (2 : Int32).toNatClampNeg), .int (xs (3 : Int32).toNatClampNeg), .int 1]) (rest := [.int (-1)]) dL_law_1387 (c_X11_think0 (d := 4) (h := h) (a0 := (xs (1 : Int32).toNatClampNeg)) (a1 := (xs (2 : Int32).toNatClampNeg)) (a2 := (xs (3 : Int32).toNatClampNeg)) (a3 := 1) (by decide) (zm_162 hm) (zm_167 hm)) hN k1695 k1696 k1697 (zm_162 hm) rfl rfl k97 k1698 np_X11_think (Nat.le_trans (by decide) hd) (by decide) (by decide) (by decide) (hk182 hx.1) rfl (Nat.le_of_ble_eq_true rfl) (fun r_21 h_22 p_23 => ?_)
      obtain rfl := p_23
      refine J_icmp_eq (tgt := 2268) dL_law_1390 (by decide) (fun _ => ?_) (fun q => absurd (by decide) q)
      exact law_tail hq hcon (by decide) (by decide)
set_option maxHeartbeats 4000000 in
set_option maxRecDepth 100000 in
theorem law_24 {x : JX} {bb : Nat} {xs : Nat → Int32} {h : List MC} (hq : LQ x bb) (hN : JN x con0) (hcon : x.2.2.2.2.2.2.2.2.2.2.2.2.2.2.1 0 = some (8, xs)) (hx : ZX h) (hm : ZM h) (hd : 12 ≤ 12) : J x yL_law code 4 ret 12 600000 7302250 0 1395 [(3, .int 0), (2, .ref 162), (1, .ref 0), (0, .retAddr 0)] [] h 182 13870 := by
  refine J_aload_n (i := 1) (j := 2) dL_law_1395 rfl rfl ?_
  refine J_aload_nC (i := 0) (j := 3) dL_law_1396 rfl rfl ?_
  refine J_iload_n (i := 3) (j := 0) dL_law_1397 rfl rfl ?_
  refine J_iconst (v := 1) dL_law_1398 (by decide) ?_
  refine J_iadd dL_law_1399 ?_
  refine J_ci (v := 1) (by decide) ?_
  refine J_cald (z := 8) (f := xs) dL_law_1400 hcon (vp_c (by decide)) ?_
  refine J_aload_nC (i := 0) (j := 3) dL_law_1401 rfl rfl ?_
  refine J_iload_n (i := 3) (j := 0) dL_law_1402 rfl rfl ?_
  refine J_iconst (v := 2) dL_law_1403 (by decide) ?_
  refine J_iadd dL_law_1404 ?_
  refine J_ci (v := 2) (by decide) ?_
  refine J_cald (z := 8) (f := xs) dL_law_1405 hcon (vp_c (by decide)) ?_
  refine J_callV (As := [.int (xs (1 : Int32).toNatClampNeg), .int (xs (2 : Int32).toNatClampNeg)]) (rest := []) dL_law_1406 (c_X10_now0 (d := 3) (h := h) (a0 := (xs (1 : Int32).toNatClampNeg)) (a1 := (xs (2 : Int32).toNatClampNeg)) (by decide) (zx_0 hx) (zx_1 hx)) hN k1090 k1091 k1092 (zx_0 hx) rfl rfl k87 k1093 np_X10_now (Nat.le_trans (by decide) hd) (by decide) (by decide) (by decide) (hk182 hx.1) rfl (Nat.le_of_ble_eq_true rfl) (fun r_1 h_2 p_3 => ?_)
  obtain ⟨rfl, w_4⟩ := p_3
  refine J_w w_4 ?_
  refine J_aload_n (i := 2) (j := 1) dL_law_1409 rfl rfl ?_
  refine J_aload_nC (i := 0) (j := 3) dL_law_1410 rfl rfl ?_
  refine J_iload_n (i := 3) (j := 0) dL_law_1411 rfl rfl ?_
  refine J_iconst (v := 1) dL_law_1412 (by decide) ?_
  refine J_iadd dL_law_1413 ?_
  refine J_ci (v := 1) (by decide) ?_
  refine J_cald (z := 8) (f := xs) dL_law_1414 hcon (vp_c (by decide)) ?_
  refine J_aload_nC (i := 0) (j := 3) dL_law_1415 rfl rfl ?_
  refine J_iload_n (i := 3) (j := 0) dL_law_1416 rfl rfl ?_
  refine J_iconst (v := 2) dL_law_1417 (by decide) ?_
  refine J_iadd dL_law_1418 ?_
  refine J_ci (v := 2) (by decide) ?_
  refine J_cald (z := 8) (f := xs) dL_law_1419 hcon (vp_c (by decide)) ?_
  refine J_callV (As := [.int (xs (1 : Int32).toNatClampNeg), .int (xs (2 : Int32).toNatClampNeg)]) (rest := [.int (-1)]) dL_law_1420 (c_X11_now0 (d := 4) (h := h) (a0 := (xs (1 : Int32).toNatClampNeg)) (a1 := (xs (2 : Int32).toNatClampNeg)) (by decide) (zm_162 hm) (zm_167 hm)) hN k1710 k1711 k1712 (zm_162 hm) rfl rfl k97 k1713 np_X11_now (Nat.le_trans (by decide) hd) (by decide) (by decide) (by decide) (hk182 hx.1) rfl (Nat.le_of_ble_eq_true rfl) (fun r_5 h_6 p_7 => ?_)
  obtain rfl := p_7
  refine J_icmp_eq (tgt := 2268) dL_law_1423 (by decide) (fun _ => ?_) (fun q => absurd (by decide) q)
  exact law_tail hq hcon (by decide) (by decide)
set_option maxHeartbeats 4000000 in
set_option maxRecDepth 100000 in
theorem law_25 {x : JX} {bb : Nat} {xs : Nat → Int32} {h : List MC} (hq : LQ x bb) (hN : JN x con0) (hcon : x.2.2.2.2.2.2.2.2.2.2.2.2.2.2.1 0 = some (8, xs)) (hx : ZX h) (hm : ZM h) (hd : 12 ≤ 12) : J x yL_law code 4 ret 12 600000 7302250 0 1428 [(3, .int 0), (2, .ref 162), (1, .ref 0), (0, .retAddr 0)] [] h 182 13870 := by
  refine J_aload_n (i := 1) (j := 2) dL_law_1428 rfl rfl ?_
  refine J_aload_nC (i := 0) (j := 3) dL_law_1429 rfl rfl ?_
  refine J_iload_n (i := 3) (j := 0) dL_law_1430 rfl rfl ?_
  refine J_iconst (v := 1) dL_law_1431 (by decide) ?_
  refine J_iadd dL_law_1432 ?_
  refine J_ci (v := 1) (by decide) ?_
  refine J_cald (z := 8) (f := xs) dL_law_1433 hcon (vp_c (by decide)) ?_
  refine J_aload_nC (i := 0) (j := 3) dL_law_1434 rfl rfl ?_
  refine J_iload_n (i := 3) (j := 0) dL_law_1435 rfl rfl ?_
  refine J_iconst (v := 2) dL_law_1436 (by decide) ?_
  refine J_iadd dL_law_1437 ?_
  refine J_ci (v := 2) (by decide) ?_
  refine J_cald (z := 8) (f := xs) dL_law_1438 hcon (vp_c (by decide)) ?_
  refine J_aload_nC (i := 0) (j := 3) dL_law_1439 rfl rfl ?_
  refine J_iload_n (i := 3) (j := 0) dL_law_1440 rfl rfl ?_
  refine J_iconst (v := 3) dL_law_1441 (by decide) ?_
  refine J_iadd dL_law_1442 ?_
  refine J_ci (v := 3) (by decide) ?_
  refine J_cald (z := 8) (f := xs) dL_law_1443 hcon (vp_c (by decide)) ?_
  refine J_aload_nC (i := 0) (j := 3) dL_law_1444 rfl rfl ?_
  refine J_iload_n (i := 3) (j := 0) dL_law_1445 rfl rfl ?_
  refine J_iconst (v := 4) dL_law_1446 (by decide) ?_
  refine J_iadd dL_law_1447 ?_
  refine J_ci (v := 4) (by decide) ?_
  refine J_cald (z := 8) (f := xs) dL_law_1448 hcon (vp_c (by decide)) ?_
  refine J_aload_nC (i := 0) (j := 3) dL_law_1449 rfl rfl ?_
  refine J_iload_n (i := 3) (j := 0) dL_law_1450 rfl rfl ?_
  refine J_iconst (v := 5) dL_law_1451 (by decide) ?_
  refine J_iadd dL_law_1452 ?_
  refine J_ci (v := 5) (by decide) ?_
  refine J_cald (z := 8) (f := xs) dL_law_1453 hcon (vp_c (by decide)) ?_
  refine J_callV (As := [.int (xs (1 : Int32).toNatClampNeg), .int (xs (2 : Int32).toNatClampNeg), .int (xs (3 : Int32).toNatClampNeg), .int (xs (4 : Int32).toNatClampNeg), .int (xs (5 : Int32).toNatClampNeg)]) (rest := []) dL_law_1454 (c_X10_years0 (d := 3) (h := h) (a0 := (xs (1 : Int32).toNatClampNeg)) (a1 := (xs (2 : Int32).toNatClampNeg)) (a2 := (xs (3 : Int32).toNatClampNeg)) (a3 := (xs (4 : Int32).toNatClampNeg)) (a4 := (xs (5 : Int32).toNatClampNeg)) (by decide) (zx_0 hx) (zx_1 hx)) hN k1100 k1101 k1102 (zx_0 hx) rfl rfl k87 k1103 np_X10_years (Nat.le_trans (by decide) hd) (by decide) (by decide) (by decide) (hk182 hx.1) rfl (Nat.le_of_ble_eq_true rfl) (fun r_1 h_2 p_3 => ?_)
  obtain ⟨rfl, w_4⟩ := p_3
  refine J_w w_4 ?_
  refine J_aload_n (i := 2) (j := 1) dL_law_1457 rfl rfl ?_
  refine J_aload_nC (i := 0) (j := 3) dL_law_1458 rfl rfl ?_
  refine J_iload_n (i := 3) (j := 0) dL_law_1459 rfl rfl ?_
  refine J_iconst (v := 1) dL_law_1460 (by decide) ?_
  refine J_iadd dL_law_1461 ?_
  refine J_ci (v := 1) (by decide) ?_
  refine J_cald (z := 8) (f := xs) dL_law_1462 hcon (vp_c (by decide)) ?_
  refine J_aload_nC (i := 0) (j := 3) dL_law_1463 rfl rfl ?_
  refine J_iload_n (i := 3) (j := 0) dL_law_1464 rfl rfl ?_
  refine J_iconst (v := 2) dL_law_1465 (by decide) ?_
  refine J_iadd dL_law_1466 ?_
  refine J_ci (v := 2) (by decide) ?_
  refine J_cald (z := 8) (f := xs) dL_law_1467 hcon (vp_c (by decide)) ?_
  refine J_aload_nC (i := 0) (j := 3) dL_law_1468 rfl rfl ?_
  refine J_iload_n (i := 3) (j := 0) dL_law_1469 rfl rfl ?_
  refine J_iconst (v := 3) dL_law_1470 (by decide) ?_
  refine J_iadd dL_law_1471 ?_
  refine J_ci (v := 3) (by decide) ?_
  refine J_cald (z := 8) (f := xs) dL_law_1472 hcon (vp_c (by decide)) ?_
  refine J_aload_nC (i := 0) (j := 3) dL_law_1473 rfl rfl ?_
  refine J_iload_n (i := 3) (j := 0) dL_law_1474 rfl rfl ?_
  refine J_iconst (v := 4) dL_law_1475 (by decide) ?_
  refine J_iadd dL_law_1476 ?_
  refine J_ci (v := 4) (by decide) ?_
  refine J_cald (z := 8) (f := xs) dL_law_1477 hcon (vp_c (by decide)) ?_
  refine J_aload_nC (i := 0) (j := 3) dL_law_1478 rfl rfl ?_
  refine J_iload_n (i := 3) (j := 0) dL_law_1479 rfl rfl ?_
  refine J_iconst (v := 5) dL_law_1480 (by decide) ?_
  refine J_iadd dL_law_1481 ?_
  refine J_ci (v := 5) (by decide) ?_
  refine J_cald (z := 8) (f := xs) dL_law_1482 hcon (vp_c (by decide)) ?_
  refine J_callV (As := [.int (xs (1 : Int32).toNatClampNeg), .int (xs (2 : Int32).toNatClampNeg), .int (xs (3 : Int32).toNatClampNeg), .int (xs (4 : Int32).toNatClampNeg), .int (xs (5 : Int32).toNatClampNeg)]) (rest := [.long (-1)]) dL_law_1483 (c_X11_years0 (d := 4) (h := h) (a0 := (xs (1 : Int32).toNatClampNeg)) (a1 := (xs (2 : Int32).toNatClampNeg)) (a2 := (xs (3 : Int32).toNatClampNeg)) (a3 := (xs (4 : Int32).toNatClampNeg)) (a4 := (xs (5 : Int32).toNatClampNeg)) (by decide) (zm_162 hm) (zm_167 hm)) hN k1714 k1715 k1716 (zm_162 hm) rfl rfl k97 k1717 np_X11_years (Nat.le_trans (by decide) hd) (by decide) (by decide) (by decide) (hk182 hx.1) rfl (Nat.le_of_ble_eq_true rfl) (fun r_5 h_6 p_7 => ?_)
  obtain rfl := p_7
  refine J_lcmp dL_law_1486 ?_
  refine J_ci (v := 0) (by decide) ?_
  refine J_if_eq (tgt := 2268) dL_law_1487 (by decide) (fun _ => ?_) (fun q => absurd (by decide) q)
  exact law_tail hq hcon (by decide) (by decide)
set_option maxHeartbeats 4000000 in
set_option maxRecDepth 100000 in
theorem law_26 {x : JX} {bb : Nat} {xs : Nat → Int32} {h : List MC} (hq : LQ x bb) (hN : JN x con0) (hcon : x.2.2.2.2.2.2.2.2.2.2.2.2.2.2.1 0 = some (8, xs)) (hx : ZX h) (hm : ZM h) (hd : 12 ≤ 12) : J x yL_law code 4 ret 12 600000 7302250 0 1492 [(3, .int 0), (2, .ref 162), (1, .ref 0), (0, .retAddr 0)] [] h 182 13870 := by
  refine J_aload_n (i := 1) (j := 2) dL_law_1492 rfl rfl ?_
  refine J_aload_nC (i := 0) (j := 3) dL_law_1493 rfl rfl ?_
  refine J_iload_n (i := 3) (j := 0) dL_law_1494 rfl rfl ?_
  refine J_iconst (v := 1) dL_law_1495 (by decide) ?_
  refine J_iadd dL_law_1496 ?_
  refine J_ci (v := 1) (by decide) ?_
  refine J_cald (z := 8) (f := xs) dL_law_1497 hcon (vp_c (by decide)) ?_
  refine J_aload_nC (i := 0) (j := 3) dL_law_1498 rfl rfl ?_
  refine J_iload_n (i := 3) (j := 0) dL_law_1499 rfl rfl ?_
  refine J_iconst (v := 2) dL_law_1500 (by decide) ?_
  refine J_iadd dL_law_1501 ?_
  refine J_ci (v := 2) (by decide) ?_
  refine J_cald (z := 8) (f := xs) dL_law_1502 hcon (vp_c (by decide)) ?_
  refine J_aload_nC (i := 0) (j := 3) dL_law_1503 rfl rfl ?_
  refine J_iload_n (i := 3) (j := 0) dL_law_1504 rfl rfl ?_
  refine J_iconst (v := 3) dL_law_1505 (by decide) ?_
  refine J_iadd dL_law_1506 ?_
  refine J_ci (v := 3) (by decide) ?_
  refine J_cald (z := 8) (f := xs) dL_law_1507 hcon (vp_c (by decide)) ?_
  refine J_callV (As := [.int (xs (1 : Int32).toNatClampNeg), .int (xs (2 : Int32).toNatClampNeg), .int (xs (3 : Int32).toNatClampNeg)]) (rest := []) dL_law_1508 (c_X10_spared0 (d := 3) (h := h) (a0 := (xs (1 : Int32).toNatClampNeg)) (a1 := (xs (2 : Int32).toNatClampNeg)) (a2 := (xs (3 : Int32).toNatClampNeg)) (by decide) (zx_0 hx) (zx_1 hx)) hN k1136 k1137 k1138 (zx_0 hx) rfl rfl k87 k1139 np_X10_spared (Nat.le_trans (by decide) hd) (by decide) (by decide) (by decide) (hk182 hx.1) rfl (Nat.le_of_ble_eq_true rfl) (fun r_1 h_2 p_3 => ?_)
  obtain ⟨rfl, w_4⟩ := p_3
  refine J_w w_4 ?_
  refine J_aload_n (i := 2) (j := 1) dL_law_1511 rfl rfl ?_
  refine J_aload_nC (i := 0) (j := 3) dL_law_1512 rfl rfl ?_
  refine J_iload_n (i := 3) (j := 0) dL_law_1513 rfl rfl ?_
  refine J_iconst (v := 1) dL_law_1514 (by decide) ?_
  refine J_iadd dL_law_1515 ?_
  refine J_ci (v := 1) (by decide) ?_
  refine J_cald (z := 8) (f := xs) dL_law_1516 hcon (vp_c (by decide)) ?_
  refine J_aload_nC (i := 0) (j := 3) dL_law_1517 rfl rfl ?_
  refine J_iload_n (i := 3) (j := 0) dL_law_1518 rfl rfl ?_
  refine J_iconst (v := 2) dL_law_1519 (by decide) ?_
  refine J_iadd dL_law_1520 ?_
  refine J_ci (v := 2) (by decide) ?_
  refine J_cald (z := 8) (f := xs) dL_law_1521 hcon (vp_c (by decide)) ?_
  refine J_aload_nC (i := 0) (j := 3) dL_law_1522 rfl rfl ?_
  refine J_iload_n (i := 3) (j := 0) dL_law_1523 rfl rfl ?_
  refine J_iconst (v := 3) dL_law_1524 (by decide) ?_
  refine J_iadd dL_law_1525 ?_
  refine J_ci (v := 3) (by decide) ?_
  refine J_cald (z := 8) (f := xs) dL_law_1526 hcon (vp_c (by decide)) ?_
  refine J_callV (As := [.int (xs (1 : Int32).toNatClampNeg), .int (xs (2 : Int32).toNatClampNeg), .int (xs (3 : Int32).toNatClampNeg)]) (rest := [.int (-1)]) dL_law_1527 (c_X11_spared0 (d := 4) (h := h) (a0 := (xs (1 : Int32).toNatClampNeg)) (a1 := (xs (2 : Int32).toNatClampNeg)) (a2 := (xs (3 : Int32).toNatClampNeg)) (by decide) (zm_162 hm) (zm_167 hm)) hN k1727 k1728 k1729 (zm_162 hm) rfl rfl k97 k1730 np_X11_spared (Nat.le_trans (by decide) hd) (by decide) (by decide) (by decide) (hk182 hx.1) rfl (Nat.le_of_ble_eq_true rfl) (fun r_5 h_6 p_7 => ?_)
  obtain rfl := p_7
  refine J_icmp_eq (tgt := 2268) dL_law_1530 (by decide) (fun _ => ?_) (fun q => absurd (by decide) q)
  exact law_tail hq hcon (by decide) (by decide)
set_option maxHeartbeats 4000000 in
set_option maxRecDepth 100000 in
theorem law_27 {x : JX} {bb : Nat} {xs : Nat → Int32} {h : List MC} (hq : LQ x bb) (hN : JN x con0) (hcon : x.2.2.2.2.2.2.2.2.2.2.2.2.2.2.1 0 = some (8, xs)) (hx : ZX h) (hm : ZM h) (hd : 12 ≤ 12) : J x yL_law code 4 ret 12 600000 7302250 0 1535 [(3, .int 0), (2, .ref 162), (1, .ref 0), (0, .retAddr 0)] [] h 182 13870 := by
  refine J_aload_n (i := 1) (j := 2) dL_law_1535 rfl rfl ?_
  refine J_aload_nC (i := 0) (j := 3) dL_law_1536 rfl rfl ?_
  refine J_iload_n (i := 3) (j := 0) dL_law_1537 rfl rfl ?_
  refine J_iconst (v := 1) dL_law_1538 (by decide) ?_
  refine J_iadd dL_law_1539 ?_
  refine J_ci (v := 1) (by decide) ?_
  refine J_cald (z := 8) (f := xs) dL_law_1540 hcon (vp_c (by decide)) ?_
  refine J_aload_nC (i := 0) (j := 3) dL_law_1541 rfl rfl ?_
  refine J_iload_n (i := 3) (j := 0) dL_law_1542 rfl rfl ?_
  refine J_iconst (v := 2) dL_law_1543 (by decide) ?_
  refine J_iadd dL_law_1544 ?_
  refine J_ci (v := 2) (by decide) ?_
  refine J_cald (z := 8) (f := xs) dL_law_1545 hcon (vp_c (by decide)) ?_
  refine J_callV (As := [.int (xs (1 : Int32).toNatClampNeg), .int (xs (2 : Int32).toNatClampNeg)]) (rest := []) dL_law_1546 (c_X10_deep0 (d := 3) (h := h) (a0 := (xs (1 : Int32).toNatClampNeg)) (a1 := (xs (2 : Int32).toNatClampNeg)) (by decide) (zx_0 hx) (zx_1 hx)) hN k1140 k1141 k1142 (zx_0 hx) rfl rfl k87 k1143 np_X10_deep (Nat.le_trans (by decide) hd) (by decide) (by decide) (by decide) (hk182 hx.1) rfl (Nat.le_of_ble_eq_true rfl) (fun r_1 h_2 p_3 => ?_)
  obtain ⟨rfl, w_4⟩ := p_3
  refine J_w w_4 ?_
  refine J_aload_n (i := 2) (j := 1) dL_law_1549 rfl rfl ?_
  refine J_aload_nC (i := 0) (j := 3) dL_law_1550 rfl rfl ?_
  refine J_iload_n (i := 3) (j := 0) dL_law_1551 rfl rfl ?_
  refine J_iconst (v := 1) dL_law_1552 (by decide) ?_
  refine J_iadd dL_law_1553 ?_
  refine J_ci (v := 1) (by decide) ?_
  refine J_cald (z := 8) (f := xs) dL_law_1554 hcon (vp_c (by decide)) ?_
  refine J_aload_nC (i := 0) (j := 3) dL_law_1555 rfl rfl ?_
  refine J_iload_n (i := 3) (j := 0) dL_law_1556 rfl rfl ?_
  refine J_iconst (v := 2) dL_law_1557 (by decide) ?_
  refine J_iadd dL_law_1558 ?_
  refine J_ci (v := 2) (by decide) ?_
  refine J_cald (z := 8) (f := xs) dL_law_1559 hcon (vp_c (by decide)) ?_
  refine J_callV (As := [.int (xs (1 : Int32).toNatClampNeg), .int (xs (2 : Int32).toNatClampNeg)]) (rest := [.int (-1)]) dL_law_1560 (c_X11_deep0 (d := 4) (h := h) (a0 := (xs (1 : Int32).toNatClampNeg)) (a1 := (xs (2 : Int32).toNatClampNeg)) (by decide) (zm_162 hm) (zm_167 hm)) hN k1731 k1732 k1733 (zm_162 hm) rfl rfl k97 k1734 np_X11_deep (Nat.le_trans (by decide) hd) (by decide) (by decide) (by decide) (hk182 hx.1) rfl (Nat.le_of_ble_eq_true rfl) (fun r_5 h_6 p_7 => ?_)
  obtain rfl := p_7
  refine J_icmp_eq (tgt := 2268) dL_law_1563 (by decide) (fun _ => ?_) (fun q => absurd (by decide) q)
  exact law_tail hq hcon (by decide) (by decide)
set_option maxHeartbeats 4000000 in
set_option maxRecDepth 100000 in
theorem law_28 {x : JX} {bb : Nat} {xs : Nat → Int32} {h : List MC} (hq : LQ x bb) (hN : JN x con0) (hcon : x.2.2.2.2.2.2.2.2.2.2.2.2.2.2.1 0 = some (8, xs)) (hx : ZX h) (hm : ZM h) (hd : 12 ≤ 12) : J x yL_law code 4 ret 12 600000 7302250 0 1568 [(3, .int 0), (2, .ref 162), (1, .ref 0), (0, .retAddr 0)] [] h 182 13870 := by
  refine J_aload_n (i := 1) (j := 2) dL_law_1568 rfl rfl ?_
  refine J_aload_nC (i := 0) (j := 3) dL_law_1569 rfl rfl ?_
  refine J_iload_n (i := 3) (j := 0) dL_law_1570 rfl rfl ?_
  refine J_iconst (v := 1) dL_law_1571 (by decide) ?_
  refine J_iadd dL_law_1572 ?_
  refine J_ci (v := 1) (by decide) ?_
  refine J_cald (z := 8) (f := xs) dL_law_1573 hcon (vp_c (by decide)) ?_
  refine J_aload_nC (i := 0) (j := 3) dL_law_1574 rfl rfl ?_
  refine J_iload_n (i := 3) (j := 0) dL_law_1575 rfl rfl ?_
  refine J_iconst (v := 2) dL_law_1576 (by decide) ?_
  refine J_iadd dL_law_1577 ?_
  refine J_ci (v := 2) (by decide) ?_
  refine J_cald (z := 8) (f := xs) dL_law_1578 hcon (vp_c (by decide)) ?_
  refine J_callV (As := [.int (xs (1 : Int32).toNatClampNeg), .int (xs (2 : Int32).toNatClampNeg)]) (rest := []) dL_law_1579 (c_X10_safe0 (d := 3) (h := h) (a0 := (xs (1 : Int32).toNatClampNeg)) (a1 := (xs (2 : Int32).toNatClampNeg)) (by decide) (zx_0 hx) (zx_1 hx)) hN k1150 k1151 k1152 (zx_0 hx) rfl rfl k87 k1153 np_X10_safe (Nat.le_trans (by decide) hd) (by decide) (by decide) (by decide) (hk182 hx.1) rfl (Nat.le_of_ble_eq_true rfl) (fun r_1 h_2 p_3 => ?_)
  obtain ⟨rfl, w_4⟩ := p_3
  refine J_w w_4 ?_
  refine J_aload_n (i := 2) (j := 1) dL_law_1582 rfl rfl ?_
  refine J_aload_nC (i := 0) (j := 3) dL_law_1583 rfl rfl ?_
  refine J_iload_n (i := 3) (j := 0) dL_law_1584 rfl rfl ?_
  refine J_iconst (v := 1) dL_law_1585 (by decide) ?_
  refine J_iadd dL_law_1586 ?_
  refine J_ci (v := 1) (by decide) ?_
  refine J_cald (z := 8) (f := xs) dL_law_1587 hcon (vp_c (by decide)) ?_
  refine J_aload_nC (i := 0) (j := 3) dL_law_1588 rfl rfl ?_
  refine J_iload_n (i := 3) (j := 0) dL_law_1589 rfl rfl ?_
  refine J_iconst (v := 2) dL_law_1590 (by decide) ?_
  refine J_iadd dL_law_1591 ?_
  refine J_ci (v := 2) (by decide) ?_
  refine J_cald (z := 8) (f := xs) dL_law_1592 hcon (vp_c (by decide)) ?_
  refine J_callV (As := [.int (xs (1 : Int32).toNatClampNeg), .int (xs (2 : Int32).toNatClampNeg)]) (rest := [.int (-1)]) dL_law_1593 (c_X11_safe0 (d := 4) (h := h) (a0 := (xs (1 : Int32).toNatClampNeg)) (a1 := (xs (2 : Int32).toNatClampNeg)) (by decide) (zm_162 hm) (zm_167 hm)) hN k1735 k1736 k1737 (zm_162 hm) rfl rfl k97 k1738 np_X11_safe (Nat.le_trans (by decide) hd) (by decide) (by decide) (by decide) (hk182 hx.1) rfl (Nat.le_of_ble_eq_true rfl) (fun r_5 h_6 p_7 => ?_)
  obtain rfl := p_7
  refine J_icmp_eq (tgt := 2268) dL_law_1596 (by decide) (fun _ => ?_) (fun q => absurd (by decide) q)
  exact law_tail hq hcon (by decide) (by decide)
set_option maxHeartbeats 4000000 in
set_option maxRecDepth 100000 in
theorem law_29 {x : JX} {bb : Nat} {xs : Nat → Int32} {h : List MC} (hq : LQ x bb) (hN : JN x con0) (hcon : x.2.2.2.2.2.2.2.2.2.2.2.2.2.2.1 0 = some (8, xs)) (hx : ZX h) (hm : ZM h) (hd : 12 ≤ 12) : J x yL_law code 4 ret 12 600000 7302250 0 1601 [(3, .int 0), (2, .ref 162), (1, .ref 0), (0, .retAddr 0)] [] h 182 13870 := by
  refine J_aload_n (i := 1) (j := 2) dL_law_1601 rfl rfl ?_
  refine J_aload_nC (i := 0) (j := 3) dL_law_1602 rfl rfl ?_
  refine J_iload_n (i := 3) (j := 0) dL_law_1603 rfl rfl ?_
  refine J_iconst (v := 1) dL_law_1604 (by decide) ?_
  refine J_iadd dL_law_1605 ?_
  refine J_ci (v := 1) (by decide) ?_
  refine J_cald (z := 8) (f := xs) dL_law_1606 hcon (vp_c (by decide)) ?_
  refine J_aload_nC (i := 0) (j := 3) dL_law_1607 rfl rfl ?_
  refine J_iload_n (i := 3) (j := 0) dL_law_1608 rfl rfl ?_
  refine J_iconst (v := 2) dL_law_1609 (by decide) ?_
  refine J_iadd dL_law_1610 ?_
  refine J_ci (v := 2) (by decide) ?_
  refine J_cald (z := 8) (f := xs) dL_law_1611 hcon (vp_c (by decide)) ?_
  refine J_callV (As := [.int (xs (1 : Int32).toNatClampNeg), .int (xs (2 : Int32).toNatClampNeg)]) (rest := []) dL_law_1612 (c_X10_weighs0 (d := 3) (h := h) (a0 := (xs (1 : Int32).toNatClampNeg)) (a1 := (xs (2 : Int32).toNatClampNeg)) (by decide) (zx_0 hx) (zx_1 hx)) hN k1154 k1155 k1156 (zx_0 hx) rfl rfl k87 k1157 np_X10_weighs (Nat.le_trans (by decide) hd) (by decide) (by decide) (by decide) (hk182 hx.1) rfl (Nat.le_of_ble_eq_true rfl) (fun r_1 h_2 p_3 => ?_)
  obtain ⟨rfl, w_4⟩ := p_3
  refine J_w w_4 ?_
  refine J_aload_n (i := 2) (j := 1) dL_law_1615 rfl rfl ?_
  refine J_aload_nC (i := 0) (j := 3) dL_law_1616 rfl rfl ?_
  refine J_iload_n (i := 3) (j := 0) dL_law_1617 rfl rfl ?_
  refine J_iconst (v := 1) dL_law_1618 (by decide) ?_
  refine J_iadd dL_law_1619 ?_
  refine J_ci (v := 1) (by decide) ?_
  refine J_cald (z := 8) (f := xs) dL_law_1620 hcon (vp_c (by decide)) ?_
  refine J_aload_nC (i := 0) (j := 3) dL_law_1621 rfl rfl ?_
  refine J_iload_n (i := 3) (j := 0) dL_law_1622 rfl rfl ?_
  refine J_iconst (v := 2) dL_law_1623 (by decide) ?_
  refine J_iadd dL_law_1624 ?_
  refine J_ci (v := 2) (by decide) ?_
  refine J_cald (z := 8) (f := xs) dL_law_1625 hcon (vp_c (by decide)) ?_
  refine J_callV (As := [.int (xs (1 : Int32).toNatClampNeg), .int (xs (2 : Int32).toNatClampNeg)]) (rest := [.int (-1)]) dL_law_1626 (c_X11_weighs0 (d := 4) (h := h) (a0 := (xs (1 : Int32).toNatClampNeg)) (a1 := (xs (2 : Int32).toNatClampNeg)) (by decide) (zm_162 hm) (zm_167 hm)) hN k1739 k1740 k1741 (zm_162 hm) rfl rfl k97 k1742 np_X11_weighs (Nat.le_trans (by decide) hd) (by decide) (by decide) (by decide) (hk182 hx.1) rfl (Nat.le_of_ble_eq_true rfl) (fun r_5 h_6 p_7 => ?_)
  obtain rfl := p_7
  refine J_icmp_eq (tgt := 2268) dL_law_1629 (by decide) (fun _ => ?_) (fun q => absurd (by decide) q)
  exact law_tail hq hcon (by decide) (by decide)
set_option maxHeartbeats 4000000 in
set_option maxRecDepth 100000 in
theorem law_30 {x : JX} {bb : Nat} {xs : Nat → Int32} {h : List MC} (hq : LQ x bb) (hN : JN x con0) (hcon : x.2.2.2.2.2.2.2.2.2.2.2.2.2.2.1 0 = some (8, xs)) (hx : ZX h) (hm : ZM h) (hd : 12 ≤ 12) : J x yL_law code 4 ret 12 600000 7302250 0 1634 [(3, .int 0), (2, .ref 162), (1, .ref 0), (0, .retAddr 0)] [] h 182 13870 := by
  refine J_aload_n (i := 1) (j := 2) dL_law_1634 rfl rfl ?_
  refine J_aload_nC (i := 0) (j := 3) dL_law_1635 rfl rfl ?_
  refine J_iload_n (i := 3) (j := 0) dL_law_1636 rfl rfl ?_
  refine J_iconst (v := 1) dL_law_1637 (by decide) ?_
  refine J_iadd dL_law_1638 ?_
  refine J_ci (v := 1) (by decide) ?_
  refine J_cald (z := 8) (f := xs) dL_law_1639 hcon (vp_c (by decide)) ?_
  refine J_aload_nC (i := 0) (j := 3) dL_law_1640 rfl rfl ?_
  refine J_iload_n (i := 3) (j := 0) dL_law_1641 rfl rfl ?_
  refine J_iconst (v := 2) dL_law_1642 (by decide) ?_
  refine J_iadd dL_law_1643 ?_
  refine J_ci (v := 2) (by decide) ?_
  refine J_cald (z := 8) (f := xs) dL_law_1644 hcon (vp_c (by decide)) ?_
  refine J_aload_nC (i := 0) (j := 3) dL_law_1645 rfl rfl ?_
  refine J_iload_n (i := 3) (j := 0) dL_law_1646 rfl rfl ?_
  refine J_iconst (v := 3) dL_law_1647 (by decide) ?_
  refine J_iadd dL_law_1648 ?_
  refine J_ci (v := 3) (by decide) ?_
  refine J_cald (z := 8) (f := xs) dL_law_1649 hcon (vp_c (by decide)) ?_
  refine J_aload_nC (i := 0) (j := 3) dL_law_1650 rfl rfl ?_
  refine J_iload_n (i := 3) (j := 0) dL_law_1651 rfl rfl ?_
  refine J_iconst (v := 4) dL_law_1652 (by decide) ?_
  refine J_iadd dL_law_1653 ?_
  refine J_ci (v := 4) (by decide) ?_
  refine J_cald (z := 8) (f := xs) dL_law_1654 hcon (vp_c (by decide)) ?_
  refine J_if_eq (tgt := 1662) dL_law_1655 (by decide) (fun c_1 => ?_) (fun c_1 => ?_)
  · refine J_iconst (v := 0) dL_law_1662 (by decide) ?_
    refine J_callV (As := [.int (xs (1 : Int32).toNatClampNeg), .int (xs (2 : Int32).toNatClampNeg), .int (xs (3 : Int32).toNatClampNeg), .int 0]) (rest := []) dL_law_1663 (c_X10_upon0 (d := 3) (h := h) (a0 := (xs (1 : Int32).toNatClampNeg)) (a1 := (xs (2 : Int32).toNatClampNeg)) (a2 := (xs (3 : Int32).toNatClampNeg)) (a3 := 0) (by decide) (zx_0 hx) (zx_1 hx)) hN k1162 k1163 k1164 (zx_0 hx) rfl rfl k87 k1165 np_X10_upon (Nat.le_trans (by decide) hd) (by decide) (by decide) (by decide) (hk182 hx.1) rfl (Nat.le_of_ble_eq_true rfl) (fun r_2 h_3 p_4 => ?_)
    obtain ⟨rfl, w_5⟩ := p_4
    refine J_w w_5 ?_
    refine J_aload_n (i := 2) (j := 1) dL_law_1666 rfl rfl ?_
    refine J_aload_nC (i := 0) (j := 3) dL_law_1667 rfl rfl ?_
    refine J_iload_n (i := 3) (j := 0) dL_law_1668 rfl rfl ?_
    refine J_iconst (v := 1) dL_law_1669 (by decide) ?_
    refine J_iadd dL_law_1670 ?_
    refine J_ci (v := 1) (by decide) ?_
    refine J_cald (z := 8) (f := xs) dL_law_1671 hcon (vp_c (by decide)) ?_
    refine J_aload_nC (i := 0) (j := 3) dL_law_1672 rfl rfl ?_
    refine J_iload_n (i := 3) (j := 0) dL_law_1673 rfl rfl ?_
    refine J_iconst (v := 2) dL_law_1674 (by decide) ?_
    refine J_iadd dL_law_1675 ?_
    refine J_ci (v := 2) (by decide) ?_
    refine J_cald (z := 8) (f := xs) dL_law_1676 hcon (vp_c (by decide)) ?_
    refine J_aload_nC (i := 0) (j := 3) dL_law_1677 rfl rfl ?_
    refine J_iload_n (i := 3) (j := 0) dL_law_1678 rfl rfl ?_
    refine J_iconst (v := 3) dL_law_1679 (by decide) ?_
    refine J_iadd dL_law_1680 ?_
    refine J_ci (v := 3) (by decide) ?_
    refine J_cald (z := 8) (f := xs) dL_law_1681 hcon (vp_c (by decide)) ?_
    refine J_aload_nC (i := 0) (j := 3) dL_law_1682 rfl rfl ?_
    refine J_iload_n (i := 3) (j := 0) dL_law_1683 rfl rfl ?_
    refine J_iconst (v := 4) dL_law_1684 (by decide) ?_
    refine J_iadd dL_law_1685 ?_
    refine J_ci (v := 4) (by decide) ?_
    refine J_cald (z := 8) (f := xs) dL_law_1686 hcon (vp_c (by decide)) ?_
    refine J_if_eq (tgt := 1694) dL_law_1687 (by decide) (fun c_6 => ?_) (fun c_6 => ?_)
    · refine J_iconst (v := 0) dL_law_1694 (by decide) ?_
      refine J_callV (As := [.int (xs (1 : Int32).toNatClampNeg), .int (xs (2 : Int32).toNatClampNeg), .int (xs (3 : Int32).toNatClampNeg), .int 0]) (rest := [.int (-1)]) dL_law_1695 (c_X11_upon0 (d := 4) (h := h) (a0 := (xs (1 : Int32).toNatClampNeg)) (a1 := (xs (2 : Int32).toNatClampNeg)) (a2 := (xs (3 : Int32).toNatClampNeg)) (a3 := 0) (by decide) (zm_162 hm) (zm_167 hm)) hN k1743 k1744 k1745 (zm_162 hm) rfl rfl k97 k1746 np_X11_upon (Nat.le_trans (by decide) hd) (by decide) (by decide) (by decide) (hk182 hx.1) rfl (Nat.le_of_ble_eq_true rfl) (fun r_7 h_8 p_9 => ?_)
      obtain rfl := p_9
      refine J_icmp_eq (tgt := 2268) dL_law_1698 (by decide) (fun _ => ?_) (fun q => absurd (by decide) q)
      exact law_tail hq hcon (by decide) (by decide)
    · refine J_iconst (v := 1) dL_law_1690 (by decide) ?_
      refine J_goto (tgt := 1695) dL_law_1691 (by decide) ?_
      refine J_callV (As := [.int (xs (1 : Int32).toNatClampNeg), .int (xs (2 : Int32).toNatClampNeg), .int (xs (3 : Int32).toNatClampNeg), .int 1]) (rest := [.int (-1)]) dL_law_1695 (c_X11_upon0 (d := 4) (h := h) (a0 := (xs (1 : Int32).toNatClampNeg)) (a1 := (xs (2 : Int32).toNatClampNeg)) (a2 := (xs (3 : Int32).toNatClampNeg)) (a3 := 1) (by decide) (zm_162 hm) (zm_167 hm)) hN k1743 k1744 k1745 (zm_162 hm) rfl rfl k97 k1746 np_X11_upon (Nat.le_trans (by decide) hd) (by decide) (by decide) (by decide) (hk182 hx.1) rfl (Nat.le_of_ble_eq_true rfl) (fun r_10 h_11 p_12 => ?_)
      obtain rfl := p_12
      refine J_icmp_eq (tgt := 2268) dL_law_1698 (by decide) (fun _ => ?_) (fun q => absurd (by decide) q)
      exact law_tail hq hcon (by decide) (by decide)
  · refine J_iconst (v := 1) dL_law_1658 (by decide) ?_
    refine J_goto (tgt := 1663) dL_law_1659 (by decide) ?_
    refine J_callV (As := [.int (xs (1 : Int32).toNatClampNeg), .int (xs (2 : Int32).toNatClampNeg), .int (xs (3 : Int32).toNatClampNeg), .int 1]) (rest := []) dL_law_1663 (c_X10_upon0 (d := 3) (h := h) (a0 := (xs (1 : Int32).toNatClampNeg)) (a1 := (xs (2 : Int32).toNatClampNeg)) (a2 := (xs (3 : Int32).toNatClampNeg)) (a3 := 1) (by decide) (zx_0 hx) (zx_1 hx)) hN k1162 k1163 k1164 (zx_0 hx) rfl rfl k87 k1165 np_X10_upon (Nat.le_trans (by decide) hd) (by decide) (by decide) (by decide) (hk182 hx.1) rfl (Nat.le_of_ble_eq_true rfl) (fun r_13 h_14 p_15 => ?_)
    obtain ⟨rfl, w_16⟩ := p_15
    refine J_w w_16 ?_
    refine J_aload_n (i := 2) (j := 1) dL_law_1666 rfl rfl ?_
    refine J_aload_nC (i := 0) (j := 3) dL_law_1667 rfl rfl ?_
    refine J_iload_n (i := 3) (j := 0) dL_law_1668 rfl rfl ?_
    refine J_iconst (v := 1) dL_law_1669 (by decide) ?_
    refine J_iadd dL_law_1670 ?_
    refine J_ci (v := 1) (by decide) ?_
    refine J_cald (z := 8) (f := xs) dL_law_1671 hcon (vp_c (by decide)) ?_
    refine J_aload_nC (i := 0) (j := 3) dL_law_1672 rfl rfl ?_
    refine J_iload_n (i := 3) (j := 0) dL_law_1673 rfl rfl ?_
    refine J_iconst (v := 2) dL_law_1674 (by decide) ?_
    refine J_iadd dL_law_1675 ?_
    refine J_ci (v := 2) (by decide) ?_
    refine J_cald (z := 8) (f := xs) dL_law_1676 hcon (vp_c (by decide)) ?_
    refine J_aload_nC (i := 0) (j := 3) dL_law_1677 rfl rfl ?_
    refine J_iload_n (i := 3) (j := 0) dL_law_1678 rfl rfl ?_
    refine J_iconst (v := 3) dL_law_1679 (by decide) ?_
    refine J_iadd dL_law_1680 ?_
    refine J_ci (v := 3) (by decide) ?_
    refine J_cald (z := 8) (f := xs) dL_law_1681 hcon (vp_c (by decide)) ?_
    refine J_aload_nC (i := 0) (j := 3) dL_law_1682 rfl rfl ?_
    refine J_iload_n (i := 3) (j := 0) dL_law_1683 rfl rfl ?_
    refine J_iconst (v := 4) dL_law_1684 (by decide) ?_
    refine J_iadd dL_law_1685 ?_
    refine J_ci (v := 4) (by decide) ?_
    refine J_cald (z := 8) (f := xs) dL_law_1686 hcon (vp_c (by decide)) ?_
    refine J_if_eq (tgt := 1694) dL_law_1687 (by decide) (fun c_17 => ?_) (fun c_17 => ?_)
    · refine J_iconst (v := 0) dL_law_1694 (by decide) ?_
      refine J_callV (As := [.int (xs (1 : Int32).toNatClampNeg), .int (xs (2 : Int32).toNatClampNeg), .int (xs (3 : Int32).toNatClampNeg), .int 0]) (rest := [.int (-1)]) dL_law_1695 (c_X11_upon0 (d := 4) (h := h) (a0 := (xs (1 : Int32).toNatClampNeg)) (a1 := (xs (2 : Int32).toNatClampNeg)) (a2 := (xs (3 : Int32).toNatClampNeg)) (a3 := 0) (by decide) (zm_162 hm) (zm_167 hm)) hN k1743 k1744 k1745 (zm_162 hm) rfl rfl k97 k1746 np_X11_upon (Nat.le_trans (by decide) hd) (by decide) (by decide) (by decide) (hk182 hx.1) rfl (Nat.le_of_ble_eq_true rfl) (fun r_18 h_19 p_20 => ?_)
      obtain rfl := p_20
      refine J_icmp_eq (tgt := 2268) dL_law_1698 (by decide) (fun _ => ?_) (fun q => absurd (by decide) q)
      exact law_tail hq hcon (by decide) (by decide)
    · refine J_iconst (v := 1) dL_law_1690 (by decide) ?_
      refine J_goto (tgt := 1695) dL_law_1691 (by decide) ?_
      refine J_callV (As := [.int (xs (1 : Int32).toNatClampNeg), .int (xs (2 : Int32).toNatClampNeg), .int (xs (3 : Int32).toNatClampNeg), .int 1]) (rest := [.int (-1)]) dL_law_1695 (c_X11_upon0 (d := 4) (h := h) (a0 := (xs (1 : Int32).toNatClampNeg)) (a1 := (xs (2 : Int32).toNatClampNeg)) (a2 := (xs (3 : Int32).toNatClampNeg)) (a3 := 1) (by decide) (zm_162 hm) (zm_167 hm)) hN k1743 k1744 k1745 (zm_162 hm) rfl rfl k97 k1746 np_X11_upon (Nat.le_trans (by decide) hd) (by decide) (by decide) (by decide) (hk182 hx.1) rfl (Nat.le_of_ble_eq_true rfl) (fun r_21 h_22 p_23 => ?_)
      obtain rfl := p_23
      refine J_icmp_eq (tgt := 2268) dL_law_1698 (by decide) (fun _ => ?_) (fun q => absurd (by decide) q)
      exact law_tail hq hcon (by decide) (by decide)
set_option maxHeartbeats 4000000 in
set_option maxRecDepth 100000 in
theorem law_31 {x : JX} {bb : Nat} {xs : Nat → Int32} {h : List MC} (hq : LQ x bb) (hN : JN x con0) (hcon : x.2.2.2.2.2.2.2.2.2.2.2.2.2.2.1 0 = some (8, xs)) (hx : ZX h) (hm : ZM h) (hd : 12 ≤ 12) : J x yL_law code 4 ret 12 600000 7302250 0 1703 [(3, .int 0), (2, .ref 162), (1, .ref 0), (0, .retAddr 0)] [] h 182 13870 := by
  refine J_aload_n (i := 1) (j := 2) dL_law_1703 rfl rfl ?_
  refine J_aload_nC (i := 0) (j := 3) dL_law_1704 rfl rfl ?_
  refine J_iload_n (i := 3) (j := 0) dL_law_1705 rfl rfl ?_
  refine J_iconst (v := 1) dL_law_1706 (by decide) ?_
  refine J_iadd dL_law_1707 ?_
  refine J_ci (v := 1) (by decide) ?_
  refine J_cald (z := 8) (f := xs) dL_law_1708 hcon (vp_c (by decide)) ?_
  refine J_aload_nC (i := 0) (j := 3) dL_law_1709 rfl rfl ?_
  refine J_iload_n (i := 3) (j := 0) dL_law_1710 rfl rfl ?_
  refine J_iconst (v := 2) dL_law_1711 (by decide) ?_
  refine J_iadd dL_law_1712 ?_
  refine J_ci (v := 2) (by decide) ?_
  refine J_cald (z := 8) (f := xs) dL_law_1713 hcon (vp_c (by decide)) ?_
  refine J_aload_nC (i := 0) (j := 3) dL_law_1714 rfl rfl ?_
  refine J_iload_n (i := 3) (j := 0) dL_law_1715 rfl rfl ?_
  refine J_iconst (v := 3) dL_law_1716 (by decide) ?_
  refine J_iadd dL_law_1717 ?_
  refine J_ci (v := 3) (by decide) ?_
  refine J_cald (z := 8) (f := xs) dL_law_1718 hcon (vp_c (by decide)) ?_
  refine J_callV (As := [.int (xs (1 : Int32).toNatClampNeg), .int (xs (2 : Int32).toNatClampNeg), .int (xs (3 : Int32).toNatClampNeg)]) (rest := []) dL_law_1719 (c_X10_runs0 (d := 3) (h := h) (a0 := (xs (1 : Int32).toNatClampNeg)) (a1 := (xs (2 : Int32).toNatClampNeg)) (a2 := (xs (3 : Int32).toNatClampNeg)) (by decide) (zx_0 hx) (zx_1 hx)) hN k1178 k1179 k1180 (zx_0 hx) rfl rfl k87 k1181 np_X10_runs (Nat.le_trans (by decide) hd) (by decide) (by decide) (by decide) (hk182 hx.1) rfl (Nat.le_of_ble_eq_true rfl) (fun r_1 h_2 p_3 => ?_)
  obtain ⟨rfl, w_4⟩ := p_3
  refine J_w w_4 ?_
  refine J_aload_n (i := 2) (j := 1) dL_law_1722 rfl rfl ?_
  refine J_aload_nC (i := 0) (j := 3) dL_law_1723 rfl rfl ?_
  refine J_iload_n (i := 3) (j := 0) dL_law_1724 rfl rfl ?_
  refine J_iconst (v := 1) dL_law_1725 (by decide) ?_
  refine J_iadd dL_law_1726 ?_
  refine J_ci (v := 1) (by decide) ?_
  refine J_cald (z := 8) (f := xs) dL_law_1727 hcon (vp_c (by decide)) ?_
  refine J_aload_nC (i := 0) (j := 3) dL_law_1728 rfl rfl ?_
  refine J_iload_n (i := 3) (j := 0) dL_law_1729 rfl rfl ?_
  refine J_iconst (v := 2) dL_law_1730 (by decide) ?_
  refine J_iadd dL_law_1731 ?_
  refine J_ci (v := 2) (by decide) ?_
  refine J_cald (z := 8) (f := xs) dL_law_1732 hcon (vp_c (by decide)) ?_
  refine J_aload_nC (i := 0) (j := 3) dL_law_1733 rfl rfl ?_
  refine J_iload_n (i := 3) (j := 0) dL_law_1734 rfl rfl ?_
  refine J_iconst (v := 3) dL_law_1735 (by decide) ?_
  refine J_iadd dL_law_1736 ?_
  refine J_ci (v := 3) (by decide) ?_
  refine J_cald (z := 8) (f := xs) dL_law_1737 hcon (vp_c (by decide)) ?_
  refine J_callV (As := [.int (xs (1 : Int32).toNatClampNeg), .int (xs (2 : Int32).toNatClampNeg), .int (xs (3 : Int32).toNatClampNeg)]) (rest := [.int (-1)]) dL_law_1738 (c_X11_runs0 (d := 4) (h := h) (a0 := (xs (1 : Int32).toNatClampNeg)) (a1 := (xs (2 : Int32).toNatClampNeg)) (a2 := (xs (3 : Int32).toNatClampNeg)) (by decide) (zm_162 hm) (zm_167 hm)) hN k1751 k1752 k1753 (zm_162 hm) rfl rfl k97 k1754 np_X11_runs (Nat.le_trans (by decide) hd) (by decide) (by decide) (by decide) (hk182 hx.1) rfl (Nat.le_of_ble_eq_true rfl) (fun r_5 h_6 p_7 => ?_)
  obtain rfl := p_7
  refine J_icmp_eq (tgt := 2268) dL_law_1741 (by decide) (fun _ => ?_) (fun q => absurd (by decide) q)
  exact law_tail hq hcon (by decide) (by decide)
set_option maxHeartbeats 4000000 in
set_option maxRecDepth 100000 in
theorem law_32 {x : JX} {bb : Nat} {xs : Nat → Int32} {h : List MC} (hq : LQ x bb) (hN : JN x con0) (hcon : x.2.2.2.2.2.2.2.2.2.2.2.2.2.2.1 0 = some (8, xs)) (hx : ZX h) (hm : ZM h) (hd : 12 ≤ 12) : J x yL_law code 4 ret 12 600000 7302250 0 1746 [(3, .int 0), (2, .ref 162), (1, .ref 0), (0, .retAddr 0)] [] h 182 13870 := by
  refine J_aload_n (i := 1) (j := 2) dL_law_1746 rfl rfl ?_
  refine J_aload_nC (i := 0) (j := 3) dL_law_1747 rfl rfl ?_
  refine J_iload_n (i := 3) (j := 0) dL_law_1748 rfl rfl ?_
  refine J_iconst (v := 1) dL_law_1749 (by decide) ?_
  refine J_iadd dL_law_1750 ?_
  refine J_ci (v := 1) (by decide) ?_
  refine J_cald (z := 8) (f := xs) dL_law_1751 hcon (vp_c (by decide)) ?_
  refine J_aload_nC (i := 0) (j := 3) dL_law_1752 rfl rfl ?_
  refine J_iload_n (i := 3) (j := 0) dL_law_1753 rfl rfl ?_
  refine J_iconst (v := 2) dL_law_1754 (by decide) ?_
  refine J_iadd dL_law_1755 ?_
  refine J_ci (v := 2) (by decide) ?_
  refine J_cald (z := 8) (f := xs) dL_law_1756 hcon (vp_c (by decide)) ?_
  refine J_aload_nC (i := 0) (j := 3) dL_law_1757 rfl rfl ?_
  refine J_iload_n (i := 3) (j := 0) dL_law_1758 rfl rfl ?_
  refine J_iconst (v := 3) dL_law_1759 (by decide) ?_
  refine J_iadd dL_law_1760 ?_
  refine J_ci (v := 3) (by decide) ?_
  refine J_cald (z := 8) (f := xs) dL_law_1761 hcon (vp_c (by decide)) ?_
  refine J_aload_nC (i := 0) (j := 3) dL_law_1762 rfl rfl ?_
  refine J_iload_n (i := 3) (j := 0) dL_law_1763 rfl rfl ?_
  refine J_iconst (v := 4) dL_law_1764 (by decide) ?_
  refine J_iadd dL_law_1765 ?_
  refine J_ci (v := 4) (by decide) ?_
  refine J_cald (z := 8) (f := xs) dL_law_1766 hcon (vp_c (by decide)) ?_
  refine J_callV (As := [.int (xs (1 : Int32).toNatClampNeg), .int (xs (2 : Int32).toNatClampNeg), .int (xs (3 : Int32).toNatClampNeg), .int (xs (4 : Int32).toNatClampNeg)]) (rest := []) dL_law_1767 (c_X10_joint0 (d := 3) (h := h) (a0 := (xs (1 : Int32).toNatClampNeg)) (a1 := (xs (2 : Int32).toNatClampNeg)) (a2 := (xs (3 : Int32).toNatClampNeg)) (a3 := (xs (4 : Int32).toNatClampNeg)) (by decide) (zx_0 hx) (zx_1 hx)) hN k1182 k1183 k1184 (zx_0 hx) rfl rfl k87 k1185 np_X10_joint (Nat.le_trans (by decide) hd) (by decide) (by decide) (by decide) (hk182 hx.1) rfl (Nat.le_of_ble_eq_true rfl) (fun r_1 h_2 p_3 => ?_)
  obtain ⟨rfl, w_4⟩ := p_3
  refine J_w w_4 ?_
  refine J_aload_n (i := 2) (j := 1) dL_law_1770 rfl rfl ?_
  refine J_aload_nC (i := 0) (j := 3) dL_law_1771 rfl rfl ?_
  refine J_iload_n (i := 3) (j := 0) dL_law_1772 rfl rfl ?_
  refine J_iconst (v := 1) dL_law_1773 (by decide) ?_
  refine J_iadd dL_law_1774 ?_
  refine J_ci (v := 1) (by decide) ?_
  refine J_cald (z := 8) (f := xs) dL_law_1775 hcon (vp_c (by decide)) ?_
  refine J_aload_nC (i := 0) (j := 3) dL_law_1776 rfl rfl ?_
  refine J_iload_n (i := 3) (j := 0) dL_law_1777 rfl rfl ?_
  refine J_iconst (v := 2) dL_law_1778 (by decide) ?_
  refine J_iadd dL_law_1779 ?_
  refine J_ci (v := 2) (by decide) ?_
  refine J_cald (z := 8) (f := xs) dL_law_1780 hcon (vp_c (by decide)) ?_
  refine J_aload_nC (i := 0) (j := 3) dL_law_1781 rfl rfl ?_
  refine J_iload_n (i := 3) (j := 0) dL_law_1782 rfl rfl ?_
  refine J_iconst (v := 3) dL_law_1783 (by decide) ?_
  refine J_iadd dL_law_1784 ?_
  refine J_ci (v := 3) (by decide) ?_
  refine J_cald (z := 8) (f := xs) dL_law_1785 hcon (vp_c (by decide)) ?_
  refine J_aload_nC (i := 0) (j := 3) dL_law_1786 rfl rfl ?_
  refine J_iload_n (i := 3) (j := 0) dL_law_1787 rfl rfl ?_
  refine J_iconst (v := 4) dL_law_1788 (by decide) ?_
  refine J_iadd dL_law_1789 ?_
  refine J_ci (v := 4) (by decide) ?_
  refine J_cald (z := 8) (f := xs) dL_law_1790 hcon (vp_c (by decide)) ?_
  refine J_callV (As := [.int (xs (1 : Int32).toNatClampNeg), .int (xs (2 : Int32).toNatClampNeg), .int (xs (3 : Int32).toNatClampNeg), .int (xs (4 : Int32).toNatClampNeg)]) (rest := [.long (-1)]) dL_law_1791 (c_X11_joint0 (d := 4) (h := h) (a0 := (xs (1 : Int32).toNatClampNeg)) (a1 := (xs (2 : Int32).toNatClampNeg)) (a2 := (xs (3 : Int32).toNatClampNeg)) (a3 := (xs (4 : Int32).toNatClampNeg)) (by decide) (zm_162 hm) (zm_167 hm)) hN k1755 k1756 k1757 (zm_162 hm) rfl rfl k97 k1758 np_X11_joint (Nat.le_trans (by decide) hd) (by decide) (by decide) (by decide) (hk182 hx.1) rfl (Nat.le_of_ble_eq_true rfl) (fun r_5 h_6 p_7 => ?_)
  obtain rfl := p_7
  refine J_lcmp dL_law_1794 ?_
  refine J_ci (v := 0) (by decide) ?_
  refine J_if_eq (tgt := 2268) dL_law_1795 (by decide) (fun _ => ?_) (fun q => absurd (by decide) q)
  exact law_tail hq hcon (by decide) (by decide)
set_option maxHeartbeats 4000000 in
set_option maxRecDepth 100000 in
theorem law_33 {x : JX} {bb : Nat} {xs : Nat → Int32} {h : List MC} (hq : LQ x bb) (hN : JN x con0) (hcon : x.2.2.2.2.2.2.2.2.2.2.2.2.2.2.1 0 = some (8, xs)) (hx : ZX h) (hm : ZM h) (hd : 12 ≤ 12) : J x yL_law code 4 ret 12 600000 7302250 0 1800 [(3, .int 0), (2, .ref 162), (1, .ref 0), (0, .retAddr 0)] [] h 182 13870 := by
  refine J_aload_n (i := 1) (j := 2) dL_law_1800 rfl rfl ?_
  refine J_aload_nC (i := 0) (j := 3) dL_law_1801 rfl rfl ?_
  refine J_iload_n (i := 3) (j := 0) dL_law_1802 rfl rfl ?_
  refine J_iconst (v := 1) dL_law_1803 (by decide) ?_
  refine J_iadd dL_law_1804 ?_
  refine J_ci (v := 1) (by decide) ?_
  refine J_cald (z := 8) (f := xs) dL_law_1805 hcon (vp_c (by decide)) ?_
  refine J_aload_nC (i := 0) (j := 3) dL_law_1806 rfl rfl ?_
  refine J_iload_n (i := 3) (j := 0) dL_law_1807 rfl rfl ?_
  refine J_iconst (v := 2) dL_law_1808 (by decide) ?_
  refine J_iadd dL_law_1809 ?_
  refine J_ci (v := 2) (by decide) ?_
  refine J_cald (z := 8) (f := xs) dL_law_1810 hcon (vp_c (by decide)) ?_
  refine J_aload_nC (i := 0) (j := 3) dL_law_1811 rfl rfl ?_
  refine J_iload_n (i := 3) (j := 0) dL_law_1812 rfl rfl ?_
  refine J_iconst (v := 3) dL_law_1813 (by decide) ?_
  refine J_iadd dL_law_1814 ?_
  refine J_ci (v := 3) (by decide) ?_
  refine J_cald (z := 8) (f := xs) dL_law_1815 hcon (vp_c (by decide)) ?_
  refine J_aload_nC (i := 0) (j := 3) dL_law_1816 rfl rfl ?_
  refine J_iload_n (i := 3) (j := 0) dL_law_1817 rfl rfl ?_
  refine J_iconst (v := 4) dL_law_1818 (by decide) ?_
  refine J_iadd dL_law_1819 ?_
  refine J_ci (v := 4) (by decide) ?_
  refine J_cald (z := 8) (f := xs) dL_law_1820 hcon (vp_c (by decide)) ?_
  refine J_aload_nC (i := 0) (j := 3) dL_law_1821 rfl rfl ?_
  refine J_iload_n (i := 3) (j := 0) dL_law_1822 rfl rfl ?_
  refine J_iconst (v := 5) dL_law_1823 (by decide) ?_
  refine J_iadd dL_law_1824 ?_
  refine J_ci (v := 5) (by decide) ?_
  refine J_cald (z := 8) (f := xs) dL_law_1825 hcon (vp_c (by decide)) ?_
  refine J_if_eq (tgt := 1833) dL_law_1826 (by decide) (fun c_1 => ?_) (fun c_1 => ?_)
  · refine J_iconst (v := 0) dL_law_1833 (by decide) ?_
    refine J_callV (As := [.int (xs (1 : Int32).toNatClampNeg), .int (xs (2 : Int32).toNatClampNeg), .int (xs (3 : Int32).toNatClampNeg), .int (xs (4 : Int32).toNatClampNeg), .int 0]) (rest := []) dL_law_1834 (c_X10_given0 (d := 3) (h := h) (a0 := (xs (1 : Int32).toNatClampNeg)) (a1 := (xs (2 : Int32).toNatClampNeg)) (a2 := (xs (3 : Int32).toNatClampNeg)) (a3 := (xs (4 : Int32).toNatClampNeg)) (a4 := 0) (by decide) (zx_0 hx) (zx_1 hx)) hN k1186 k1187 k1188 (zx_0 hx) rfl rfl k87 k1189 np_X10_given (Nat.le_trans (by decide) hd) (by decide) (by decide) (by decide) (hk182 hx.1) rfl (Nat.le_of_ble_eq_true rfl) (fun r_2 h_3 p_4 => ?_)
    obtain ⟨rfl, w_5⟩ := p_4
    refine J_w w_5 ?_
    refine J_aload_n (i := 2) (j := 1) dL_law_1837 rfl rfl ?_
    refine J_aload_nC (i := 0) (j := 3) dL_law_1838 rfl rfl ?_
    refine J_iload_n (i := 3) (j := 0) dL_law_1839 rfl rfl ?_
    refine J_iconst (v := 1) dL_law_1840 (by decide) ?_
    refine J_iadd dL_law_1841 ?_
    refine J_ci (v := 1) (by decide) ?_
    refine J_cald (z := 8) (f := xs) dL_law_1842 hcon (vp_c (by decide)) ?_
    refine J_aload_nC (i := 0) (j := 3) dL_law_1843 rfl rfl ?_
    refine J_iload_n (i := 3) (j := 0) dL_law_1844 rfl rfl ?_
    refine J_iconst (v := 2) dL_law_1845 (by decide) ?_
    refine J_iadd dL_law_1846 ?_
    refine J_ci (v := 2) (by decide) ?_
    refine J_cald (z := 8) (f := xs) dL_law_1847 hcon (vp_c (by decide)) ?_
    refine J_aload_nC (i := 0) (j := 3) dL_law_1848 rfl rfl ?_
    refine J_iload_n (i := 3) (j := 0) dL_law_1849 rfl rfl ?_
    refine J_iconst (v := 3) dL_law_1850 (by decide) ?_
    refine J_iadd dL_law_1851 ?_
    refine J_ci (v := 3) (by decide) ?_
    refine J_cald (z := 8) (f := xs) dL_law_1852 hcon (vp_c (by decide)) ?_
    refine J_aload_nC (i := 0) (j := 3) dL_law_1853 rfl rfl ?_
    refine J_iload_n (i := 3) (j := 0) dL_law_1854 rfl rfl ?_
    refine J_iconst (v := 4) dL_law_1855 (by decide) ?_
    refine J_iadd dL_law_1856 ?_
    refine J_ci (v := 4) (by decide) ?_
    refine J_cald (z := 8) (f := xs) dL_law_1857 hcon (vp_c (by decide)) ?_
    refine J_aload_nC (i := 0) (j := 3) dL_law_1858 rfl rfl ?_
    refine J_iload_n (i := 3) (j := 0) dL_law_1859 rfl rfl ?_
    refine J_iconst (v := 5) dL_law_1860 (by decide) ?_
    refine J_iadd dL_law_1861 ?_
    refine J_ci (v := 5) (by decide) ?_
    refine J_cald (z := 8) (f := xs) dL_law_1862 hcon (vp_c (by decide)) ?_
    refine J_if_eq (tgt := 1870) dL_law_1863 (by decide) (fun c_6 => ?_) (fun c_6 => ?_)
    · refine J_iconst (v := 0) dL_law_1870 (by decide) ?_
      refine J_callV (As := [.int (xs (1 : Int32).toNatClampNeg), .int (xs (2 : Int32).toNatClampNeg), .int (xs (3 : Int32).toNatClampNeg), .int (xs (4 : Int32).toNatClampNeg), .int 0]) (rest := [.long (-1)]) dL_law_1871 (c_X11_given0 (d := 4) (h := h) (a0 := (xs (1 : Int32).toNatClampNeg)) (a1 := (xs (2 : Int32).toNatClampNeg)) (a2 := (xs (3 : Int32).toNatClampNeg)) (a3 := (xs (4 : Int32).toNatClampNeg)) (a4 := 0) (by decide) (zm_162 hm) (zm_167 hm)) hN k1763 k1764 k1765 (zm_162 hm) rfl rfl k97 k1766 np_X11_given (Nat.le_trans (by decide) hd) (by decide) (by decide) (by decide) (hk182 hx.1) rfl (Nat.le_of_ble_eq_true rfl) (fun r_7 h_8 p_9 => ?_)
      obtain rfl := p_9
      refine J_lcmp dL_law_1874 ?_
      refine J_ci (v := 0) (by decide) ?_
      refine J_if_eq (tgt := 2268) dL_law_1875 (by decide) (fun _ => ?_) (fun q => absurd (by decide) q)
      exact law_tail hq hcon (by decide) (by decide)
    · refine J_iconst (v := 1) dL_law_1866 (by decide) ?_
      refine J_goto (tgt := 1871) dL_law_1867 (by decide) ?_
      refine J_callV (As := [.int (xs (1 : Int32).toNatClampNeg), .int (xs (2 : Int32).toNatClampNeg), .int (xs (3 : Int32).toNatClampNeg), .int (xs (4 : Int32).toNatClampNeg), .int 1]) (rest := [.long (-1)]) dL_law_1871 (c_X11_given0 (d := 4) (h := h) (a0 := (xs (1 : Int32).toNatClampNeg)) (a1 := (xs (2 : Int32).toNatClampNeg)) (a2 := (xs (3 : Int32).toNatClampNeg)) (a3 := (xs (4 : Int32).toNatClampNeg)) (a4 := 1) (by decide) (zm_162 hm) (zm_167 hm)) hN k1763 k1764 k1765 (zm_162 hm) rfl rfl k97 k1766 np_X11_given (Nat.le_trans (by decide) hd) (by decide) (by decide) (by decide) (hk182 hx.1) rfl (Nat.le_of_ble_eq_true rfl) (fun r_10 h_11 p_12 => ?_)
      obtain rfl := p_12
      refine J_lcmp dL_law_1874 ?_
      refine J_ci (v := 0) (by decide) ?_
      refine J_if_eq (tgt := 2268) dL_law_1875 (by decide) (fun _ => ?_) (fun q => absurd (by decide) q)
      exact law_tail hq hcon (by decide) (by decide)
  · refine J_iconst (v := 1) dL_law_1829 (by decide) ?_
    refine J_goto (tgt := 1834) dL_law_1830 (by decide) ?_
    refine J_callV (As := [.int (xs (1 : Int32).toNatClampNeg), .int (xs (2 : Int32).toNatClampNeg), .int (xs (3 : Int32).toNatClampNeg), .int (xs (4 : Int32).toNatClampNeg), .int 1]) (rest := []) dL_law_1834 (c_X10_given0 (d := 3) (h := h) (a0 := (xs (1 : Int32).toNatClampNeg)) (a1 := (xs (2 : Int32).toNatClampNeg)) (a2 := (xs (3 : Int32).toNatClampNeg)) (a3 := (xs (4 : Int32).toNatClampNeg)) (a4 := 1) (by decide) (zx_0 hx) (zx_1 hx)) hN k1186 k1187 k1188 (zx_0 hx) rfl rfl k87 k1189 np_X10_given (Nat.le_trans (by decide) hd) (by decide) (by decide) (by decide) (hk182 hx.1) rfl (Nat.le_of_ble_eq_true rfl) (fun r_13 h_14 p_15 => ?_)
    obtain ⟨rfl, w_16⟩ := p_15
    refine J_w w_16 ?_
    refine J_aload_n (i := 2) (j := 1) dL_law_1837 rfl rfl ?_
    refine J_aload_nC (i := 0) (j := 3) dL_law_1838 rfl rfl ?_
    refine J_iload_n (i := 3) (j := 0) dL_law_1839 rfl rfl ?_
    refine J_iconst (v := 1) dL_law_1840 (by decide) ?_
    refine J_iadd dL_law_1841 ?_
    refine J_ci (v := 1) (by decide) ?_
    refine J_cald (z := 8) (f := xs) dL_law_1842 hcon (vp_c (by decide)) ?_
    refine J_aload_nC (i := 0) (j := 3) dL_law_1843 rfl rfl ?_
    refine J_iload_n (i := 3) (j := 0) dL_law_1844 rfl rfl ?_
    refine J_iconst (v := 2) dL_law_1845 (by decide) ?_
    refine J_iadd dL_law_1846 ?_
    refine J_ci (v := 2) (by decide) ?_
    refine J_cald (z := 8) (f := xs) dL_law_1847 hcon (vp_c (by decide)) ?_
    refine J_aload_nC (i := 0) (j := 3) dL_law_1848 rfl rfl ?_
    refine J_iload_n (i := 3) (j := 0) dL_law_1849 rfl rfl ?_
    refine J_iconst (v := 3) dL_law_1850 (by decide) ?_
    refine J_iadd dL_law_1851 ?_
    refine J_ci (v := 3) (by decide) ?_
    refine J_cald (z := 8) (f := xs) dL_law_1852 hcon (vp_c (by decide)) ?_
    refine J_aload_nC (i := 0) (j := 3) dL_law_1853 rfl rfl ?_
    refine J_iload_n (i := 3) (j := 0) dL_law_1854 rfl rfl ?_
    refine J_iconst (v := 4) dL_law_1855 (by decide) ?_
    refine J_iadd dL_law_1856 ?_
    refine J_ci (v := 4) (by decide) ?_
    refine J_cald (z := 8) (f := xs) dL_law_1857 hcon (vp_c (by decide)) ?_
    refine J_aload_nC (i := 0) (j := 3) dL_law_1858 rfl rfl ?_
    refine J_iload_n (i := 3) (j := 0) dL_law_1859 rfl rfl ?_
    refine J_iconst (v := 5) dL_law_1860 (by decide) ?_
    refine J_iadd dL_law_1861 ?_
    refine J_ci (v := 5) (by decide) ?_
    refine J_cald (z := 8) (f := xs) dL_law_1862 hcon (vp_c (by decide)) ?_
    refine J_if_eq (tgt := 1870) dL_law_1863 (by decide) (fun c_17 => ?_) (fun c_17 => ?_)
    · refine J_iconst (v := 0) dL_law_1870 (by decide) ?_
      refine J_callV (As := [.int (xs (1 : Int32).toNatClampNeg), .int (xs (2 : Int32).toNatClampNeg), .int (xs (3 : Int32).toNatClampNeg), .int (xs (4 : Int32).toNatClampNeg), .int 0]) (rest := [.long (-1)]) dL_law_1871 (c_X11_given0 (d := 4) (h := h) (a0 := (xs (1 : Int32).toNatClampNeg)) (a1 := (xs (2 : Int32).toNatClampNeg)) (a2 := (xs (3 : Int32).toNatClampNeg)) (a3 := (xs (4 : Int32).toNatClampNeg)) (a4 := 0) (by decide) (zm_162 hm) (zm_167 hm)) hN k1763 k1764 k1765 (zm_162 hm) rfl rfl k97 k1766 np_X11_given (Nat.le_trans (by decide) hd) (by decide) (by decide) (by decide) (hk182 hx.1) rfl (Nat.le_of_ble_eq_true rfl) (fun r_18 h_19 p_20 => ?_)
      obtain rfl := p_20
      refine J_lcmp dL_law_1874 ?_
      refine J_ci (v := 0) (by decide) ?_
      refine J_if_eq (tgt := 2268) dL_law_1875 (by decide) (fun _ => ?_) (fun q => absurd (by decide) q)
      exact law_tail hq hcon (by decide) (by decide)
    · refine J_iconst (v := 1) dL_law_1866 (by decide) ?_
      refine J_goto (tgt := 1871) dL_law_1867 (by decide) ?_
      refine J_callV (As := [.int (xs (1 : Int32).toNatClampNeg), .int (xs (2 : Int32).toNatClampNeg), .int (xs (3 : Int32).toNatClampNeg), .int (xs (4 : Int32).toNatClampNeg), .int 1]) (rest := [.long (-1)]) dL_law_1871 (c_X11_given0 (d := 4) (h := h) (a0 := (xs (1 : Int32).toNatClampNeg)) (a1 := (xs (2 : Int32).toNatClampNeg)) (a2 := (xs (3 : Int32).toNatClampNeg)) (a3 := (xs (4 : Int32).toNatClampNeg)) (a4 := 1) (by decide) (zm_162 hm) (zm_167 hm)) hN k1763 k1764 k1765 (zm_162 hm) rfl rfl k97 k1766 np_X11_given (Nat.le_trans (by decide) hd) (by decide) (by decide) (by decide) (hk182 hx.1) rfl (Nat.le_of_ble_eq_true rfl) (fun r_21 h_22 p_23 => ?_)
      obtain rfl := p_23
      refine J_lcmp dL_law_1874 ?_
      refine J_ci (v := 0) (by decide) ?_
      refine J_if_eq (tgt := 2268) dL_law_1875 (by decide) (fun _ => ?_) (fun q => absurd (by decide) q)
      exact law_tail hq hcon (by decide) (by decide)
set_option maxHeartbeats 4000000 in
set_option maxRecDepth 100000 in
theorem law_34 {x : JX} {bb : Nat} {xs : Nat → Int32} {h : List MC} (hq : LQ x bb) (hN : JN x con0) (hcon : x.2.2.2.2.2.2.2.2.2.2.2.2.2.2.1 0 = some (8, xs)) (hx : ZX h) (hm : ZM h) (hd : 12 ≤ 12) : J x yL_law code 4 ret 12 600000 7302250 0 1880 [(3, .int 0), (2, .ref 162), (1, .ref 0), (0, .retAddr 0)] [] h 182 13870 := by
  refine J_aload_n (i := 1) (j := 2) dL_law_1880 rfl rfl ?_
  refine J_aload_nC (i := 0) (j := 3) dL_law_1881 rfl rfl ?_
  refine J_iload_n (i := 3) (j := 0) dL_law_1882 rfl rfl ?_
  refine J_iconst (v := 1) dL_law_1883 (by decide) ?_
  refine J_iadd dL_law_1884 ?_
  refine J_ci (v := 1) (by decide) ?_
  refine J_cald (z := 8) (f := xs) dL_law_1885 hcon (vp_c (by decide)) ?_
  refine J_aload_nC (i := 0) (j := 3) dL_law_1886 rfl rfl ?_
  refine J_iload_n (i := 3) (j := 0) dL_law_1887 rfl rfl ?_
  refine J_iconst (v := 2) dL_law_1888 (by decide) ?_
  refine J_iadd dL_law_1889 ?_
  refine J_ci (v := 2) (by decide) ?_
  refine J_cald (z := 8) (f := xs) dL_law_1890 hcon (vp_c (by decide)) ?_
  refine J_aload_nC (i := 0) (j := 3) dL_law_1891 rfl rfl ?_
  refine J_iload_n (i := 3) (j := 0) dL_law_1892 rfl rfl ?_
  refine J_iconst (v := 3) dL_law_1893 (by decide) ?_
  refine J_iadd dL_law_1894 ?_
  refine J_ci (v := 3) (by decide) ?_
  refine J_cald (z := 8) (f := xs) dL_law_1895 hcon (vp_c (by decide)) ?_
  refine J_callV (As := [.int (xs (1 : Int32).toNatClampNeg), .int (xs (2 : Int32).toNatClampNeg), .int (xs (3 : Int32).toNatClampNeg)]) (rest := []) dL_law_1896 (c_X10_worst0 (d := 3) (h := h) (a0 := (xs (1 : Int32).toNatClampNeg)) (a1 := (xs (2 : Int32).toNatClampNeg)) (a2 := (xs (3 : Int32).toNatClampNeg)) (by decide) (zx_0 hx) (zx_1 hx)) hN k1190 k1191 k1192 (zx_0 hx) rfl rfl k87 k1193 np_X10_worst (Nat.le_trans (by decide) hd) (by decide) (by decide) (by decide) (hk182 hx.1) rfl (Nat.le_of_ble_eq_true rfl) (fun r_1 h_2 p_3 => ?_)
  obtain ⟨rfl, w_4⟩ := p_3
  refine J_w w_4 ?_
  refine J_aload_n (i := 2) (j := 1) dL_law_1899 rfl rfl ?_
  refine J_aload_nC (i := 0) (j := 3) dL_law_1900 rfl rfl ?_
  refine J_iload_n (i := 3) (j := 0) dL_law_1901 rfl rfl ?_
  refine J_iconst (v := 1) dL_law_1902 (by decide) ?_
  refine J_iadd dL_law_1903 ?_
  refine J_ci (v := 1) (by decide) ?_
  refine J_cald (z := 8) (f := xs) dL_law_1904 hcon (vp_c (by decide)) ?_
  refine J_aload_nC (i := 0) (j := 3) dL_law_1905 rfl rfl ?_
  refine J_iload_n (i := 3) (j := 0) dL_law_1906 rfl rfl ?_
  refine J_iconst (v := 2) dL_law_1907 (by decide) ?_
  refine J_iadd dL_law_1908 ?_
  refine J_ci (v := 2) (by decide) ?_
  refine J_cald (z := 8) (f := xs) dL_law_1909 hcon (vp_c (by decide)) ?_
  refine J_aload_nC (i := 0) (j := 3) dL_law_1910 rfl rfl ?_
  refine J_iload_n (i := 3) (j := 0) dL_law_1911 rfl rfl ?_
  refine J_iconst (v := 3) dL_law_1912 (by decide) ?_
  refine J_iadd dL_law_1913 ?_
  refine J_ci (v := 3) (by decide) ?_
  refine J_cald (z := 8) (f := xs) dL_law_1914 hcon (vp_c (by decide)) ?_
  refine J_callV (As := [.int (xs (1 : Int32).toNatClampNeg), .int (xs (2 : Int32).toNatClampNeg), .int (xs (3 : Int32).toNatClampNeg)]) (rest := [.long (-1)]) dL_law_1915 (c_X11_worst0 (d := 4) (h := h) (a0 := (xs (1 : Int32).toNatClampNeg)) (a1 := (xs (2 : Int32).toNatClampNeg)) (a2 := (xs (3 : Int32).toNatClampNeg)) (by decide) (zm_162 hm) (zm_167 hm)) hN k1770 k1771 k1772 (zm_162 hm) rfl rfl k97 k1773 np_X11_worst (Nat.le_trans (by decide) hd) (by decide) (by decide) (by decide) (hk182 hx.1) rfl (Nat.le_of_ble_eq_true rfl) (fun r_5 h_6 p_7 => ?_)
  obtain rfl := p_7
  refine J_lcmp dL_law_1918 ?_
  refine J_ci (v := 0) (by decide) ?_
  refine J_if_eq (tgt := 2268) dL_law_1919 (by decide) (fun _ => ?_) (fun q => absurd (by decide) q)
  exact law_tail hq hcon (by decide) (by decide)
set_option maxHeartbeats 4000000 in
set_option maxRecDepth 100000 in
theorem law_35 {x : JX} {bb : Nat} {xs : Nat → Int32} {h : List MC} (hq : LQ x bb) (hN : JN x con0) (hcon : x.2.2.2.2.2.2.2.2.2.2.2.2.2.2.1 0 = some (8, xs)) (hx : ZX h) (hm : ZM h) (hd : 12 ≤ 12) : J x yL_law code 4 ret 12 600000 7302250 0 1924 [(3, .int 0), (2, .ref 162), (1, .ref 0), (0, .retAddr 0)] [] h 182 13870 := by
  refine J_aload_n (i := 1) (j := 2) dL_law_1924 rfl rfl ?_
  refine J_aload_nC (i := 0) (j := 3) dL_law_1925 rfl rfl ?_
  refine J_iload_n (i := 3) (j := 0) dL_law_1926 rfl rfl ?_
  refine J_iconst (v := 1) dL_law_1927 (by decide) ?_
  refine J_iadd dL_law_1928 ?_
  refine J_ci (v := 1) (by decide) ?_
  refine J_cald (z := 8) (f := xs) dL_law_1929 hcon (vp_c (by decide)) ?_
  refine J_aload_nC (i := 0) (j := 3) dL_law_1930 rfl rfl ?_
  refine J_iload_n (i := 3) (j := 0) dL_law_1931 rfl rfl ?_
  refine J_iconst (v := 2) dL_law_1932 (by decide) ?_
  refine J_iadd dL_law_1933 ?_
  refine J_ci (v := 2) (by decide) ?_
  refine J_cald (z := 8) (f := xs) dL_law_1934 hcon (vp_c (by decide)) ?_
  refine J_callV (As := [.int (xs (1 : Int32).toNatClampNeg), .int (xs (2 : Int32).toNatClampNeg)]) (rest := []) dL_law_1935 (c_X10_flood0 (d := 3) (h := h) (a0 := (xs (1 : Int32).toNatClampNeg)) (a1 := (xs (2 : Int32).toNatClampNeg)) (by decide) (zx_0 hx) (zx_1 hx)) hN k1199 k1200 k1201 (zx_0 hx) rfl rfl k87 k1202 np_X10_flood (Nat.le_trans (by decide) hd) (by decide) (by decide) (by decide) (hk182 hx.1) rfl (Nat.le_of_ble_eq_true rfl) (fun r_1 h_2 p_3 => ?_)
  obtain ⟨rfl, w_4⟩ := p_3
  refine J_w w_4 ?_
  refine J_aload_n (i := 2) (j := 1) dL_law_1938 rfl rfl ?_
  refine J_aload_nC (i := 0) (j := 3) dL_law_1939 rfl rfl ?_
  refine J_iload_n (i := 3) (j := 0) dL_law_1940 rfl rfl ?_
  refine J_iconst (v := 1) dL_law_1941 (by decide) ?_
  refine J_iadd dL_law_1942 ?_
  refine J_ci (v := 1) (by decide) ?_
  refine J_cald (z := 8) (f := xs) dL_law_1943 hcon (vp_c (by decide)) ?_
  refine J_aload_nC (i := 0) (j := 3) dL_law_1944 rfl rfl ?_
  refine J_iload_n (i := 3) (j := 0) dL_law_1945 rfl rfl ?_
  refine J_iconst (v := 2) dL_law_1946 (by decide) ?_
  refine J_iadd dL_law_1947 ?_
  refine J_ci (v := 2) (by decide) ?_
  refine J_cald (z := 8) (f := xs) dL_law_1948 hcon (vp_c (by decide)) ?_
  refine J_callV (As := [.int (xs (1 : Int32).toNatClampNeg), .int (xs (2 : Int32).toNatClampNeg)]) (rest := [.int (-1)]) dL_law_1949 (c_X11_flood0 (d := 4) (h := h) (a0 := (xs (1 : Int32).toNatClampNeg)) (a1 := (xs (2 : Int32).toNatClampNeg)) (by decide) (zm_162 hm) (zm_167 hm)) hN k1774 k1775 k1776 (zm_162 hm) rfl rfl k97 k1777 np_X11_flood (Nat.le_trans (by decide) hd) (by decide) (by decide) (by decide) (hk182 hx.1) rfl (Nat.le_of_ble_eq_true rfl) (fun r_5 h_6 p_7 => ?_)
  obtain rfl := p_7
  refine J_icmp_eq (tgt := 2268) dL_law_1952 (by decide) (fun _ => ?_) (fun q => absurd (by decide) q)
  exact law_tail hq hcon (by decide) (by decide)
set_option maxHeartbeats 4000000 in
set_option maxRecDepth 100000 in
theorem law_36 {x : JX} {bb : Nat} {xs : Nat → Int32} {h : List MC} (hq : LQ x bb) (hN : JN x con0) (hcon : x.2.2.2.2.2.2.2.2.2.2.2.2.2.2.1 0 = some (8, xs)) (hx : ZX h) (hm : ZM h) (hd : 12 ≤ 12) : J x yL_law code 4 ret 12 600000 7302250 0 1957 [(3, .int 0), (2, .ref 162), (1, .ref 0), (0, .retAddr 0)] [] h 182 13870 := by
  refine J_aload_n (i := 1) (j := 2) dL_law_1957 rfl rfl ?_
  refine J_aload_nC (i := 0) (j := 3) dL_law_1958 rfl rfl ?_
  refine J_iload_n (i := 3) (j := 0) dL_law_1959 rfl rfl ?_
  refine J_iconst (v := 1) dL_law_1960 (by decide) ?_
  refine J_iadd dL_law_1961 ?_
  refine J_ci (v := 1) (by decide) ?_
  refine J_cald (z := 8) (f := xs) dL_law_1962 hcon (vp_c (by decide)) ?_
  refine J_aload_nC (i := 0) (j := 3) dL_law_1963 rfl rfl ?_
  refine J_iload_n (i := 3) (j := 0) dL_law_1964 rfl rfl ?_
  refine J_iconst (v := 2) dL_law_1965 (by decide) ?_
  refine J_iadd dL_law_1966 ?_
  refine J_ci (v := 2) (by decide) ?_
  refine J_cald (z := 8) (f := xs) dL_law_1967 hcon (vp_c (by decide)) ?_
  refine J_aload_nC (i := 0) (j := 3) dL_law_1968 rfl rfl ?_
  refine J_iload_n (i := 3) (j := 0) dL_law_1969 rfl rfl ?_
  refine J_iconst (v := 3) dL_law_1970 (by decide) ?_
  refine J_iadd dL_law_1971 ?_
  refine J_ci (v := 3) (by decide) ?_
  refine J_cald (z := 8) (f := xs) dL_law_1972 hcon (vp_c (by decide)) ?_
  refine J_if_eq (tgt := 1980) dL_law_1973 (by decide) (fun c_1 => ?_) (fun c_1 => ?_)
  · refine J_iconst (v := 0) dL_law_1980 (by decide) ?_
    refine J_callV (As := [.int (xs (1 : Int32).toNatClampNeg), .int (xs (2 : Int32).toNatClampNeg), .int 0]) (rest := []) dL_law_1981 (c_X10_around0 (d := 3) (h := h) (a0 := (xs (1 : Int32).toNatClampNeg)) (a1 := (xs (2 : Int32).toNatClampNeg)) (a2 := 0) (by decide) (zx_0 hx) (zx_1 hx)) hN k1207 k1208 k1209 (zx_0 hx) rfl rfl k87 k1210 np_X10_around (Nat.le_trans (by decide) hd) (by decide) (by decide) (by decide) (hk182 hx.1) rfl (Nat.le_of_ble_eq_true rfl) (fun r_2 h_3 p_4 => ?_)
    obtain ⟨rfl, w_5⟩ := p_4
    refine J_w w_5 ?_
    refine J_aload_n (i := 2) (j := 1) dL_law_1984 rfl rfl ?_
    refine J_aload_nC (i := 0) (j := 3) dL_law_1985 rfl rfl ?_
    refine J_iload_n (i := 3) (j := 0) dL_law_1986 rfl rfl ?_
    refine J_iconst (v := 1) dL_law_1987 (by decide) ?_
    refine J_iadd dL_law_1988 ?_
    refine J_ci (v := 1) (by decide) ?_
    refine J_cald (z := 8) (f := xs) dL_law_1989 hcon (vp_c (by decide)) ?_
    refine J_aload_nC (i := 0) (j := 3) dL_law_1990 rfl rfl ?_
    refine J_iload_n (i := 3) (j := 0) dL_law_1991 rfl rfl ?_
    refine J_iconst (v := 2) dL_law_1992 (by decide) ?_
    refine J_iadd dL_law_1993 ?_
    refine J_ci (v := 2) (by decide) ?_
    refine J_cald (z := 8) (f := xs) dL_law_1994 hcon (vp_c (by decide)) ?_
    refine J_aload_nC (i := 0) (j := 3) dL_law_1995 rfl rfl ?_
    refine J_iload_n (i := 3) (j := 0) dL_law_1996 rfl rfl ?_
    refine J_iconst (v := 3) dL_law_1997 (by decide) ?_
    refine J_iadd dL_law_1998 ?_
    refine J_ci (v := 3) (by decide) ?_
    refine J_cald (z := 8) (f := xs) dL_law_1999 hcon (vp_c (by decide)) ?_
    refine J_if_eq (tgt := 2007) dL_law_2000 (by decide) (fun c_6 => ?_) (fun c_6 => ?_)
    · refine J_iconst (v := 0) dL_law_2007 (by decide) ?_
      refine J_callV (As := [.int (xs (1 : Int32).toNatClampNeg), .int (xs (2 : Int32).toNatClampNeg), .int 0]) (rest := [.int (-1)]) dL_law_2008 (c_X11_around0 (d := 4) (h := h) (a0 := (xs (1 : Int32).toNatClampNeg)) (a1 := (xs (2 : Int32).toNatClampNeg)) (a2 := 0) (by decide) (zm_162 hm) (zm_167 hm)) hN k1778 k1779 k1780 (zm_162 hm) rfl rfl k97 k1781 np_X11_around (Nat.le_trans (by decide) hd) (by decide) (by decide) (by decide) (hk182 hx.1) rfl (Nat.le_of_ble_eq_true rfl) (fun r_7 h_8 p_9 => ?_)
      obtain rfl := p_9
      refine J_icmp_eq (tgt := 2268) dL_law_2011 (by decide) (fun _ => ?_) (fun q => absurd (by decide) q)
      exact law_tail hq hcon (by decide) (by decide)
    · refine J_iconst (v := 1) dL_law_2003 (by decide) ?_
      refine J_goto (tgt := 2008) dL_law_2004 (by decide) ?_
      refine J_callV (As := [.int (xs (1 : Int32).toNatClampNeg), .int (xs (2 : Int32).toNatClampNeg), .int 1]) (rest := [.int (-1)]) dL_law_2008 (c_X11_around0 (d := 4) (h := h) (a0 := (xs (1 : Int32).toNatClampNeg)) (a1 := (xs (2 : Int32).toNatClampNeg)) (a2 := 1) (by decide) (zm_162 hm) (zm_167 hm)) hN k1778 k1779 k1780 (zm_162 hm) rfl rfl k97 k1781 np_X11_around (Nat.le_trans (by decide) hd) (by decide) (by decide) (by decide) (hk182 hx.1) rfl (Nat.le_of_ble_eq_true rfl) (fun r_10 h_11 p_12 => ?_)
      obtain rfl := p_12
      refine J_icmp_eq (tgt := 2268) dL_law_2011 (by decide) (fun _ => ?_) (fun q => absurd (by decide) q)
      exact law_tail hq hcon (by decide) (by decide)
  · refine J_iconst (v := 1) dL_law_1976 (by decide) ?_
    refine J_goto (tgt := 1981) dL_law_1977 (by decide) ?_
    refine J_callV (As := [.int (xs (1 : Int32).toNatClampNeg), .int (xs (2 : Int32).toNatClampNeg), .int 1]) (rest := []) dL_law_1981 (c_X10_around0 (d := 3) (h := h) (a0 := (xs (1 : Int32).toNatClampNeg)) (a1 := (xs (2 : Int32).toNatClampNeg)) (a2 := 1) (by decide) (zx_0 hx) (zx_1 hx)) hN k1207 k1208 k1209 (zx_0 hx) rfl rfl k87 k1210 np_X10_around (Nat.le_trans (by decide) hd) (by decide) (by decide) (by decide) (hk182 hx.1) rfl (Nat.le_of_ble_eq_true rfl) (fun r_13 h_14 p_15 => ?_)
    obtain ⟨rfl, w_16⟩ := p_15
    refine J_w w_16 ?_
    refine J_aload_n (i := 2) (j := 1) dL_law_1984 rfl rfl ?_
    refine J_aload_nC (i := 0) (j := 3) dL_law_1985 rfl rfl ?_
    refine J_iload_n (i := 3) (j := 0) dL_law_1986 rfl rfl ?_
    refine J_iconst (v := 1) dL_law_1987 (by decide) ?_
    refine J_iadd dL_law_1988 ?_
    refine J_ci (v := 1) (by decide) ?_
    refine J_cald (z := 8) (f := xs) dL_law_1989 hcon (vp_c (by decide)) ?_
    refine J_aload_nC (i := 0) (j := 3) dL_law_1990 rfl rfl ?_
    refine J_iload_n (i := 3) (j := 0) dL_law_1991 rfl rfl ?_
    refine J_iconst (v := 2) dL_law_1992 (by decide) ?_
    refine J_iadd dL_law_1993 ?_
    refine J_ci (v := 2) (by decide) ?_
    refine J_cald (z := 8) (f := xs) dL_law_1994 hcon (vp_c (by decide)) ?_
    refine J_aload_nC (i := 0) (j := 3) dL_law_1995 rfl rfl ?_
    refine J_iload_n (i := 3) (j := 0) dL_law_1996 rfl rfl ?_
    refine J_iconst (v := 3) dL_law_1997 (by decide) ?_
    refine J_iadd dL_law_1998 ?_
    refine J_ci (v := 3) (by decide) ?_
    refine J_cald (z := 8) (f := xs) dL_law_1999 hcon (vp_c (by decide)) ?_
    refine J_if_eq (tgt := 2007) dL_law_2000 (by decide) (fun c_17 => ?_) (fun c_17 => ?_)
    · refine J_iconst (v := 0) dL_law_2007 (by decide) ?_
      refine J_callV (As := [.int (xs (1 : Int32).toNatClampNeg), .int (xs (2 : Int32).toNatClampNeg), .int 0]) (rest := [.int (-1)]) dL_law_2008 (c_X11_around0 (d := 4) (h := h) (a0 := (xs (1 : Int32).toNatClampNeg)) (a1 := (xs (2 : Int32).toNatClampNeg)) (a2 := 0) (by decide) (zm_162 hm) (zm_167 hm)) hN k1778 k1779 k1780 (zm_162 hm) rfl rfl k97 k1781 np_X11_around (Nat.le_trans (by decide) hd) (by decide) (by decide) (by decide) (hk182 hx.1) rfl (Nat.le_of_ble_eq_true rfl) (fun r_18 h_19 p_20 => ?_)
      obtain rfl := p_20
      refine J_icmp_eq (tgt := 2268) dL_law_2011 (by decide) (fun _ => ?_) (fun q => absurd (by decide) q)
      exact law_tail hq hcon (by decide) (by decide)
    · refine J_iconst (v := 1) dL_law_2003 (by decide) ?_
      refine J_goto (tgt := 2008) dL_law_2004 (by decide) ?_
      refine J_callV (As := [.int (xs (1 : Int32).toNatClampNeg), .int (xs (2 : Int32).toNatClampNeg), .int 1]) (rest := [.int (-1)]) dL_law_2008 (c_X11_around0 (d := 4) (h := h) (a0 := (xs (1 : Int32).toNatClampNeg)) (a1 := (xs (2 : Int32).toNatClampNeg)) (a2 := 1) (by decide) (zm_162 hm) (zm_167 hm)) hN k1778 k1779 k1780 (zm_162 hm) rfl rfl k97 k1781 np_X11_around (Nat.le_trans (by decide) hd) (by decide) (by decide) (by decide) (hk182 hx.1) rfl (Nat.le_of_ble_eq_true rfl) (fun r_21 h_22 p_23 => ?_)
      obtain rfl := p_23
      refine J_icmp_eq (tgt := 2268) dL_law_2011 (by decide) (fun _ => ?_) (fun q => absurd (by decide) q)
      exact law_tail hq hcon (by decide) (by decide)
set_option maxHeartbeats 4000000 in
set_option maxRecDepth 100000 in
theorem law_37 {x : JX} {bb : Nat} {xs : Nat → Int32} {h : List MC} (hq : LQ x bb) (hN : JN x con0) (hcon : x.2.2.2.2.2.2.2.2.2.2.2.2.2.2.1 0 = some (8, xs)) (hx : ZX h) (hm : ZM h) (hd : 12 ≤ 12) : J x yL_law code 4 ret 12 600000 7302250 0 2016 [(3, .int 0), (2, .ref 162), (1, .ref 0), (0, .retAddr 0)] [] h 182 13870 := by
  refine J_aload_n (i := 1) (j := 2) dL_law_2016 rfl rfl ?_
  refine J_aload_nC (i := 0) (j := 3) dL_law_2017 rfl rfl ?_
  refine J_iload_n (i := 3) (j := 0) dL_law_2018 rfl rfl ?_
  refine J_iconst (v := 1) dL_law_2019 (by decide) ?_
  refine J_iadd dL_law_2020 ?_
  refine J_ci (v := 1) (by decide) ?_
  refine J_cald (z := 8) (f := xs) dL_law_2021 hcon (vp_c (by decide)) ?_
  refine J_aload_nC (i := 0) (j := 3) dL_law_2022 rfl rfl ?_
  refine J_iload_n (i := 3) (j := 0) dL_law_2023 rfl rfl ?_
  refine J_iconst (v := 2) dL_law_2024 (by decide) ?_
  refine J_iadd dL_law_2025 ?_
  refine J_ci (v := 2) (by decide) ?_
  refine J_cald (z := 8) (f := xs) dL_law_2026 hcon (vp_c (by decide)) ?_
  refine J_aload_nC (i := 0) (j := 3) dL_law_2027 rfl rfl ?_
  refine J_iload_n (i := 3) (j := 0) dL_law_2028 rfl rfl ?_
  refine J_iconst (v := 3) dL_law_2029 (by decide) ?_
  refine J_iadd dL_law_2030 ?_
  refine J_ci (v := 3) (by decide) ?_
  refine J_cald (z := 8) (f := xs) dL_law_2031 hcon (vp_c (by decide)) ?_
  refine J_aload_nC (i := 0) (j := 3) dL_law_2032 rfl rfl ?_
  refine J_iload_n (i := 3) (j := 0) dL_law_2033 rfl rfl ?_
  refine J_iconst (v := 4) dL_law_2034 (by decide) ?_
  refine J_iadd dL_law_2035 ?_
  refine J_ci (v := 4) (by decide) ?_
  refine J_cald (z := 8) (f := xs) dL_law_2036 hcon (vp_c (by decide)) ?_
  refine J_aload_nC (i := 0) (j := 3) dL_law_2037 rfl rfl ?_
  refine J_iload_n (i := 3) (j := 0) dL_law_2038 rfl rfl ?_
  refine J_iconst (v := 5) dL_law_2039 (by decide) ?_
  refine J_iadd dL_law_2040 ?_
  refine J_ci (v := 5) (by decide) ?_
  refine J_cald (z := 8) (f := xs) dL_law_2041 hcon (vp_c (by decide)) ?_
  refine J_aload_nC (i := 0) (j := 3) dL_law_2042 rfl rfl ?_
  refine J_iload_n (i := 3) (j := 0) dL_law_2043 rfl rfl ?_
  refine J_bipush (v := 6) dL_law_2044 (by decide) ?_
  refine J_iadd dL_law_2046 ?_
  refine J_ci (v := 6) (by decide) ?_
  refine J_cald (z := 8) (f := xs) dL_law_2047 hcon (vp_c (by decide)) ?_
  refine J_aload_nC (i := 0) (j := 3) dL_law_2048 rfl rfl ?_
  refine J_iload_n (i := 3) (j := 0) dL_law_2049 rfl rfl ?_
  refine J_bipush (v := 7) dL_law_2050 (by decide) ?_
  refine J_iadd dL_law_2052 ?_
  refine J_ci (v := 7) (by decide) ?_
  refine J_cald (z := 8) (f := xs) dL_law_2053 hcon (vp_c (by decide)) ?_
  refine J_callV (As := [.int (xs (1 : Int32).toNatClampNeg), .int (xs (2 : Int32).toNatClampNeg), .int (xs (3 : Int32).toNatClampNeg), .int (xs (4 : Int32).toNatClampNeg), .int (xs (5 : Int32).toNatClampNeg), .int (xs (6 : Int32).toNatClampNeg), .int (xs (7 : Int32).toNatClampNeg)]) (rest := []) dL_law_2054 (c_X10_twice0 (d := 3) (h := h) (a0 := (xs (1 : Int32).toNatClampNeg)) (a1 := (xs (2 : Int32).toNatClampNeg)) (a2 := (xs (3 : Int32).toNatClampNeg)) (a3 := (xs (4 : Int32).toNatClampNeg)) (a4 := (xs (5 : Int32).toNatClampNeg)) (a5 := (xs (6 : Int32).toNatClampNeg)) (a6 := (xs (7 : Int32).toNatClampNeg)) (by decide) (zx_0 hx) (zx_1 hx)) hN k1216 k1217 k1218 (zx_0 hx) rfl rfl k87 k1219 np_X10_twice (Nat.le_trans (by decide) hd) (by decide) (by decide) (by decide) (hk182 hx.1) rfl (Nat.le_of_ble_eq_true rfl) (fun r_1 h_2 p_3 => ?_)
  obtain ⟨rfl, w_4⟩ := p_3
  refine J_w w_4 ?_
  refine J_aload_n (i := 2) (j := 1) dL_law_2057 rfl rfl ?_
  refine J_aload_nC (i := 0) (j := 3) dL_law_2058 rfl rfl ?_
  refine J_iload_n (i := 3) (j := 0) dL_law_2059 rfl rfl ?_
  refine J_iconst (v := 1) dL_law_2060 (by decide) ?_
  refine J_iadd dL_law_2061 ?_
  refine J_ci (v := 1) (by decide) ?_
  refine J_cald (z := 8) (f := xs) dL_law_2062 hcon (vp_c (by decide)) ?_
  refine J_aload_nC (i := 0) (j := 3) dL_law_2063 rfl rfl ?_
  refine J_iload_n (i := 3) (j := 0) dL_law_2064 rfl rfl ?_
  refine J_iconst (v := 2) dL_law_2065 (by decide) ?_
  refine J_iadd dL_law_2066 ?_
  refine J_ci (v := 2) (by decide) ?_
  refine J_cald (z := 8) (f := xs) dL_law_2067 hcon (vp_c (by decide)) ?_
  refine J_aload_nC (i := 0) (j := 3) dL_law_2068 rfl rfl ?_
  refine J_iload_n (i := 3) (j := 0) dL_law_2069 rfl rfl ?_
  refine J_iconst (v := 3) dL_law_2070 (by decide) ?_
  refine J_iadd dL_law_2071 ?_
  refine J_ci (v := 3) (by decide) ?_
  refine J_cald (z := 8) (f := xs) dL_law_2072 hcon (vp_c (by decide)) ?_
  refine J_aload_nC (i := 0) (j := 3) dL_law_2073 rfl rfl ?_
  refine J_iload_n (i := 3) (j := 0) dL_law_2074 rfl rfl ?_
  refine J_iconst (v := 4) dL_law_2075 (by decide) ?_
  refine J_iadd dL_law_2076 ?_
  refine J_ci (v := 4) (by decide) ?_
  refine J_cald (z := 8) (f := xs) dL_law_2077 hcon (vp_c (by decide)) ?_
  refine J_aload_nC (i := 0) (j := 3) dL_law_2078 rfl rfl ?_
  refine J_iload_n (i := 3) (j := 0) dL_law_2079 rfl rfl ?_
  refine J_iconst (v := 5) dL_law_2080 (by decide) ?_
  refine J_iadd dL_law_2081 ?_
  refine J_ci (v := 5) (by decide) ?_
  refine J_cald (z := 8) (f := xs) dL_law_2082 hcon (vp_c (by decide)) ?_
  refine J_aload_nC (i := 0) (j := 3) dL_law_2083 rfl rfl ?_
  refine J_iload_n (i := 3) (j := 0) dL_law_2084 rfl rfl ?_
  refine J_bipush (v := 6) dL_law_2085 (by decide) ?_
  refine J_iadd dL_law_2087 ?_
  refine J_ci (v := 6) (by decide) ?_
  refine J_cald (z := 8) (f := xs) dL_law_2088 hcon (vp_c (by decide)) ?_
  refine J_aload_nC (i := 0) (j := 3) dL_law_2089 rfl rfl ?_
  refine J_iload_n (i := 3) (j := 0) dL_law_2090 rfl rfl ?_
  refine J_bipush (v := 7) dL_law_2091 (by decide) ?_
  refine J_iadd dL_law_2093 ?_
  refine J_ci (v := 7) (by decide) ?_
  refine J_cald (z := 8) (f := xs) dL_law_2094 hcon (vp_c (by decide)) ?_
  refine J_callV (As := [.int (xs (1 : Int32).toNatClampNeg), .int (xs (2 : Int32).toNatClampNeg), .int (xs (3 : Int32).toNatClampNeg), .int (xs (4 : Int32).toNatClampNeg), .int (xs (5 : Int32).toNatClampNeg), .int (xs (6 : Int32).toNatClampNeg), .int (xs (7 : Int32).toNatClampNeg)]) (rest := [.int (-1)]) dL_law_2095 (c_X11_twice0 (d := 4) (h := h) (a0 := (xs (1 : Int32).toNatClampNeg)) (a1 := (xs (2 : Int32).toNatClampNeg)) (a2 := (xs (3 : Int32).toNatClampNeg)) (a3 := (xs (4 : Int32).toNatClampNeg)) (a4 := (xs (5 : Int32).toNatClampNeg)) (a5 := (xs (6 : Int32).toNatClampNeg)) (a6 := (xs (7 : Int32).toNatClampNeg)) (by decide) (zm_162 hm) (zm_167 hm)) hN k1782 k1783 k1784 (zm_162 hm) rfl rfl k97 k1785 np_X11_twice (Nat.le_trans (by decide) hd) (by decide) (by decide) (by decide) (hk182 hx.1) rfl (Nat.le_of_ble_eq_true rfl) (fun r_5 h_6 p_7 => ?_)
  obtain rfl := p_7
  refine J_icmp_eq (tgt := 2268) dL_law_2098 (by decide) (fun _ => ?_) (fun q => absurd (by decide) q)
  exact law_tail hq hcon (by decide) (by decide)
set_option maxHeartbeats 4000000 in
set_option maxRecDepth 100000 in
theorem law_38 {x : JX} {bb : Nat} {xs : Nat → Int32} {h : List MC} (hq : LQ x bb) (hN : JN x con0) (hcon : x.2.2.2.2.2.2.2.2.2.2.2.2.2.2.1 0 = some (8, xs)) (hx : ZX h) (hm : ZM h) (hd : 12 ≤ 12) : J x yL_law code 4 ret 12 600000 7302250 0 2103 [(3, .int 0), (2, .ref 162), (1, .ref 0), (0, .retAddr 0)] [] h 182 13870 := by
  refine J_aload_n (i := 1) (j := 2) dL_law_2103 rfl rfl ?_
  refine J_aload_nC (i := 0) (j := 3) dL_law_2104 rfl rfl ?_
  refine J_iload_n (i := 3) (j := 0) dL_law_2105 rfl rfl ?_
  refine J_iconst (v := 1) dL_law_2106 (by decide) ?_
  refine J_iadd dL_law_2107 ?_
  refine J_ci (v := 1) (by decide) ?_
  refine J_cald (z := 8) (f := xs) dL_law_2108 hcon (vp_c (by decide)) ?_
  refine J_aload_nC (i := 0) (j := 3) dL_law_2109 rfl rfl ?_
  refine J_iload_n (i := 3) (j := 0) dL_law_2110 rfl rfl ?_
  refine J_iconst (v := 2) dL_law_2111 (by decide) ?_
  refine J_iadd dL_law_2112 ?_
  refine J_ci (v := 2) (by decide) ?_
  refine J_cald (z := 8) (f := xs) dL_law_2113 hcon (vp_c (by decide)) ?_
  refine J_aload_nC (i := 0) (j := 3) dL_law_2114 rfl rfl ?_
  refine J_iload_n (i := 3) (j := 0) dL_law_2115 rfl rfl ?_
  refine J_iconst (v := 3) dL_law_2116 (by decide) ?_
  refine J_iadd dL_law_2117 ?_
  refine J_ci (v := 3) (by decide) ?_
  refine J_cald (z := 8) (f := xs) dL_law_2118 hcon (vp_c (by decide)) ?_
  refine J_callV (As := [.int (xs (1 : Int32).toNatClampNeg), .int (xs (2 : Int32).toNatClampNeg), .int (xs (3 : Int32).toNatClampNeg)]) (rest := []) dL_law_2119 (c_X10_better0 (d := 3) (h := h) (a0 := (xs (1 : Int32).toNatClampNeg)) (a1 := (xs (2 : Int32).toNatClampNeg)) (a2 := (xs (3 : Int32).toNatClampNeg)) (by decide) (zx_0 hx) (zx_1 hx)) hN k1228 k1229 k1230 (zx_0 hx) rfl rfl k87 k1231 np_X10_better (Nat.le_trans (by decide) hd) (by decide) (by decide) (by decide) (hk182 hx.1) rfl (Nat.le_of_ble_eq_true rfl) (fun r_1 h_2 p_3 => ?_)
  obtain ⟨rfl, w_4⟩ := p_3
  refine J_w w_4 ?_
  refine J_aload_n (i := 2) (j := 1) dL_law_2122 rfl rfl ?_
  refine J_aload_nC (i := 0) (j := 3) dL_law_2123 rfl rfl ?_
  refine J_iload_n (i := 3) (j := 0) dL_law_2124 rfl rfl ?_
  refine J_iconst (v := 1) dL_law_2125 (by decide) ?_
  refine J_iadd dL_law_2126 ?_
  refine J_ci (v := 1) (by decide) ?_
  refine J_cald (z := 8) (f := xs) dL_law_2127 hcon (vp_c (by decide)) ?_
  refine J_aload_nC (i := 0) (j := 3) dL_law_2128 rfl rfl ?_
  refine J_iload_n (i := 3) (j := 0) dL_law_2129 rfl rfl ?_
  refine J_iconst (v := 2) dL_law_2130 (by decide) ?_
  refine J_iadd dL_law_2131 ?_
  refine J_ci (v := 2) (by decide) ?_
  refine J_cald (z := 8) (f := xs) dL_law_2132 hcon (vp_c (by decide)) ?_
  refine J_aload_nC (i := 0) (j := 3) dL_law_2133 rfl rfl ?_
  refine J_iload_n (i := 3) (j := 0) dL_law_2134 rfl rfl ?_
  refine J_iconst (v := 3) dL_law_2135 (by decide) ?_
  refine J_iadd dL_law_2136 ?_
  refine J_ci (v := 3) (by decide) ?_
  refine J_cald (z := 8) (f := xs) dL_law_2137 hcon (vp_c (by decide)) ?_
  refine J_callV (As := [.int (xs (1 : Int32).toNatClampNeg), .int (xs (2 : Int32).toNatClampNeg), .int (xs (3 : Int32).toNatClampNeg)]) (rest := [.int (-1)]) dL_law_2138 (c_X11_better0 (d := 4) (h := h) (a0 := (xs (1 : Int32).toNatClampNeg)) (a1 := (xs (2 : Int32).toNatClampNeg)) (a2 := (xs (3 : Int32).toNatClampNeg)) (by decide) (zm_162 hm) (zm_167 hm)) hN k1786 k1787 k1788 (zm_162 hm) rfl rfl k97 k1789 np_X11_better (Nat.le_trans (by decide) hd) (by decide) (by decide) (by decide) (hk182 hx.1) rfl (Nat.le_of_ble_eq_true rfl) (fun r_5 h_6 p_7 => ?_)
  obtain rfl := p_7
  refine J_icmp_eq (tgt := 2268) dL_law_2141 (by decide) (fun _ => ?_) (fun q => absurd (by decide) q)
  exact law_tail hq hcon (by decide) (by decide)
set_option maxHeartbeats 4000000 in
set_option maxRecDepth 100000 in
theorem law_39 {x : JX} {bb : Nat} {xs : Nat → Int32} {h : List MC} (hq : LQ x bb) (hN : JN x con0) (hcon : x.2.2.2.2.2.2.2.2.2.2.2.2.2.2.1 0 = some (8, xs)) (hx : ZX h) (hm : ZM h) (hd : 12 ≤ 12) : J x yL_law code 4 ret 12 600000 7302250 0 2146 [(3, .int 0), (2, .ref 162), (1, .ref 0), (0, .retAddr 0)] [] h 182 13870 := by
  refine J_aload_n (i := 1) (j := 2) dL_law_2146 rfl rfl ?_
  refine J_aload_nC (i := 0) (j := 3) dL_law_2147 rfl rfl ?_
  refine J_iload_n (i := 3) (j := 0) dL_law_2148 rfl rfl ?_
  refine J_iconst (v := 1) dL_law_2149 (by decide) ?_
  refine J_iadd dL_law_2150 ?_
  refine J_ci (v := 1) (by decide) ?_
  refine J_cald (z := 8) (f := xs) dL_law_2151 hcon (vp_c (by decide)) ?_
  refine J_aload_nC (i := 0) (j := 3) dL_law_2152 rfl rfl ?_
  refine J_iload_n (i := 3) (j := 0) dL_law_2153 rfl rfl ?_
  refine J_iconst (v := 2) dL_law_2154 (by decide) ?_
  refine J_iadd dL_law_2155 ?_
  refine J_ci (v := 2) (by decide) ?_
  refine J_cald (z := 8) (f := xs) dL_law_2156 hcon (vp_c (by decide)) ?_
  refine J_aload_nC (i := 0) (j := 3) dL_law_2157 rfl rfl ?_
  refine J_iload_n (i := 3) (j := 0) dL_law_2158 rfl rfl ?_
  refine J_iconst (v := 3) dL_law_2159 (by decide) ?_
  refine J_iadd dL_law_2160 ?_
  refine J_ci (v := 3) (by decide) ?_
  refine J_cald (z := 8) (f := xs) dL_law_2161 hcon (vp_c (by decide)) ?_
  refine J_aload_nC (i := 0) (j := 3) dL_law_2162 rfl rfl ?_
  refine J_iload_n (i := 3) (j := 0) dL_law_2163 rfl rfl ?_
  refine J_iconst (v := 4) dL_law_2164 (by decide) ?_
  refine J_iadd dL_law_2165 ?_
  refine J_ci (v := 4) (by decide) ?_
  refine J_cald (z := 8) (f := xs) dL_law_2166 hcon (vp_c (by decide)) ?_
  refine J_callV (As := [.int (xs (1 : Int32).toNatClampNeg), .int (xs (2 : Int32).toNatClampNeg), .int (xs (3 : Int32).toNatClampNeg), .int (xs (4 : Int32).toNatClampNeg)]) (rest := []) dL_law_2167 (c_X10_spend0 (d := 3) (h := h) (a0 := (xs (1 : Int32).toNatClampNeg)) (a1 := (xs (2 : Int32).toNatClampNeg)) (a2 := (xs (3 : Int32).toNatClampNeg)) (a3 := (xs (4 : Int32).toNatClampNeg)) (by decide) (zx_0 hx) (zx_1 hx)) hN k1232 k1233 k1234 (zx_0 hx) rfl rfl k87 k1235 np_X10_spend (Nat.le_trans (by decide) hd) (by decide) (by decide) (by decide) (hk182 hx.1) rfl (Nat.le_of_ble_eq_true rfl) (fun r_1 h_2 p_3 => ?_)
  obtain ⟨rfl, w_4⟩ := p_3
  refine J_w w_4 ?_
  refine J_aload_n (i := 2) (j := 1) dL_law_2170 rfl rfl ?_
  refine J_aload_nC (i := 0) (j := 3) dL_law_2171 rfl rfl ?_
  refine J_iload_n (i := 3) (j := 0) dL_law_2172 rfl rfl ?_
  refine J_iconst (v := 1) dL_law_2173 (by decide) ?_
  refine J_iadd dL_law_2174 ?_
  refine J_ci (v := 1) (by decide) ?_
  refine J_cald (z := 8) (f := xs) dL_law_2175 hcon (vp_c (by decide)) ?_
  refine J_aload_nC (i := 0) (j := 3) dL_law_2176 rfl rfl ?_
  refine J_iload_n (i := 3) (j := 0) dL_law_2177 rfl rfl ?_
  refine J_iconst (v := 2) dL_law_2178 (by decide) ?_
  refine J_iadd dL_law_2179 ?_
  refine J_ci (v := 2) (by decide) ?_
  refine J_cald (z := 8) (f := xs) dL_law_2180 hcon (vp_c (by decide)) ?_
  refine J_aload_nC (i := 0) (j := 3) dL_law_2181 rfl rfl ?_
  refine J_iload_n (i := 3) (j := 0) dL_law_2182 rfl rfl ?_
  refine J_iconst (v := 3) dL_law_2183 (by decide) ?_
  refine J_iadd dL_law_2184 ?_
  refine J_ci (v := 3) (by decide) ?_
  refine J_cald (z := 8) (f := xs) dL_law_2185 hcon (vp_c (by decide)) ?_
  refine J_aload_nC (i := 0) (j := 3) dL_law_2186 rfl rfl ?_
  refine J_iload_n (i := 3) (j := 0) dL_law_2187 rfl rfl ?_
  refine J_iconst (v := 4) dL_law_2188 (by decide) ?_
  refine J_iadd dL_law_2189 ?_
  refine J_ci (v := 4) (by decide) ?_
  refine J_cald (z := 8) (f := xs) dL_law_2190 hcon (vp_c (by decide)) ?_
  refine J_callV (As := [.int (xs (1 : Int32).toNatClampNeg), .int (xs (2 : Int32).toNatClampNeg), .int (xs (3 : Int32).toNatClampNeg), .int (xs (4 : Int32).toNatClampNeg)]) (rest := [.int (-1)]) dL_law_2191 (c_X11_spend0 (d := 4) (h := h) (a0 := (xs (1 : Int32).toNatClampNeg)) (a1 := (xs (2 : Int32).toNatClampNeg)) (a2 := (xs (3 : Int32).toNatClampNeg)) (a3 := (xs (4 : Int32).toNatClampNeg)) (by decide) (zm_162 hm) (zm_167 hm)) hN k1790 k1791 k1792 (zm_162 hm) rfl rfl k97 k1793 np_X11_spend (Nat.le_trans (by decide) hd) (by decide) (by decide) (by decide) (hk182 hx.1) rfl (Nat.le_of_ble_eq_true rfl) (fun r_5 h_6 p_7 => ?_)
  obtain rfl := p_7
  refine J_icmp_eq (tgt := 2268) dL_law_2194 (by decide) (fun _ => ?_) (fun q => absurd (by decide) q)
  exact law_tail hq hcon (by decide) (by decide)
set_option maxHeartbeats 4000000 in
set_option maxRecDepth 100000 in
theorem law_40 {x : JX} {bb : Nat} {xs : Nat → Int32} {h : List MC} (hq : LQ x bb) (hN : JN x con0) (hcon : x.2.2.2.2.2.2.2.2.2.2.2.2.2.2.1 0 = some (8, xs)) (hx : ZX h) (hm : ZM h) (hd : 12 ≤ 12) : J x yL_law code 4 ret 12 600000 7302250 0 2199 [(3, .int 0), (2, .ref 162), (1, .ref 0), (0, .retAddr 0)] [] h 182 13870 := by
  refine J_aload_n (i := 1) (j := 2) dL_law_2199 rfl rfl ?_
  refine J_aload_nC (i := 0) (j := 3) dL_law_2200 rfl rfl ?_
  refine J_iload_n (i := 3) (j := 0) dL_law_2201 rfl rfl ?_
  refine J_iconst (v := 1) dL_law_2202 (by decide) ?_
  refine J_iadd dL_law_2203 ?_
  refine J_ci (v := 1) (by decide) ?_
  refine J_cald (z := 8) (f := xs) dL_law_2204 hcon (vp_c (by decide)) ?_
  refine J_callV (As := [.int (xs (1 : Int32).toNatClampNeg)]) (rest := []) dL_law_2205 (c_X10_count0 (d := 0) (h := h) (a0 := (xs (1 : Int32).toNatClampNeg)) (by decide) (zx_0 hx) (zx_1 hx)) hN k1241 k1242 k1243 (zx_0 hx) rfl rfl k87 k1244 np_X10_count (Nat.le_trans (by decide) hd) (by decide) (by decide) (by decide) (hk182 hx.1) rfl (Nat.le_of_ble_eq_true rfl) (fun r_1 h_2 p_3 => ?_)
  obtain ⟨rfl, fx_4⟩ := p_3
  have zm_5 := ZM.fx hm fx_4
  refine J_aload_n (i := 2) (j := 1) dL_law_2208 rfl rfl ?_
  refine J_aload_nC (i := 0) (j := 3) dL_law_2209 rfl rfl ?_
  refine J_iload_n (i := 3) (j := 0) dL_law_2210 rfl rfl ?_
  refine J_iconst (v := 1) dL_law_2211 (by decide) ?_
  refine J_iadd dL_law_2212 ?_
  refine J_ci (v := 1) (by decide) ?_
  refine J_cald (z := 8) (f := xs) dL_law_2213 hcon (vp_c (by decide)) ?_
  refine J_callV (As := [.int (xs (1 : Int32).toNatClampNeg)]) (rest := [.int (if (xs (1 : Int32).toNatClampNeg) = 0 then 0 else if (xs (1 : Int32).toNatClampNeg) = 1 then 0 else -2)]) dL_law_2214 (c_X11_count0 (d := 1) (h := h_2) (a0 := (xs (1 : Int32).toNatClampNeg)) (by decide) (zm_162 zm_5) (zm_167 zm_5) (zm_164 zm_5) (zm_165 zm_5) (zm_166 zm_5) (zm_181 zm_5)) hN k1794 k1795 k1796 (zm_162 zm_5) rfl rfl k97 k1797 np_X11_count (Nat.le_trans (by decide) hd) (by decide) (by decide) (by decide) (hk182 zm_5.1) rfl (Nat.le_of_ble_eq_true rfl) (fun r_6 h_7 p_8 => ?_)
  obtain rfl := p_8
  refine J_icmp_eq (tgt := 2268) dL_law_2217 (by decide) (fun _ => ?_) (fun q => absurd rfl q)
  exact law_tail hq hcon (by decide) (by decide)
set_option maxHeartbeats 4000000 in
set_option maxRecDepth 100000 in
theorem law_41 {x : JX} {bb : Nat} {xs : Nat → Int32} {h : List MC} (hq : LQ x bb) (hN : JN x con0) (hcon : x.2.2.2.2.2.2.2.2.2.2.2.2.2.2.1 0 = some (8, xs)) (hx : ZX h) (hm : ZM h) (hd : 12 ≤ 12) : J x yL_law code 4 ret 12 600000 7302250 0 2222 [(3, .int 0), (2, .ref 162), (1, .ref 0), (0, .retAddr 0)] [] h 182 13870 := by
  refine J_aload_n (i := 1) (j := 2) dL_law_2222 rfl rfl ?_
  refine J_aload_nC (i := 0) (j := 3) dL_law_2223 rfl rfl ?_
  refine J_iload_n (i := 3) (j := 0) dL_law_2224 rfl rfl ?_
  refine J_iconst (v := 1) dL_law_2225 (by decide) ?_
  refine J_iadd dL_law_2226 ?_
  refine J_ci (v := 1) (by decide) ?_
  refine J_cald (z := 8) (f := xs) dL_law_2227 hcon (vp_c (by decide)) ?_
  refine J_callV (As := [.int (xs (1 : Int32).toNatClampNeg)]) (rest := []) dL_law_2228 (c_X10_image0 (d := 3) (h := h) (a0 := (xs (1 : Int32).toNatClampNeg)) (by decide) (zx_0 hx) (zx_1 hx) (zx_27 hx) (zx_28 hx) (zx_2 hx) (zx_3 hx) (zx_4 hx) (zx_5 hx) (zx_6 hx) (zx_7 hx) (zx_8 hx) (zx_9 hx) (zx_10 hx) (zx_11 hx) (zx_12 hx) (zx_13 hx) (zx_14 hx) (zx_15 hx) (zx_16 hx) (zx_17 hx) (zx_18 hx) (zx_19 hx) (zx_20 hx) (zx_21 hx) (zx_22 hx) (zx_23 hx) (zx_24 hx) (zx_25 hx) (zx_26 hx) (zx_84 hx) (zx_85 hx) (zx_86 hx) (zx_87 hx) (zx_88 hx) (zx_89 hx) (zx_90 hx) (zx_91 hx) (zx_92 hx) (zx_93 hx) (zx_94 hx) (zx_95 hx) (zx_96 hx) (zx_97 hx) (zx_98 hx) (zx_99 hx) (zx_100 hx) (zx_101 hx) (zx_102 hx) (zx_103 hx) (zx_104 hx) (zx_105 hx) (zx_106 hx) (zx_107 hx) (zx_108 hx) (zx_109 hx) (zx_110 hx) (zx_111 hx) (zx_112 hx) (zx_113 hx) (zx_114 hx) (zx_115 hx) (zx_116 hx) (zx_117 hx) (zx_118 hx) (zx_119 hx) (zx_120 hx) (zx_121 hx) (zx_122 hx) (zx_123 hx) (zx_124 hx) (zx_125 hx) (zx_126 hx) (zx_127 hx) (zx_128 hx) (zx_129 hx) (zx_130 hx) (zx_131 hx) (zx_132 hx) (zx_133 hx) (zx_134 hx) (zx_135 hx) (zx_136 hx) (zx_137 hx) (zx_138 hx) (zx_139 hx) (zx_140 hx) (zx_141 hx) (zx_142 hx) (zx_143 hx) (zx_144 hx) (zx_145 hx) (zx_146 hx) (zx_147 hx) (zx_148 hx) (zx_149 hx) (zx_150 hx) (zx_151 hx) (zx_152 hx) (zx_153 hx) (zx_154 hx) (zx_155 hx) (zx_156 hx) (zx_157 hx) (zx_158 hx) (zx_159 hx) (zx_160 hx) (zx_161 hx)) hN k1245 k1246 k1247 (zx_0 hx) rfl rfl k87 k1248 np_X10_image (Nat.le_trans (by decide) hd) (by decide) (by decide) (by decide) (hk182 hx.1) rfl (Nat.le_of_ble_eq_true rfl) (fun r_1 h_2 p_3 => ?_)
  obtain ⟨rfl, fx_4⟩ := p_3
  have zm_5 := ZM.fx hm fx_4
  refine J_aload_n (i := 2) (j := 1) dL_law_2231 rfl rfl ?_
  refine J_aload_nC (i := 0) (j := 3) dL_law_2232 rfl rfl ?_
  refine J_iload_n (i := 3) (j := 0) dL_law_2233 rfl rfl ?_
  refine J_iconst (v := 1) dL_law_2234 (by decide) ?_
  refine J_iadd dL_law_2235 ?_
  refine J_ci (v := 1) (by decide) ?_
  refine J_cald (z := 8) (f := xs) dL_law_2236 hcon (vp_c (by decide)) ?_
  refine J_callV (As := [.int (xs (1 : Int32).toNatClampNeg)]) (rest := [.int (if (xs (1 : Int32).toNatClampNeg) < 0 then 0 else if (xs (1 : Int32).toNatClampNeg) < 3 then 1 else 0)]) dL_law_2237 (c_X11_image0 (d := 2) (h := h_2) (a0 := (xs (1 : Int32).toNatClampNeg)) (by decide) (zm_162 zm_5) (zm_163 zm_5) (zm_164 zm_5) (zm_165 zm_5) (zm_166 zm_5) (zm_167 zm_5) (zm_168 zm_5) (zm_169 zm_5) (zm_181 zm_5)) hN k1798 k1799 k1800 (zm_162 zm_5) rfl rfl k97 k1801 np_X11_image (Nat.le_trans (by decide) hd) (by decide) (by decide) (by decide) (hk182 zm_5.1) rfl (Nat.le_of_ble_eq_true rfl) (fun r_6 h_7 p_8 => ?_)
  obtain rfl := p_8
  refine J_icmp_eq (tgt := 2268) dL_law_2240 (by decide) (fun _ => ?_) (fun q => absurd rfl q)
  exact law_tail hq hcon (by decide) (by decide)
set_option maxHeartbeats 4000000 in
set_option maxRecDepth 100000 in
theorem law_42 {x : JX} {bb : Nat} {xs : Nat → Int32} {h : List MC} (hq : LQ x bb) (hN : JN x con0) (hcon : x.2.2.2.2.2.2.2.2.2.2.2.2.2.2.1 0 = some (8, xs)) (hx : ZX h) (hm : ZM h) (hd : 12 ≤ 12) : J x yL_law code 4 ret 12 600000 7302250 0 2245 [(3, .int 0), (2, .ref 162), (1, .ref 0), (0, .retAddr 0)] [] h 182 13870 := by
  refine J_aload_n (i := 1) (j := 2) dL_law_2245 rfl rfl ?_
  refine J_aload_nC (i := 0) (j := 3) dL_law_2246 rfl rfl ?_
  refine J_iload_n (i := 3) (j := 0) dL_law_2247 rfl rfl ?_
  refine J_iconst (v := 1) dL_law_2248 (by decide) ?_
  refine J_iadd dL_law_2249 ?_
  refine J_ci (v := 1) (by decide) ?_
  refine J_cald (z := 8) (f := xs) dL_law_2250 hcon (vp_c (by decide)) ?_
  refine J_callV (As := [.int (xs (1 : Int32).toNatClampNeg)]) (rest := []) dL_law_2251 (c_X10_again0 (d := 1) (h := h) (a0 := (xs (1 : Int32).toNatClampNeg)) (by decide) (zx_0 hx) (zx_1 hx) (zx_28 hx)) hN k1254 k1255 k1256 (zx_0 hx) rfl rfl k87 k1257 np_X10_again (Nat.le_trans (by decide) hd) (by decide) (by decide) (by decide) (hk182 hx.1) rfl (Nat.le_of_ble_eq_true rfl) (fun r_1 h_2 p_3 => ?_)
  obtain ⟨rfl, fx_4⟩ := p_3
  have zm_5 := ZM.fx hm fx_4
  refine J_aload_n (i := 2) (j := 1) dL_law_2254 rfl rfl ?_
  refine J_aload_nC (i := 0) (j := 3) dL_law_2255 rfl rfl ?_
  refine J_iload_n (i := 3) (j := 0) dL_law_2256 rfl rfl ?_
  refine J_iconst (v := 1) dL_law_2257 (by decide) ?_
  refine J_iadd dL_law_2258 ?_
  refine J_ci (v := 1) (by decide) ?_
  refine J_cald (z := 8) (f := xs) dL_law_2259 hcon (vp_c (by decide)) ?_
  refine J_callV (As := [.int (xs (1 : Int32).toNatClampNeg)]) (rest := [.int 0]) dL_law_2260 (c_X11_again0 (d := 1) (h := h_2) (a0 := (xs (1 : Int32).toNatClampNeg)) (by decide) (zm_162 zm_5) (zm_167 zm_5) (zm_164 zm_5) (zm_165 zm_5) (zm_166 zm_5) (zm_181 zm_5)) hN k1809 k1810 k1811 (zm_162 zm_5) rfl rfl k97 k1812 np_X11_again (Nat.le_trans (by decide) hd) (by decide) (by decide) (by decide) (hk182 zm_5.1) rfl (Nat.le_of_ble_eq_true rfl) (fun r_6 h_7 p_8 => ?_)
  obtain rfl := p_8
  refine J_icmp_eq (tgt := 2268) dL_law_2263 (by decide) (fun _ => ?_) (fun q => absurd (by decide) q)
  exact law_tail hq hcon (by decide) (by decide)
