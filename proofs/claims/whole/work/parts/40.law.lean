section
variable {p : Program} {l : Launch} {e : Env} {s : State} {m : MethodId} {below : List Frame} {meth : Method} {c : Code} {E : Ev}
def bb_L_law_220 (xL : Nat) (xs : Nat → Int32) (k_23 : Int32 → Mm → Option Unit) (x4 : Int32) (M : Mm) : Option Unit := gd (inb (x4 + (1 : Int32)) xL) (gd (inb (x4 + (2 : Int32)) xL) (gd (inb (x4 + (3 : Int32)) xL) (gd (inb (x4 + (4 : Int32)) xL) (gd (inb (x4 + (5 : Int32)) xL) (bd2 (f_X9_feed_0 (xs (ix (x4 + (1 : Int32)))) (xs (ix (x4 + (2 : Int32)))) (xs (ix (x4 + (3 : Int32)))) (xs (ix (x4 + (4 : Int32)))) (xs (ix (x4 + (5 : Int32)))) M) fun v_10 M_9 => gd (inb (x4 + (1 : Int32)) xL) (gd (inb (x4 + (2 : Int32)) xL) (gd (inb (x4 + (3 : Int32)) xL) (gd (inb (x4 + (4 : Int32)) xL) (gd (inb (x4 + (5 : Int32)) xL) (bd2 (f_X10_feed_67 (xs (ix (x4 + (1 : Int32)))) (xs (ix (x4 + (2 : Int32)))) (xs (ix (x4 + (3 : Int32)))) (xs (ix (x4 + (4 : Int32)))) (xs (ix (x4 + (5 : Int32)))) M_9) fun v_18 M_17 => if v_10 = v_18 then (ltv (x4 + (6 : Int32)) fun x4_19 => k_23 x4_19 M_17) else (none)))))))))))
set_option maxHeartbeats 4000000 in
set_option maxRecDepth 100000 in
theorem gb_L_law_220 {b xL n cl sl : Nat} {xs : Nat → Int32} {k_23 : Int32 → Mm → Option Unit} {x4 : Int32} {M : Mm} (hE : Has shA (eH E)) (hl : l.stackTraces = false) (C : Cx RL cL_law 8 p room_1 s m #[Value.ref b] meth c E) (hr : meth.sig.returnType = ret) (hes : eS E = s.heap.size) (hX : va_X b xL xs s s.heap) (hbl : b < s.heap.size) (hbA : ¬ eF E b) (hb : cl + (n + 1) ≤ 1000) (hsb : sl + 6 * (n + 1) ≤ 10000) (hk : ∀ (x4 : Int32) (M : Mm) (cl sl : Nat), cl + n ≤ 1000 → sl + 6 * n ≤ 10000 → k_23 x4 M = some () → G p l e room_1 s m #[Value.ref b] below meth c E 8 cl sl (lw_Z below #[Value.ref b] s) 23 [(0, .ref b), (1, .ref (eA E 0)), (2, .ref (eA E 67)), (3, .ref (eA E 120)), (4, .int x4)] [] M) (h : bb_L_law_220 xL xs k_23 x4 M = some ()) : G p l e room_1 s m #[Value.ref b] below meth c E 8 cl sl (lw_Z below #[Value.ref b] s) 220 [(0, .ref b), (1, .ref (eA E 0)), (2, .ref (eA E 67)), (3, .ref (eA E 120)), (4, .int x4)] [] M := by
  unfold bb_L_law_220 at h
  refine G.aload_n C 1 dL_law_220 rfl rfl ?_
  refine G.aload_n C 0 dL_law_221 rfl rfl ?_
  refine G.iload C 4 dL_law_222 rfl ?_
  refine G.iconst (v := (1 : Int32)) C dL_law_224 (by decide) ?_
  refine G.iadd C dL_law_225 ?_
  obtain ⟨hg_3, h⟩ := gd_ex h
  refine G.sld C hX hbl hbA hg_3 dL_law_226 ?_
  refine G.aload_n C 0 dL_law_227 rfl rfl ?_
  refine G.iload C 4 dL_law_228 rfl ?_
  refine G.iconst (v := (2 : Int32)) C dL_law_230 (by decide) ?_
  refine G.iadd C dL_law_231 ?_
  obtain ⟨hg_4, h⟩ := gd_ex h
  refine G.sld C hX hbl hbA hg_4 dL_law_232 ?_
  refine G.aload_n C 0 dL_law_233 rfl rfl ?_
  refine G.iload C 4 dL_law_234 rfl ?_
  refine G.iconst (v := (3 : Int32)) C dL_law_236 (by decide) ?_
  refine G.iadd C dL_law_237 ?_
  obtain ⟨hg_5, h⟩ := gd_ex h
  refine G.sld C hX hbl hbA hg_5 dL_law_238 ?_
  refine G.aload_n C 0 dL_law_239 rfl rfl ?_
  refine G.iload C 4 dL_law_240 rfl ?_
  refine G.iconst (v := (4 : Int32)) C dL_law_242 (by decide) ?_
  refine G.iadd C dL_law_243 ?_
  obtain ⟨hg_6, h⟩ := gd_ex h
  refine G.sld C hX hbl hbA hg_6 dL_law_244 ?_
  refine G.aload_n C 0 dL_law_245 rfl rfl ?_
  refine G.iload C 4 dL_law_246 rfl ?_
  refine G.iconst (v := (5 : Int32)) C dL_law_248 (by decide) ?_
  refine G.iadd C dL_law_249 ?_
  obtain ⟨hg_7, h⟩ := gd_ex h
  refine G.sld C hX hbl hbA hg_7 dL_law_250 ?_
  obtain ⟨v_10, M_9, hv_8, h⟩ := bd2_ex h
  refine G.callV (rest := []) C (s_X9_feed_0 (hasC hE)  hv_8) ⟨tg_516, tg_90, ok_X9_feed, Nat.le_of_ble_eq_true rfl, Nat.le_of_ble_eq_true rfl⟩ tg_513 tg_514 tg_515 (sc_0 (hasC hE)) rfl rfl (Nat.le_of_ble_eq_true rfl) dL_law_251 ⟨by show _ ≤ 600128; omega, by show _ ≤ 7301098; omega⟩ ?_
  refine G.aload_n C 2 dL_law_254 rfl rfl ?_
  refine G.aload_n C 0 dL_law_255 rfl rfl ?_
  refine G.iload C 4 dL_law_256 rfl ?_
  refine G.iconst (v := (1 : Int32)) C dL_law_258 (by decide) ?_
  refine G.iadd C dL_law_259 ?_
  obtain ⟨hg_11, h⟩ := gd_ex h
  refine G.sld C hX hbl hbA hg_11 dL_law_260 ?_
  refine G.aload_n C 0 dL_law_261 rfl rfl ?_
  refine G.iload C 4 dL_law_262 rfl ?_
  refine G.iconst (v := (2 : Int32)) C dL_law_264 (by decide) ?_
  refine G.iadd C dL_law_265 ?_
  obtain ⟨hg_12, h⟩ := gd_ex h
  refine G.sld C hX hbl hbA hg_12 dL_law_266 ?_
  refine G.aload_n C 0 dL_law_267 rfl rfl ?_
  refine G.iload C 4 dL_law_268 rfl ?_
  refine G.iconst (v := (3 : Int32)) C dL_law_270 (by decide) ?_
  refine G.iadd C dL_law_271 ?_
  obtain ⟨hg_13, h⟩ := gd_ex h
  refine G.sld C hX hbl hbA hg_13 dL_law_272 ?_
  refine G.aload_n C 0 dL_law_273 rfl rfl ?_
  refine G.iload C 4 dL_law_274 rfl ?_
  refine G.iconst (v := (4 : Int32)) C dL_law_276 (by decide) ?_
  refine G.iadd C dL_law_277 ?_
  obtain ⟨hg_14, h⟩ := gd_ex h
  refine G.sld C hX hbl hbA hg_14 dL_law_278 ?_
  refine G.aload_n C 0 dL_law_279 rfl rfl ?_
  refine G.iload C 4 dL_law_280 rfl ?_
  refine G.iconst (v := (5 : Int32)) C dL_law_282 (by decide) ?_
  refine G.iadd C dL_law_283 ?_
  obtain ⟨hg_15, h⟩ := gd_ex h
  refine G.sld C hX hbl hbA hg_15 dL_law_284 ?_
  obtain ⟨v_18, M_17, hv_16, h⟩ := bd2_ex h
  refine G.callV (rest := [.int v_10]) C (s_X10_feed_67 (hasM hE)  hv_16) ⟨tg_1589, tg_103, ok_X10_feed, Nat.le_of_ble_eq_true rfl, Nat.le_of_ble_eq_true rfl⟩ tg_1586 tg_1587 tg_1588 (sm_67 (hasM hE)) rfl rfl (Nat.le_of_ble_eq_true rfl) dL_law_285 ⟨by show _ ≤ 600128; omega, by show _ ≤ 7301098; omega⟩ ?_
  refine G.icmp_eq (tgt := 2798) C dL_law_288 (by decide) (fun hc => ?_) (fun hc => ?_)
  · have h := it_t h hc
    obtain ⟨x4_19, ex4_19, h⟩ := ltv_ex h
    refine G.iinc (L' := [(4, .int x4_19), (0, .ref b), (1, .ref (eA E 0)), (2, .ref (eA E 67)), (3, .ref (eA E 120))]) C 4 dL_law_2798 rfl (ex4_19.trans rfl) (by decide) rfl ?_
    refine G.goto (tgt := 23) C dL_law_2801 (by decide) ?_
    exact G.sub [1, 2, 3, 4, 0] rfl (hk _ _ _ _ (by omega) (by omega) h)
  · have h := it_f h hc
    refine G.iconst (v := (0 : Int32)) C dL_law_291 (by decide) ?_
    cases h
def bb_L_law_293 (xL : Nat) (xs : Nat → Int32) (k_23 : Int32 → Mm → Option Unit) (x4 : Int32) (M : Mm) : Option Unit := gd (inb (x4 + (1 : Int32)) xL) (bd2 (fw_L_sheet_0_120 (xs (ix (x4 + (1 : Int32)))) M) fun v_21 M_22 => gd (inb (x4 + (1 : Int32)) xL) (bd2 (f_X10_sheet_67 (xs (ix (x4 + (1 : Int32)))) M_22) fun v_27 M_26 => bd (f_X10_thrown_67 M_26) fun v_29 => if v_29 = v_21 then (if v_21 = 0 then (if (M_26.2 120 0) = (v_27.toInt64) then (ltv (x4 + (6 : Int32)) fun x4_31 => k_23 x4_31 M_26) else (none)) else (ltv (x4 + (6 : Int32)) fun x4_30 => k_23 x4_30 M_26)) else (none)))
set_option maxHeartbeats 4000000 in
set_option maxRecDepth 100000 in
theorem gb_L_law_293 {b xL n cl sl : Nat} {xs : Nat → Int32} {k_23 : Int32 → Mm → Option Unit} {x4 : Int32} {M : Mm} (hE : Has shA (eH E)) (hl : l.stackTraces = false) (C : Cx RL cL_law 8 p room_1 s m #[Value.ref b] meth c E) (hr : meth.sig.returnType = ret) (hes : eS E = s.heap.size) (hX : va_X b xL xs s s.heap) (hbl : b < s.heap.size) (hbA : ¬ eF E b) (hb : cl + (n + 1) ≤ 1000) (hsb : sl + 6 * (n + 1) ≤ 10000) (hk : ∀ (x4 : Int32) (M : Mm) (cl sl : Nat), cl + n ≤ 1000 → sl + 6 * n ≤ 10000 → k_23 x4 M = some () → G p l e room_1 s m #[Value.ref b] below meth c E 8 cl sl (lw_Z below #[Value.ref b] s) 23 [(0, .ref b), (1, .ref (eA E 0)), (2, .ref (eA E 67)), (3, .ref (eA E 120)), (4, .int x4)] [] M) (h : bb_L_law_293 xL xs k_23 x4 M = some ()) : G p l e room_1 s m #[Value.ref b] below meth c E 8 cl sl (lw_Z below #[Value.ref b] s) 293 [(0, .ref b), (1, .ref (eA E 0)), (2, .ref (eA E 67)), (3, .ref (eA E 120)), (4, .int x4)] [] M := by
  unfold bb_L_law_293 at h
  refine G.aload_n C 1 dL_law_293 rfl rfl ?_
  refine G.aload_n C 0 dL_law_294 rfl rfl ?_
  refine G.iload C 4 dL_law_295 rfl ?_
  refine G.iconst (v := (1 : Int32)) C dL_law_297 (by decide) ?_
  refine G.iadd C dL_law_298 ?_
  obtain ⟨hg_20, h⟩ := gd_ex h
  refine G.sld C hX hbl hbA hg_20 dL_law_299 ?_
  refine G.aload_n C 3 dL_law_300 rfl rfl ?_
  obtain ⟨v_21, M_22, hv_23, h⟩ := bd2_ex h
  refine G.callSB (rest := []) C (sw_L_sheet_0_120 hl hE hv_23) ⟨tg_633, tg_89, ok_L_sheet, Nat.le_of_ble_eq_true rfl, Nat.le_of_ble_eq_true rfl⟩ tg_631 tg_632 rfl (Nat.le_of_ble_eq_true rfl) dL_law_301 ⟨show cl + 1 ≤ 600128 by omega, show sl + 6 ≤ 7301098 by omega⟩ ?_
  refine G.istore (L' := [(5, .int v_21), (0, .ref b), (1, .ref (eA E 0)), (2, .ref (eA E 67)), (3, .ref (eA E 120)), (4, .int x4)]) C dL_law_304 rfl (by decide) rfl ?_
  refine G.aload_n C 3 dL_law_306 rfl rfl ?_
  refine G.aload_n C 1 dL_law_307 rfl rfl ?_
  refine G.iload C 5 dL_law_308 rfl ?_
  refine G.iconst (v := (1 : Int32)) C dL_law_310 (by decide) ?_
  refine G.iadd C dL_law_311 ?_
  obtain ⟨hg_24, h⟩ := gd_ex h
  refine G.sld C hX hbl hbA hg_24 dL_law_312 ?_
  obtain ⟨v_27, M_26, hv_25, h⟩ := bd2_ex h
  refine G.callV (rest := []) C (s_X10_sheet_67 (hasM hE)  hv_25) ⟨tg_1593, tg_103, ok_X10_sheet, Nat.le_of_ble_eq_true rfl, Nat.le_of_ble_eq_true rfl⟩ tg_1590 tg_1591 tg_1592 (sm_67 (hasM hE)) rfl rfl (Nat.le_of_ble_eq_true rfl) dL_law_313 ⟨by show _ ≤ 600128; omega, by show _ ≤ 7301098; omega⟩ ?_
  refine G.istore (L' := [(6, .int v_27), (5, .int v_21), (0, .ref b), (1, .ref (eA E 0)), (2, .ref (eA E 67)), (3, .ref (eA E 120)), (4, .int x4)]) C dL_law_316 rfl (by decide) rfl ?_
  refine G.aload_n C 4 dL_law_318 rfl rfl ?_
  obtain ⟨v_29, hv_28, h⟩ := bd_ex h
  refine G.callV (rest := []) C (s_X10_thrown_67 (hasM hE)  hv_28) ⟨tg_1585, tg_103, ok_X10_thrown, Nat.le_of_ble_eq_true rfl, Nat.le_of_ble_eq_true rfl⟩ tg_1582 tg_1583 tg_1584 (sm_67 (hasM hE)) rfl rfl (Nat.le_of_ble_eq_true rfl) dL_law_319 ⟨by show _ ≤ 600128; omega, by show _ ≤ 7301098; omega⟩ ?_
  refine G.iload C 1 dL_law_322 rfl ?_
  refine G.icmp_eq (tgt := 329) C dL_law_324 (by decide) (fun hc => ?_) (fun hc => ?_)
  · have h := it_t h hc
    refine G.iload C 1 dL_law_329 rfl ?_
    refine G.if_ne (tgt := 346) C dL_law_331 (by decide) (fun hc => ?_) (fun hc => ?_)
    · have h := it_f h hc
      refine G.goto (tgt := 2798) C dL_law_346 (by decide) ?_
      obtain ⟨x4_30, ex4_30, h⟩ := ltv_ex h
      refine G.iinc (L' := [(4, .int x4_30), (6, .int v_27), (5, .int v_21), (0, .ref b), (1, .ref (eA E 0)), (2, .ref (eA E 67)), (3, .ref (eA E 120))]) C 6 dL_law_2798 rfl (ex4_30.trans rfl) (by decide) rfl ?_
      refine G.goto (tgt := 23) C dL_law_2801 (by decide) ?_
      exact G.sub [3, 4, 5, 6, 0] rfl (hk _ _ _ _ (by omega) (by omega) h)
    · have h := it_t h hc
      refine G.aload_n C 5 dL_law_334 rfl rfl ?_
      refine G.iconst (v := (0 : Int32)) C dL_law_335 (by decide) ?_
      refine G.aJ (j := 0) C (sa_120 hE) (by decide) (by decide) dL_law_336 ?_
      refine G.iload C 0 dL_law_337 rfl ?_
      refine G.i2l (v := v_27.toInt64) C dL_law_339 rfl ?_
      refine G.lcmp C dL_law_340 (G.if_eq (tgt := 346) C dL_law_341 (by decide) (fun hc => ?_) (fun hc => ?_))
      · have h := it_t h (lgc_eq.mp hc)
        refine G.goto (tgt := 2798) C dL_law_346 (by decide) ?_
        obtain ⟨x4_31, ex4_31, h⟩ := ltv_ex h
        refine G.iinc (L' := [(4, .int x4_31), (6, .int v_27), (5, .int v_21), (0, .ref b), (1, .ref (eA E 0)), (2, .ref (eA E 67)), (3, .ref (eA E 120))]) C 6 dL_law_2798 rfl (ex4_31.trans rfl) (by decide) rfl ?_
        refine G.goto (tgt := 23) C dL_law_2801 (by decide) ?_
        exact G.sub [3, 4, 5, 6, 0] rfl (hk _ _ _ _ (by omega) (by omega) h)
      · have h := it_f h ((not_congr lgc_eq).mp hc)
        refine G.iconst (v := (0 : Int32)) C dL_law_344 (by decide) ?_
        cases h
  · have h := it_f h hc
    refine G.iconst (v := (0 : Int32)) C dL_law_327 (by decide) ?_
    cases h
def bb_L_law_349 (xL : Nat) (xs : Nat → Int32) (k_23 : Int32 → Mm → Option Unit) (x4 : Int32) (M : Mm) : Option Unit := bd (f_X9_fault_0 M) fun v_33 => bd2 (f_X10_fault_67 M) fun v_36 M_35 => if v_33 = v_36 then (ltv (x4 + (6 : Int32)) fun x4_37 => k_23 x4_37 M_35) else (none)
set_option maxHeartbeats 4000000 in
set_option maxRecDepth 100000 in
theorem gb_L_law_349 {b xL n cl sl : Nat} {xs : Nat → Int32} {k_23 : Int32 → Mm → Option Unit} {x4 : Int32} {M : Mm} (hE : Has shA (eH E)) (hl : l.stackTraces = false) (C : Cx RL cL_law 8 p room_1 s m #[Value.ref b] meth c E) (hr : meth.sig.returnType = ret) (hes : eS E = s.heap.size) (hX : va_X b xL xs s s.heap) (hbl : b < s.heap.size) (hbA : ¬ eF E b) (hb : cl + (n + 1) ≤ 1000) (hsb : sl + 6 * (n + 1) ≤ 10000) (hk : ∀ (x4 : Int32) (M : Mm) (cl sl : Nat), cl + n ≤ 1000 → sl + 6 * n ≤ 10000 → k_23 x4 M = some () → G p l e room_1 s m #[Value.ref b] below meth c E 8 cl sl (lw_Z below #[Value.ref b] s) 23 [(0, .ref b), (1, .ref (eA E 0)), (2, .ref (eA E 67)), (3, .ref (eA E 120)), (4, .int x4)] [] M) (h : bb_L_law_349 xL xs k_23 x4 M = some ()) : G p l e room_1 s m #[Value.ref b] below meth c E 8 cl sl (lw_Z below #[Value.ref b] s) 349 [(0, .ref b), (1, .ref (eA E 0)), (2, .ref (eA E 67)), (3, .ref (eA E 120)), (4, .int x4)] [] M := by
  unfold bb_L_law_349 at h
  refine G.aload_n C 1 dL_law_349 rfl rfl ?_
  obtain ⟨v_33, hv_32, h⟩ := bd_ex h
  refine G.callV (rest := []) C (s_X9_fault_0 (hasC hE)  hv_32) ⟨tg_524, tg_90, ok_X9_fault, Nat.le_of_ble_eq_true rfl, Nat.le_of_ble_eq_true rfl⟩ tg_521 tg_522 tg_523 (sc_0 (hasC hE)) rfl rfl (Nat.le_of_ble_eq_true rfl) dL_law_350 ⟨by show _ ≤ 600128; omega, by show _ ≤ 7301098; omega⟩ ?_
  refine G.aload_n C 2 dL_law_353 rfl rfl ?_
  obtain ⟨v_36, M_35, hv_34, h⟩ := bd2_ex h
  refine G.callV (rest := [.int v_33]) C (s_X10_fault_67 (hasM hE)  hv_34) ⟨tg_1687, tg_103, ok_X10_fault, Nat.le_of_ble_eq_true rfl, Nat.le_of_ble_eq_true rfl⟩ tg_1684 tg_1685 tg_1686 (sm_67 (hasM hE)) rfl rfl (Nat.le_of_ble_eq_true rfl) dL_law_354 ⟨by show _ ≤ 600128; omega, by show _ ≤ 7301098; omega⟩ ?_
  refine G.icmp_eq (tgt := 2798) C dL_law_357 (by decide) (fun hc => ?_) (fun hc => ?_)
  · have h := it_t h hc
    obtain ⟨x4_37, ex4_37, h⟩ := ltv_ex h
    refine G.iinc (L' := [(4, .int x4_37), (0, .ref b), (1, .ref (eA E 0)), (2, .ref (eA E 67)), (3, .ref (eA E 120))]) C 4 dL_law_2798 rfl (ex4_37.trans rfl) (by decide) rfl ?_
    refine G.goto (tgt := 23) C dL_law_2801 (by decide) ?_
    exact G.sub [1, 2, 3, 4, 0] rfl (hk _ _ _ _ (by omega) (by omega) h)
  · have h := it_f h hc
    refine G.iconst (v := (0 : Int32)) C dL_law_360 (by decide) ?_
    cases h
def bb_L_law_362 (xL : Nat) (xs : Nat → Int32) (k_23 : Int32 → Mm → Option Unit) (x4 : Int32) (M : Mm) : Option Unit := gd (inb (x4 + (1 : Int32)) xL) (bd2 (fw_L_told_0_120 (xs (ix (x4 + (1 : Int32)))) M) fun v_39 M_40 => gd (inb (x4 + (1 : Int32)) xL) (bd2 (f_X10_told_67 (xs (ix (x4 + (1 : Int32)))) M_40) fun v_45 M_44 => bd (f_X10_thrown_67 M_44) fun v_47 => if v_47 = v_39 then (if v_39 = 0 then (if (M_44.2 120 0) = (v_45.toInt64) then (ltv (x4 + (6 : Int32)) fun x4_49 => k_23 x4_49 M_44) else (none)) else (ltv (x4 + (6 : Int32)) fun x4_48 => k_23 x4_48 M_44)) else (none)))
set_option maxHeartbeats 4000000 in
set_option maxRecDepth 100000 in
theorem gb_L_law_362 {b xL n cl sl : Nat} {xs : Nat → Int32} {k_23 : Int32 → Mm → Option Unit} {x4 : Int32} {M : Mm} (hE : Has shA (eH E)) (hl : l.stackTraces = false) (C : Cx RL cL_law 8 p room_1 s m #[Value.ref b] meth c E) (hr : meth.sig.returnType = ret) (hes : eS E = s.heap.size) (hX : va_X b xL xs s s.heap) (hbl : b < s.heap.size) (hbA : ¬ eF E b) (hb : cl + (n + 1) ≤ 1000) (hsb : sl + 6 * (n + 1) ≤ 10000) (hk : ∀ (x4 : Int32) (M : Mm) (cl sl : Nat), cl + n ≤ 1000 → sl + 6 * n ≤ 10000 → k_23 x4 M = some () → G p l e room_1 s m #[Value.ref b] below meth c E 8 cl sl (lw_Z below #[Value.ref b] s) 23 [(0, .ref b), (1, .ref (eA E 0)), (2, .ref (eA E 67)), (3, .ref (eA E 120)), (4, .int x4)] [] M) (h : bb_L_law_362 xL xs k_23 x4 M = some ()) : G p l e room_1 s m #[Value.ref b] below meth c E 8 cl sl (lw_Z below #[Value.ref b] s) 362 [(0, .ref b), (1, .ref (eA E 0)), (2, .ref (eA E 67)), (3, .ref (eA E 120)), (4, .int x4)] [] M := by
  unfold bb_L_law_362 at h
  refine G.aload_n C 1 dL_law_362 rfl rfl ?_
  refine G.aload_n C 0 dL_law_363 rfl rfl ?_
  refine G.iload C 4 dL_law_364 rfl ?_
  refine G.iconst (v := (1 : Int32)) C dL_law_366 (by decide) ?_
  refine G.iadd C dL_law_367 ?_
  obtain ⟨hg_38, h⟩ := gd_ex h
  refine G.sld C hX hbl hbA hg_38 dL_law_368 ?_
  refine G.aload_n C 3 dL_law_369 rfl rfl ?_
  obtain ⟨v_39, M_40, hv_41, h⟩ := bd2_ex h
  refine G.callSB (rest := []) C (sw_L_told_0_120 hl hE hv_41) ⟨tg_878, tg_89, ok_L_told, Nat.le_of_ble_eq_true rfl, Nat.le_of_ble_eq_true rfl⟩ tg_876 tg_877 rfl (Nat.le_of_ble_eq_true rfl) dL_law_370 ⟨show cl + 1 ≤ 600128 by omega, show sl + 6 ≤ 7301098 by omega⟩ ?_
  refine G.istore (L' := [(5, .int v_39), (0, .ref b), (1, .ref (eA E 0)), (2, .ref (eA E 67)), (3, .ref (eA E 120)), (4, .int x4)]) C dL_law_373 rfl (by decide) rfl ?_
  refine G.aload_n C 3 dL_law_375 rfl rfl ?_
  refine G.aload_n C 1 dL_law_376 rfl rfl ?_
  refine G.iload C 5 dL_law_377 rfl ?_
  refine G.iconst (v := (1 : Int32)) C dL_law_379 (by decide) ?_
  refine G.iadd C dL_law_380 ?_
  obtain ⟨hg_42, h⟩ := gd_ex h
  refine G.sld C hX hbl hbA hg_42 dL_law_381 ?_
  obtain ⟨v_45, M_44, hv_43, h⟩ := bd2_ex h
  refine G.callV (rest := []) C (s_X10_told_67 (hasM hE)  hv_43) ⟨tg_1691, tg_103, ok_X10_told, Nat.le_of_ble_eq_true rfl, Nat.le_of_ble_eq_true rfl⟩ tg_1688 tg_1689 tg_1690 (sm_67 (hasM hE)) rfl rfl (Nat.le_of_ble_eq_true rfl) dL_law_382 ⟨by show _ ≤ 600128; omega, by show _ ≤ 7301098; omega⟩ ?_
  refine G.istore (L' := [(6, .int v_45), (5, .int v_39), (0, .ref b), (1, .ref (eA E 0)), (2, .ref (eA E 67)), (3, .ref (eA E 120)), (4, .int x4)]) C dL_law_385 rfl (by decide) rfl ?_
  refine G.aload_n C 4 dL_law_387 rfl rfl ?_
  obtain ⟨v_47, hv_46, h⟩ := bd_ex h
  refine G.callV (rest := []) C (s_X10_thrown_67 (hasM hE)  hv_46) ⟨tg_1585, tg_103, ok_X10_thrown, Nat.le_of_ble_eq_true rfl, Nat.le_of_ble_eq_true rfl⟩ tg_1582 tg_1583 tg_1584 (sm_67 (hasM hE)) rfl rfl (Nat.le_of_ble_eq_true rfl) dL_law_388 ⟨by show _ ≤ 600128; omega, by show _ ≤ 7301098; omega⟩ ?_
  refine G.iload C 1 dL_law_391 rfl ?_
  refine G.icmp_eq (tgt := 398) C dL_law_393 (by decide) (fun hc => ?_) (fun hc => ?_)
  · have h := it_t h hc
    refine G.iload C 1 dL_law_398 rfl ?_
    refine G.if_ne (tgt := 415) C dL_law_400 (by decide) (fun hc => ?_) (fun hc => ?_)
    · have h := it_f h hc
      refine G.goto (tgt := 2798) C dL_law_415 (by decide) ?_
      obtain ⟨x4_48, ex4_48, h⟩ := ltv_ex h
      refine G.iinc (L' := [(4, .int x4_48), (6, .int v_45), (5, .int v_39), (0, .ref b), (1, .ref (eA E 0)), (2, .ref (eA E 67)), (3, .ref (eA E 120))]) C 6 dL_law_2798 rfl (ex4_48.trans rfl) (by decide) rfl ?_
      refine G.goto (tgt := 23) C dL_law_2801 (by decide) ?_
      exact G.sub [3, 4, 5, 6, 0] rfl (hk _ _ _ _ (by omega) (by omega) h)
    · have h := it_t h hc
      refine G.aload_n C 5 dL_law_403 rfl rfl ?_
      refine G.iconst (v := (0 : Int32)) C dL_law_404 (by decide) ?_
      refine G.aJ (j := 0) C (sa_120 hE) (by decide) (by decide) dL_law_405 ?_
      refine G.iload C 0 dL_law_406 rfl ?_
      refine G.i2l (v := v_45.toInt64) C dL_law_408 rfl ?_
      refine G.lcmp C dL_law_409 (G.if_eq (tgt := 415) C dL_law_410 (by decide) (fun hc => ?_) (fun hc => ?_))
      · have h := it_t h (lgc_eq.mp hc)
        refine G.goto (tgt := 2798) C dL_law_415 (by decide) ?_
        obtain ⟨x4_49, ex4_49, h⟩ := ltv_ex h
        refine G.iinc (L' := [(4, .int x4_49), (6, .int v_45), (5, .int v_39), (0, .ref b), (1, .ref (eA E 0)), (2, .ref (eA E 67)), (3, .ref (eA E 120))]) C 6 dL_law_2798 rfl (ex4_49.trans rfl) (by decide) rfl ?_
        refine G.goto (tgt := 23) C dL_law_2801 (by decide) ?_
        exact G.sub [3, 4, 5, 6, 0] rfl (hk _ _ _ _ (by omega) (by omega) h)
      · have h := it_f h ((not_congr lgc_eq).mp hc)
        refine G.iconst (v := (0 : Int32)) C dL_law_413 (by decide) ?_
        cases h
  · have h := it_f h hc
    refine G.iconst (v := (0 : Int32)) C dL_law_396 (by decide) ?_
    cases h
def bb_L_law_418 (xL : Nat) (xs : Nat → Int32) (k_23 : Int32 → Mm → Option Unit) (x4 : Int32) (M : Mm) : Option Unit := gd (inb (x4 + (1 : Int32)) xL) (gd (inb (x4 + (2 : Int32)) xL) (bd2 (fw_L_squares_0_120 (xs (ix (x4 + (1 : Int32)))) (xs (ix (x4 + (2 : Int32)))) M) fun v_52 M_53 => gd (inb (x4 + (1 : Int32)) xL) (gd (inb (x4 + (2 : Int32)) xL) (bd2 (f_X10_squares_67 (xs (ix (x4 + (1 : Int32)))) (xs (ix (x4 + (2 : Int32)))) M_53) fun v_59 M_58 => bd (f_X10_thrown_67 M_58) fun v_61 => if v_61 = v_52 then (if v_52 = 0 then (if (M_58.2 120 0) = v_59 then (ltv (x4 + (6 : Int32)) fun x4_63 => k_23 x4_63 M_58) else (none)) else (ltv (x4 + (6 : Int32)) fun x4_62 => k_23 x4_62 M_58)) else (none)))))
set_option maxHeartbeats 4000000 in
set_option maxRecDepth 100000 in
theorem gb_L_law_418 {b xL n cl sl : Nat} {xs : Nat → Int32} {k_23 : Int32 → Mm → Option Unit} {x4 : Int32} {M : Mm} (hE : Has shA (eH E)) (hl : l.stackTraces = false) (C : Cx RL cL_law 8 p room_1 s m #[Value.ref b] meth c E) (hr : meth.sig.returnType = ret) (hes : eS E = s.heap.size) (hX : va_X b xL xs s s.heap) (hbl : b < s.heap.size) (hbA : ¬ eF E b) (hb : cl + (n + 1) ≤ 1000) (hsb : sl + 6 * (n + 1) ≤ 10000) (hk : ∀ (x4 : Int32) (M : Mm) (cl sl : Nat), cl + n ≤ 1000 → sl + 6 * n ≤ 10000 → k_23 x4 M = some () → G p l e room_1 s m #[Value.ref b] below meth c E 8 cl sl (lw_Z below #[Value.ref b] s) 23 [(0, .ref b), (1, .ref (eA E 0)), (2, .ref (eA E 67)), (3, .ref (eA E 120)), (4, .int x4)] [] M) (h : bb_L_law_418 xL xs k_23 x4 M = some ()) : G p l e room_1 s m #[Value.ref b] below meth c E 8 cl sl (lw_Z below #[Value.ref b] s) 418 [(0, .ref b), (1, .ref (eA E 0)), (2, .ref (eA E 67)), (3, .ref (eA E 120)), (4, .int x4)] [] M := by
  unfold bb_L_law_418 at h
  refine G.aload_n C 1 dL_law_418 rfl rfl ?_
  refine G.aload_n C 0 dL_law_419 rfl rfl ?_
  refine G.iload C 4 dL_law_420 rfl ?_
  refine G.iconst (v := (1 : Int32)) C dL_law_422 (by decide) ?_
  refine G.iadd C dL_law_423 ?_
  obtain ⟨hg_50, h⟩ := gd_ex h
  refine G.sld C hX hbl hbA hg_50 dL_law_424 ?_
  refine G.aload_n C 0 dL_law_425 rfl rfl ?_
  refine G.iload C 4 dL_law_426 rfl ?_
  refine G.iconst (v := (2 : Int32)) C dL_law_428 (by decide) ?_
  refine G.iadd C dL_law_429 ?_
  obtain ⟨hg_51, h⟩ := gd_ex h
  refine G.sld C hX hbl hbA hg_51 dL_law_430 ?_
  refine G.aload_n C 3 dL_law_431 rfl rfl ?_
  obtain ⟨v_52, M_53, hv_54, h⟩ := bd2_ex h
  refine G.callSB (rest := []) C (sw_L_squares_0_120 hl hE hv_54) ⟨tg_885, tg_89, ok_L_squares, Nat.le_of_ble_eq_true rfl, Nat.le_of_ble_eq_true rfl⟩ tg_883 tg_884 rfl (Nat.le_of_ble_eq_true rfl) dL_law_432 ⟨show cl + 1 ≤ 600128 by omega, show sl + 6 ≤ 7301098 by omega⟩ ?_
  refine G.istore (L' := [(5, .int v_52), (0, .ref b), (1, .ref (eA E 0)), (2, .ref (eA E 67)), (3, .ref (eA E 120)), (4, .int x4)]) C dL_law_435 rfl (by decide) rfl ?_
  refine G.aload_n C 3 dL_law_437 rfl rfl ?_
  refine G.aload_n C 1 dL_law_438 rfl rfl ?_
  refine G.iload C 5 dL_law_439 rfl ?_
  refine G.iconst (v := (1 : Int32)) C dL_law_441 (by decide) ?_
  refine G.iadd C dL_law_442 ?_
  obtain ⟨hg_55, h⟩ := gd_ex h
  refine G.sld C hX hbl hbA hg_55 dL_law_443 ?_
  refine G.aload_n C 1 dL_law_444 rfl rfl ?_
  refine G.iload C 5 dL_law_445 rfl ?_
  refine G.iconst (v := (2 : Int32)) C dL_law_447 (by decide) ?_
  refine G.iadd C dL_law_448 ?_
  obtain ⟨hg_56, h⟩ := gd_ex h
  refine G.sld C hX hbl hbA hg_56 dL_law_449 ?_
  obtain ⟨v_59, M_58, hv_57, h⟩ := bd2_ex h
  refine G.callV (rest := []) C (s_X10_squares_67 (hasM hE)  hv_57) ⟨tg_1695, tg_103, ok_X10_squares, Nat.le_of_ble_eq_true rfl, Nat.le_of_ble_eq_true rfl⟩ tg_1692 tg_1693 tg_1694 (sm_67 (hasM hE)) rfl rfl (Nat.le_of_ble_eq_true rfl) dL_law_450 ⟨by show _ ≤ 600128; omega, by show _ ≤ 7301098; omega⟩ ?_
  refine G.lstore (L' := [(6, .long v_59), (5, .int v_52), (0, .ref b), (1, .ref (eA E 0)), (2, .ref (eA E 67)), (3, .ref (eA E 120)), (4, .int x4)]) C dL_law_453 rfl (by decide) rfl ?_
  refine G.aload_n C 4 dL_law_455 rfl rfl ?_
  obtain ⟨v_61, hv_60, h⟩ := bd_ex h
  refine G.callV (rest := []) C (s_X10_thrown_67 (hasM hE)  hv_60) ⟨tg_1585, tg_103, ok_X10_thrown, Nat.le_of_ble_eq_true rfl, Nat.le_of_ble_eq_true rfl⟩ tg_1582 tg_1583 tg_1584 (sm_67 (hasM hE)) rfl rfl (Nat.le_of_ble_eq_true rfl) dL_law_456 ⟨by show _ ≤ 600128; omega, by show _ ≤ 7301098; omega⟩ ?_
  refine G.iload C 1 dL_law_459 rfl ?_
  refine G.icmp_eq (tgt := 466) C dL_law_461 (by decide) (fun hc => ?_) (fun hc => ?_)
  · have h := it_t h hc
    refine G.iload C 1 dL_law_466 rfl ?_
    refine G.if_ne (tgt := 482) C dL_law_468 (by decide) (fun hc => ?_) (fun hc => ?_)
    · have h := it_f h hc
      refine G.goto (tgt := 2798) C dL_law_482 (by decide) ?_
      obtain ⟨x4_62, ex4_62, h⟩ := ltv_ex h
      refine G.iinc (L' := [(4, .int x4_62), (6, .long v_59), (5, .int v_52), (0, .ref b), (1, .ref (eA E 0)), (2, .ref (eA E 67)), (3, .ref (eA E 120))]) C 6 dL_law_2798 rfl (ex4_62.trans rfl) (by decide) rfl ?_
      refine G.goto (tgt := 23) C dL_law_2801 (by decide) ?_
      exact G.sub [3, 4, 5, 6, 0] rfl (hk _ _ _ _ (by omega) (by omega) h)
    · have h := it_t h hc
      refine G.aload_n C 5 dL_law_471 rfl rfl ?_
      refine G.iconst (v := (0 : Int32)) C dL_law_472 (by decide) ?_
      refine G.aJ (j := 0) C (sa_120 hE) (by decide) (by decide) dL_law_473 ?_
      refine G.lload C 0 dL_law_474 rfl ?_
      refine G.lcmp C dL_law_476 (G.if_eq (tgt := 482) C dL_law_477 (by decide) (fun hc => ?_) (fun hc => ?_))
      · have h := it_t h (lgc_eq.mp hc)
        refine G.goto (tgt := 2798) C dL_law_482 (by decide) ?_
        obtain ⟨x4_63, ex4_63, h⟩ := ltv_ex h
        refine G.iinc (L' := [(4, .int x4_63), (6, .long v_59), (5, .int v_52), (0, .ref b), (1, .ref (eA E 0)), (2, .ref (eA E 67)), (3, .ref (eA E 120))]) C 6 dL_law_2798 rfl (ex4_63.trans rfl) (by decide) rfl ?_
        refine G.goto (tgt := 23) C dL_law_2801 (by decide) ?_
        exact G.sub [3, 4, 5, 6, 0] rfl (hk _ _ _ _ (by omega) (by omega) h)
      · have h := it_f h ((not_congr lgc_eq).mp hc)
        refine G.iconst (v := (0 : Int32)) C dL_law_480 (by decide) ?_
        cases h
  · have h := it_f h hc
    refine G.iconst (v := (0 : Int32)) C dL_law_464 (by decide) ?_
    cases h
def bb_L_law_485 (xL : Nat) (xs : Nat → Int32) (k_23 : Int32 → Mm → Option Unit) (x4 : Int32) (M : Mm) : Option Unit := gd (inb (x4 + (1 : Int32)) xL) (gd (inb (x4 + (2 : Int32)) xL) (bd2 (fw_L_letter_0_120 (xs (ix (x4 + (1 : Int32)))) (xs (ix (x4 + (2 : Int32)))) M) fun v_66 M_67 => gd (inb (x4 + (1 : Int32)) xL) (gd (inb (x4 + (2 : Int32)) xL) (bd2 (f_X10_letter_67 (xs (ix (x4 + (1 : Int32)))) (xs (ix (x4 + (2 : Int32)))) M_67) fun v_73 M_72 => bd (f_X10_thrown_67 M_72) fun v_75 => if v_75 = v_66 then (if v_66 = 0 then (if (M_72.2 120 0) = (v_73.toInt64) then (ltv (x4 + (6 : Int32)) fun x4_77 => k_23 x4_77 M_72) else (none)) else (ltv (x4 + (6 : Int32)) fun x4_76 => k_23 x4_76 M_72)) else (none)))))
set_option maxHeartbeats 4000000 in
set_option maxRecDepth 100000 in
theorem gb_L_law_485 {b xL n cl sl : Nat} {xs : Nat → Int32} {k_23 : Int32 → Mm → Option Unit} {x4 : Int32} {M : Mm} (hE : Has shA (eH E)) (hl : l.stackTraces = false) (C : Cx RL cL_law 8 p room_1 s m #[Value.ref b] meth c E) (hr : meth.sig.returnType = ret) (hes : eS E = s.heap.size) (hX : va_X b xL xs s s.heap) (hbl : b < s.heap.size) (hbA : ¬ eF E b) (hb : cl + (n + 1) ≤ 1000) (hsb : sl + 6 * (n + 1) ≤ 10000) (hk : ∀ (x4 : Int32) (M : Mm) (cl sl : Nat), cl + n ≤ 1000 → sl + 6 * n ≤ 10000 → k_23 x4 M = some () → G p l e room_1 s m #[Value.ref b] below meth c E 8 cl sl (lw_Z below #[Value.ref b] s) 23 [(0, .ref b), (1, .ref (eA E 0)), (2, .ref (eA E 67)), (3, .ref (eA E 120)), (4, .int x4)] [] M) (h : bb_L_law_485 xL xs k_23 x4 M = some ()) : G p l e room_1 s m #[Value.ref b] below meth c E 8 cl sl (lw_Z below #[Value.ref b] s) 485 [(0, .ref b), (1, .ref (eA E 0)), (2, .ref (eA E 67)), (3, .ref (eA E 120)), (4, .int x4)] [] M := by
  unfold bb_L_law_485 at h
  refine G.aload_n C 1 dL_law_485 rfl rfl ?_
  refine G.aload_n C 0 dL_law_486 rfl rfl ?_
  refine G.iload C 4 dL_law_487 rfl ?_
  refine G.iconst (v := (1 : Int32)) C dL_law_489 (by decide) ?_
  refine G.iadd C dL_law_490 ?_
  obtain ⟨hg_64, h⟩ := gd_ex h
  refine G.sld C hX hbl hbA hg_64 dL_law_491 ?_
  refine G.aload_n C 0 dL_law_492 rfl rfl ?_
  refine G.iload C 4 dL_law_493 rfl ?_
  refine G.iconst (v := (2 : Int32)) C dL_law_495 (by decide) ?_
  refine G.iadd C dL_law_496 ?_
  obtain ⟨hg_65, h⟩ := gd_ex h
  refine G.sld C hX hbl hbA hg_65 dL_law_497 ?_
  refine G.aload_n C 3 dL_law_498 rfl rfl ?_
  obtain ⟨v_66, M_67, hv_68, h⟩ := bd2_ex h
  refine G.callSB (rest := []) C (sw_L_letter_0_120 hl hE hv_68) ⟨tg_914, tg_89, ok_L_letter, Nat.le_of_ble_eq_true rfl, Nat.le_of_ble_eq_true rfl⟩ tg_912 tg_913 rfl (Nat.le_of_ble_eq_true rfl) dL_law_499 ⟨show cl + 1 ≤ 600128 by omega, show sl + 6 ≤ 7301098 by omega⟩ ?_
  refine G.istore (L' := [(5, .int v_66), (0, .ref b), (1, .ref (eA E 0)), (2, .ref (eA E 67)), (3, .ref (eA E 120)), (4, .int x4)]) C dL_law_502 rfl (by decide) rfl ?_
  refine G.aload_n C 3 dL_law_504 rfl rfl ?_
  refine G.aload_n C 1 dL_law_505 rfl rfl ?_
  refine G.iload C 5 dL_law_506 rfl ?_
  refine G.iconst (v := (1 : Int32)) C dL_law_508 (by decide) ?_
  refine G.iadd C dL_law_509 ?_
  obtain ⟨hg_69, h⟩ := gd_ex h
  refine G.sld C hX hbl hbA hg_69 dL_law_510 ?_
  refine G.aload_n C 1 dL_law_511 rfl rfl ?_
  refine G.iload C 5 dL_law_512 rfl ?_
  refine G.iconst (v := (2 : Int32)) C dL_law_514 (by decide) ?_
  refine G.iadd C dL_law_515 ?_
  obtain ⟨hg_70, h⟩ := gd_ex h
  refine G.sld C hX hbl hbA hg_70 dL_law_516 ?_
  obtain ⟨v_73, M_72, hv_71, h⟩ := bd2_ex h
  refine G.callV (rest := []) C (s_X10_letter_67 (hasM hE)  hv_71) ⟨tg_1703, tg_103, ok_X10_letter, Nat.le_of_ble_eq_true rfl, Nat.le_of_ble_eq_true rfl⟩ tg_1700 tg_1701 tg_1702 (sm_67 (hasM hE)) rfl rfl (Nat.le_of_ble_eq_true rfl) dL_law_517 ⟨by show _ ≤ 600128; omega, by show _ ≤ 7301098; omega⟩ ?_
  refine G.istore (L' := [(6, .int v_73), (5, .int v_66), (0, .ref b), (1, .ref (eA E 0)), (2, .ref (eA E 67)), (3, .ref (eA E 120)), (4, .int x4)]) C dL_law_520 rfl (by decide) rfl ?_
  refine G.aload_n C 4 dL_law_522 rfl rfl ?_
  obtain ⟨v_75, hv_74, h⟩ := bd_ex h
  refine G.callV (rest := []) C (s_X10_thrown_67 (hasM hE)  hv_74) ⟨tg_1585, tg_103, ok_X10_thrown, Nat.le_of_ble_eq_true rfl, Nat.le_of_ble_eq_true rfl⟩ tg_1582 tg_1583 tg_1584 (sm_67 (hasM hE)) rfl rfl (Nat.le_of_ble_eq_true rfl) dL_law_523 ⟨by show _ ≤ 600128; omega, by show _ ≤ 7301098; omega⟩ ?_
  refine G.iload C 1 dL_law_526 rfl ?_
  refine G.icmp_eq (tgt := 533) C dL_law_528 (by decide) (fun hc => ?_) (fun hc => ?_)
  · have h := it_t h hc
    refine G.iload C 1 dL_law_533 rfl ?_
    refine G.if_ne (tgt := 550) C dL_law_535 (by decide) (fun hc => ?_) (fun hc => ?_)
    · have h := it_f h hc
      refine G.goto (tgt := 2798) C dL_law_550 (by decide) ?_
      obtain ⟨x4_76, ex4_76, h⟩ := ltv_ex h
      refine G.iinc (L' := [(4, .int x4_76), (6, .int v_73), (5, .int v_66), (0, .ref b), (1, .ref (eA E 0)), (2, .ref (eA E 67)), (3, .ref (eA E 120))]) C 6 dL_law_2798 rfl (ex4_76.trans rfl) (by decide) rfl ?_
      refine G.goto (tgt := 23) C dL_law_2801 (by decide) ?_
      exact G.sub [3, 4, 5, 6, 0] rfl (hk _ _ _ _ (by omega) (by omega) h)
    · have h := it_t h hc
      refine G.aload_n C 5 dL_law_538 rfl rfl ?_
      refine G.iconst (v := (0 : Int32)) C dL_law_539 (by decide) ?_
      refine G.aJ (j := 0) C (sa_120 hE) (by decide) (by decide) dL_law_540 ?_
      refine G.iload C 0 dL_law_541 rfl ?_
      refine G.i2l (v := v_73.toInt64) C dL_law_543 rfl ?_
      refine G.lcmp C dL_law_544 (G.if_eq (tgt := 550) C dL_law_545 (by decide) (fun hc => ?_) (fun hc => ?_))
      · have h := it_t h (lgc_eq.mp hc)
        refine G.goto (tgt := 2798) C dL_law_550 (by decide) ?_
        obtain ⟨x4_77, ex4_77, h⟩ := ltv_ex h
        refine G.iinc (L' := [(4, .int x4_77), (6, .int v_73), (5, .int v_66), (0, .ref b), (1, .ref (eA E 0)), (2, .ref (eA E 67)), (3, .ref (eA E 120))]) C 6 dL_law_2798 rfl (ex4_77.trans rfl) (by decide) rfl ?_
        refine G.goto (tgt := 23) C dL_law_2801 (by decide) ?_
        exact G.sub [3, 4, 5, 6, 0] rfl (hk _ _ _ _ (by omega) (by omega) h)
      · have h := it_f h ((not_congr lgc_eq).mp hc)
        refine G.iconst (v := (0 : Int32)) C dL_law_548 (by decide) ?_
        cases h
  · have h := it_f h hc
    refine G.iconst (v := (0 : Int32)) C dL_law_531 (by decide) ?_
    cases h
def bb_L_law_553 (xL : Nat) (xs : Nat → Int32) (k_23 : Int32 → Mm → Option Unit) (x4 : Int32) (M : Mm) : Option Unit := gd (inb (x4 + (1 : Int32)) xL) (bd2 (fw_L_hollow_0_120 (xs (ix (x4 + (1 : Int32)))) M) fun v_79 M_80 => gd (inb (x4 + (1 : Int32)) xL) (bd2 (f_X10_hollow_67 (xs (ix (x4 + (1 : Int32)))) M_80) fun v_85 M_84 => bd (f_X10_thrown_67 M_84) fun v_87 => if v_87 = v_79 then (if v_79 = 0 then (if (M_84.2 120 0) = v_85 then (ltv (x4 + (6 : Int32)) fun x4_89 => k_23 x4_89 M_84) else (none)) else (ltv (x4 + (6 : Int32)) fun x4_88 => k_23 x4_88 M_84)) else (none)))
set_option maxHeartbeats 4000000 in
set_option maxRecDepth 100000 in
theorem gb_L_law_553 {b xL n cl sl : Nat} {xs : Nat → Int32} {k_23 : Int32 → Mm → Option Unit} {x4 : Int32} {M : Mm} (hE : Has shA (eH E)) (hl : l.stackTraces = false) (C : Cx RL cL_law 8 p room_1 s m #[Value.ref b] meth c E) (hr : meth.sig.returnType = ret) (hes : eS E = s.heap.size) (hX : va_X b xL xs s s.heap) (hbl : b < s.heap.size) (hbA : ¬ eF E b) (hb : cl + (n + 1) ≤ 1000) (hsb : sl + 6 * (n + 1) ≤ 10000) (hk : ∀ (x4 : Int32) (M : Mm) (cl sl : Nat), cl + n ≤ 1000 → sl + 6 * n ≤ 10000 → k_23 x4 M = some () → G p l e room_1 s m #[Value.ref b] below meth c E 8 cl sl (lw_Z below #[Value.ref b] s) 23 [(0, .ref b), (1, .ref (eA E 0)), (2, .ref (eA E 67)), (3, .ref (eA E 120)), (4, .int x4)] [] M) (h : bb_L_law_553 xL xs k_23 x4 M = some ()) : G p l e room_1 s m #[Value.ref b] below meth c E 8 cl sl (lw_Z below #[Value.ref b] s) 553 [(0, .ref b), (1, .ref (eA E 0)), (2, .ref (eA E 67)), (3, .ref (eA E 120)), (4, .int x4)] [] M := by
  unfold bb_L_law_553 at h
  refine G.aload_n C 1 dL_law_553 rfl rfl ?_
  refine G.aload_n C 0 dL_law_554 rfl rfl ?_
  refine G.iload C 4 dL_law_555 rfl ?_
  refine G.iconst (v := (1 : Int32)) C dL_law_557 (by decide) ?_
  refine G.iadd C dL_law_558 ?_
  obtain ⟨hg_78, h⟩ := gd_ex h
  refine G.sld C hX hbl hbA hg_78 dL_law_559 ?_
  refine G.aload_n C 3 dL_law_560 rfl rfl ?_
  obtain ⟨v_79, M_80, hv_81, h⟩ := bd2_ex h
  refine G.callSB (rest := []) C (sw_L_hollow_0_120 hl hE hv_81) ⟨tg_932, tg_89, ok_L_hollow, Nat.le_of_ble_eq_true rfl, Nat.le_of_ble_eq_true rfl⟩ tg_930 tg_931 rfl (Nat.le_of_ble_eq_true rfl) dL_law_561 ⟨show cl + 1 ≤ 600128 by omega, show sl + 6 ≤ 7301098 by omega⟩ ?_
  refine G.istore (L' := [(5, .int v_79), (0, .ref b), (1, .ref (eA E 0)), (2, .ref (eA E 67)), (3, .ref (eA E 120)), (4, .int x4)]) C dL_law_564 rfl (by decide) rfl ?_
  refine G.aload_n C 3 dL_law_566 rfl rfl ?_
  refine G.aload_n C 1 dL_law_567 rfl rfl ?_
  refine G.iload C 5 dL_law_568 rfl ?_
  refine G.iconst (v := (1 : Int32)) C dL_law_570 (by decide) ?_
  refine G.iadd C dL_law_571 ?_
  obtain ⟨hg_82, h⟩ := gd_ex h
  refine G.sld C hX hbl hbA hg_82 dL_law_572 ?_
  obtain ⟨v_85, M_84, hv_83, h⟩ := bd2_ex h
  refine G.callV (rest := []) C (s_X10_hollow_67 (hasM hE)  hv_83) ⟨tg_1718, tg_103, ok_X10_hollow, Nat.le_of_ble_eq_true rfl, Nat.le_of_ble_eq_true rfl⟩ tg_1715 tg_1716 tg_1717 (sm_67 (hasM hE)) rfl rfl (Nat.le_of_ble_eq_true rfl) dL_law_573 ⟨by show _ ≤ 600128; omega, by show _ ≤ 7301098; omega⟩ ?_
  refine G.lstore (L' := [(6, .long v_85), (5, .int v_79), (0, .ref b), (1, .ref (eA E 0)), (2, .ref (eA E 67)), (3, .ref (eA E 120)), (4, .int x4)]) C dL_law_576 rfl (by decide) rfl ?_
  refine G.aload_n C 4 dL_law_578 rfl rfl ?_
  obtain ⟨v_87, hv_86, h⟩ := bd_ex h
  refine G.callV (rest := []) C (s_X10_thrown_67 (hasM hE)  hv_86) ⟨tg_1585, tg_103, ok_X10_thrown, Nat.le_of_ble_eq_true rfl, Nat.le_of_ble_eq_true rfl⟩ tg_1582 tg_1583 tg_1584 (sm_67 (hasM hE)) rfl rfl (Nat.le_of_ble_eq_true rfl) dL_law_579 ⟨by show _ ≤ 600128; omega, by show _ ≤ 7301098; omega⟩ ?_
  refine G.iload C 1 dL_law_582 rfl ?_
  refine G.icmp_eq (tgt := 589) C dL_law_584 (by decide) (fun hc => ?_) (fun hc => ?_)
  · have h := it_t h hc
    refine G.iload C 1 dL_law_589 rfl ?_
    refine G.if_ne (tgt := 605) C dL_law_591 (by decide) (fun hc => ?_) (fun hc => ?_)
    · have h := it_f h hc
      refine G.goto (tgt := 2798) C dL_law_605 (by decide) ?_
      obtain ⟨x4_88, ex4_88, h⟩ := ltv_ex h
      refine G.iinc (L' := [(4, .int x4_88), (6, .long v_85), (5, .int v_79), (0, .ref b), (1, .ref (eA E 0)), (2, .ref (eA E 67)), (3, .ref (eA E 120))]) C 6 dL_law_2798 rfl (ex4_88.trans rfl) (by decide) rfl ?_
      refine G.goto (tgt := 23) C dL_law_2801 (by decide) ?_
      exact G.sub [3, 4, 5, 6, 0] rfl (hk _ _ _ _ (by omega) (by omega) h)
    · have h := it_t h hc
      refine G.aload_n C 5 dL_law_594 rfl rfl ?_
      refine G.iconst (v := (0 : Int32)) C dL_law_595 (by decide) ?_
      refine G.aJ (j := 0) C (sa_120 hE) (by decide) (by decide) dL_law_596 ?_
      refine G.lload C 0 dL_law_597 rfl ?_
      refine G.lcmp C dL_law_599 (G.if_eq (tgt := 605) C dL_law_600 (by decide) (fun hc => ?_) (fun hc => ?_))
      · have h := it_t h (lgc_eq.mp hc)
        refine G.goto (tgt := 2798) C dL_law_605 (by decide) ?_
        obtain ⟨x4_89, ex4_89, h⟩ := ltv_ex h
        refine G.iinc (L' := [(4, .int x4_89), (6, .long v_85), (5, .int v_79), (0, .ref b), (1, .ref (eA E 0)), (2, .ref (eA E 67)), (3, .ref (eA E 120))]) C 6 dL_law_2798 rfl (ex4_89.trans rfl) (by decide) rfl ?_
        refine G.goto (tgt := 23) C dL_law_2801 (by decide) ?_
        exact G.sub [3, 4, 5, 6, 0] rfl (hk _ _ _ _ (by omega) (by omega) h)
      · have h := it_f h ((not_congr lgc_eq).mp hc)
        refine G.iconst (v := (0 : Int32)) C dL_law_603 (by decide) ?_
        cases h
  · have h := it_f h hc
    refine G.iconst (v := (0 : Int32)) C dL_law_587 (by decide) ?_
    cases h
def bb_L_law_608 (xL : Nat) (xs : Nat → Int32) (k_23 : Int32 → Mm → Option Unit) (x4 : Int32) (M : Mm) : Option Unit := gd (inb (x4 + (1 : Int32)) xL) (gd (inb (x4 + (2 : Int32)) xL) (bd (f_X9_shape_0 ((shL ((xs (ix (x4 + (1 : Int32)))).toInt64) (32 : Int32)) ||| (((xs (ix (x4 + (2 : Int32)))).toInt64) &&& (4294967295 : Int64)))) fun v_93 => gd (inb (x4 + (1 : Int32)) xL) (gd (inb (x4 + (2 : Int32)) xL) (bd2 (f_X10_shape_67 ((shL ((xs (ix (x4 + (1 : Int32)))).toInt64) (32 : Int32)) ||| (((xs (ix (x4 + (2 : Int32)))).toInt64) &&& (4294967295 : Int64))) M) fun v_98 M_97 => if v_93 = v_98 then (ltv (x4 + (6 : Int32)) fun x4_99 => k_23 x4_99 M_97) else (none)))))
set_option maxHeartbeats 4000000 in
set_option maxRecDepth 100000 in
theorem gb_L_law_608 {b xL n cl sl : Nat} {xs : Nat → Int32} {k_23 : Int32 → Mm → Option Unit} {x4 : Int32} {M : Mm} (hE : Has shA (eH E)) (hl : l.stackTraces = false) (C : Cx RL cL_law 8 p room_1 s m #[Value.ref b] meth c E) (hr : meth.sig.returnType = ret) (hes : eS E = s.heap.size) (hX : va_X b xL xs s s.heap) (hbl : b < s.heap.size) (hbA : ¬ eF E b) (hb : cl + (n + 1) ≤ 1000) (hsb : sl + 6 * (n + 1) ≤ 10000) (hk : ∀ (x4 : Int32) (M : Mm) (cl sl : Nat), cl + n ≤ 1000 → sl + 6 * n ≤ 10000 → k_23 x4 M = some () → G p l e room_1 s m #[Value.ref b] below meth c E 8 cl sl (lw_Z below #[Value.ref b] s) 23 [(0, .ref b), (1, .ref (eA E 0)), (2, .ref (eA E 67)), (3, .ref (eA E 120)), (4, .int x4)] [] M) (h : bb_L_law_608 xL xs k_23 x4 M = some ()) : G p l e room_1 s m #[Value.ref b] below meth c E 8 cl sl (lw_Z below #[Value.ref b] s) 608 [(0, .ref b), (1, .ref (eA E 0)), (2, .ref (eA E 67)), (3, .ref (eA E 120)), (4, .int x4)] [] M := by
  unfold bb_L_law_608 at h
  refine G.aload_n C 1 dL_law_608 rfl rfl ?_
  refine G.aload_n C 0 dL_law_609 rfl rfl ?_
  refine G.iload C 4 dL_law_610 rfl ?_
  refine G.iconst (v := (1 : Int32)) C dL_law_612 (by decide) ?_
  refine G.iadd C dL_law_613 ?_
  obtain ⟨hg_90, h⟩ := gd_ex h
  refine G.sld C hX hbl hbA hg_90 dL_law_614 ?_
  refine G.i2l (v := (xs (ix (x4 + (1 : Int32)))).toInt64) C dL_law_615 rfl ?_
  refine G.bipush (v := (32 : Int32)) C dL_law_616 (by decide) ?_
  refine G.lshl (v := shL ((xs (ix (x4 + (1 : Int32)))).toInt64) (32 : Int32)) C dL_law_618 rfl ?_
  refine G.aload_n C 0 dL_law_619 rfl rfl ?_
  refine G.iload C 4 dL_law_620 rfl ?_
  refine G.iconst (v := (2 : Int32)) C dL_law_622 (by decide) ?_
  refine G.iadd C dL_law_623 ?_
  obtain ⟨hg_91, h⟩ := gd_ex h
  refine G.sld C hX hbl hbA hg_91 dL_law_624 ?_
  refine G.i2l (v := (xs (ix (x4 + (2 : Int32)))).toInt64) C dL_law_625 rfl ?_
  refine G.ldc2 C tg_1986 dL_law_626 ?_
  refine G.land C dL_law_629 ?_
  refine G.lor C dL_law_630 ?_
  obtain ⟨v_93, hv_92, h⟩ := bd_ex h
  refine G.callV (rest := []) C (s_X9_shape_0 (hasC hE)  hv_92) ⟨tg_528, tg_90, ok_X9_shape, Nat.le_of_ble_eq_true rfl, Nat.le_of_ble_eq_true rfl⟩ tg_525 tg_526 tg_527 (sc_0 (hasC hE)) rfl rfl (Nat.le_of_ble_eq_true rfl) dL_law_631 ⟨by show _ ≤ 600128; omega, by show _ ≤ 7301098; omega⟩ ?_
  refine G.aload_n C 2 dL_law_634 rfl rfl ?_
  refine G.aload_n C 0 dL_law_635 rfl rfl ?_
  refine G.iload C 4 dL_law_636 rfl ?_
  refine G.iconst (v := (1 : Int32)) C dL_law_638 (by decide) ?_
  refine G.iadd C dL_law_639 ?_
  obtain ⟨hg_94, h⟩ := gd_ex h
  refine G.sld C hX hbl hbA hg_94 dL_law_640 ?_
  refine G.i2l (v := (xs (ix (x4 + (1 : Int32)))).toInt64) C dL_law_641 rfl ?_
  refine G.bipush (v := (32 : Int32)) C dL_law_642 (by decide) ?_
  refine G.lshl (v := shL ((xs (ix (x4 + (1 : Int32)))).toInt64) (32 : Int32)) C dL_law_644 rfl ?_
  refine G.aload_n C 0 dL_law_645 rfl rfl ?_
  refine G.iload C 4 dL_law_646 rfl ?_
  refine G.iconst (v := (2 : Int32)) C dL_law_648 (by decide) ?_
  refine G.iadd C dL_law_649 ?_
  obtain ⟨hg_95, h⟩ := gd_ex h
  refine G.sld C hX hbl hbA hg_95 dL_law_650 ?_
  refine G.i2l (v := (xs (ix (x4 + (2 : Int32)))).toInt64) C dL_law_651 rfl ?_
  refine G.ldc2 C tg_1986 dL_law_652 ?_
  refine G.land C dL_law_655 ?_
  refine G.lor C dL_law_656 ?_
  obtain ⟨v_98, M_97, hv_96, h⟩ := bd2_ex h
  refine G.callV (rest := [.long v_93]) C (s_X10_shape_67 (hasM hE)  hv_96) ⟨tg_1726, tg_103, ok_X10_shape, Nat.le_of_ble_eq_true rfl, Nat.le_of_ble_eq_true rfl⟩ tg_1723 tg_1724 tg_1725 (sm_67 (hasM hE)) rfl rfl (Nat.le_of_ble_eq_true rfl) dL_law_657 ⟨by show _ ≤ 600128; omega, by show _ ≤ 7301098; omega⟩ ?_
  refine G.lcmp C dL_law_660 (G.if_eq (tgt := 2798) C dL_law_661 (by decide) (fun hc => ?_) (fun hc => ?_))
  · have h := it_t h (lgc_eq.mp hc)
    obtain ⟨x4_99, ex4_99, h⟩ := ltv_ex h
    refine G.iinc (L' := [(4, .int x4_99), (0, .ref b), (1, .ref (eA E 0)), (2, .ref (eA E 67)), (3, .ref (eA E 120))]) C 4 dL_law_2798 rfl (ex4_99.trans rfl) (by decide) rfl ?_
    refine G.goto (tgt := 23) C dL_law_2801 (by decide) ?_
    exact G.sub [1, 2, 3, 4, 0] rfl (hk _ _ _ _ (by omega) (by omega) h)
  · have h := it_f h ((not_congr lgc_eq).mp hc)
    refine G.iconst (v := (0 : Int32)) C dL_law_664 (by decide) ?_
    cases h
def bb_L_law_666 (xL : Nat) (xs : Nat → Int32) (k_23 : Int32 → Mm → Option Unit) (x4 : Int32) (M : Mm) : Option Unit := gd (inb (x4 + (1 : Int32)) xL) (gd (inb (x4 + (2 : Int32)) xL) (gd (inb (x4 + (3 : Int32)) xL) (if (xs (ix (x4 + (3 : Int32)))) = 0 then (bd2 (fw_L_apart_0_120 (xs (ix (x4 + (1 : Int32)))) (xs (ix (x4 + (2 : Int32)))) (0 : Int32) M) fun v_103 M_104 => gd (inb (x4 + (1 : Int32)) xL) (gd (inb (x4 + (2 : Int32)) xL) (gd (inb (x4 + (3 : Int32)) xL) (if (xs (ix (x4 + (3 : Int32)))) = 0 then (bd2 (f_X10_apart_67 (xs (ix (x4 + (1 : Int32)))) (xs (ix (x4 + (2 : Int32)))) (0 : Int32) M_104) fun v_111 M_110 => bd (f_X10_thrown_67 M_110) fun v_113 => if v_113 = v_103 then (if v_103 = 0 then (if (M_110.2 120 0) = (v_111.toInt64) then (ltv (x4 + (6 : Int32)) fun x4_115 => k_23 x4_115 M_110) else (none)) else (ltv (x4 + (6 : Int32)) fun x4_114 => k_23 x4_114 M_110)) else (none)) else (bd2 (f_X10_apart_67 (xs (ix (x4 + (1 : Int32)))) (xs (ix (x4 + (2 : Int32)))) (1 : Int32) M_104) fun v_118 M_117 => bd (f_X10_thrown_67 M_117) fun v_120 => if v_120 = v_103 then (if v_103 = 0 then (if (M_117.2 120 0) = (v_118.toInt64) then (ltv (x4 + (6 : Int32)) fun x4_122 => k_23 x4_122 M_117) else (none)) else (ltv (x4 + (6 : Int32)) fun x4_121 => k_23 x4_121 M_117)) else (none)))))) else (bd2 (fw_L_apart_0_120 (xs (ix (x4 + (1 : Int32)))) (xs (ix (x4 + (2 : Int32)))) (1 : Int32) M) fun v_123 M_124 => gd (inb (x4 + (1 : Int32)) xL) (gd (inb (x4 + (2 : Int32)) xL) (gd (inb (x4 + (3 : Int32)) xL) (if (xs (ix (x4 + (3 : Int32)))) = 0 then (bd2 (f_X10_apart_67 (xs (ix (x4 + (1 : Int32)))) (xs (ix (x4 + (2 : Int32)))) (0 : Int32) M_124) fun v_131 M_130 => bd (f_X10_thrown_67 M_130) fun v_133 => if v_133 = v_123 then (if v_123 = 0 then (if (M_130.2 120 0) = (v_131.toInt64) then (ltv (x4 + (6 : Int32)) fun x4_135 => k_23 x4_135 M_130) else (none)) else (ltv (x4 + (6 : Int32)) fun x4_134 => k_23 x4_134 M_130)) else (none)) else (bd2 (f_X10_apart_67 (xs (ix (x4 + (1 : Int32)))) (xs (ix (x4 + (2 : Int32)))) (1 : Int32) M_124) fun v_138 M_137 => bd (f_X10_thrown_67 M_137) fun v_140 => if v_140 = v_123 then (if v_123 = 0 then (if (M_137.2 120 0) = (v_138.toInt64) then (ltv (x4 + (6 : Int32)) fun x4_142 => k_23 x4_142 M_137) else (none)) else (ltv (x4 + (6 : Int32)) fun x4_141 => k_23 x4_141 M_137)) else (none)))))))))
set_option maxHeartbeats 4000000 in
set_option maxRecDepth 100000 in
theorem gb_L_law_666 {b xL n cl sl : Nat} {xs : Nat → Int32} {k_23 : Int32 → Mm → Option Unit} {x4 : Int32} {M : Mm} (hE : Has shA (eH E)) (hl : l.stackTraces = false) (C : Cx RL cL_law 8 p room_1 s m #[Value.ref b] meth c E) (hr : meth.sig.returnType = ret) (hes : eS E = s.heap.size) (hX : va_X b xL xs s s.heap) (hbl : b < s.heap.size) (hbA : ¬ eF E b) (hb : cl + (n + 1) ≤ 1000) (hsb : sl + 6 * (n + 1) ≤ 10000) (hk : ∀ (x4 : Int32) (M : Mm) (cl sl : Nat), cl + n ≤ 1000 → sl + 6 * n ≤ 10000 → k_23 x4 M = some () → G p l e room_1 s m #[Value.ref b] below meth c E 8 cl sl (lw_Z below #[Value.ref b] s) 23 [(0, .ref b), (1, .ref (eA E 0)), (2, .ref (eA E 67)), (3, .ref (eA E 120)), (4, .int x4)] [] M) (h : bb_L_law_666 xL xs k_23 x4 M = some ()) : G p l e room_1 s m #[Value.ref b] below meth c E 8 cl sl (lw_Z below #[Value.ref b] s) 666 [(0, .ref b), (1, .ref (eA E 0)), (2, .ref (eA E 67)), (3, .ref (eA E 120)), (4, .int x4)] [] M := by
  unfold bb_L_law_666 at h
  refine G.aload_n C 1 dL_law_666 rfl rfl ?_
  refine G.aload_n C 0 dL_law_667 rfl rfl ?_
  refine G.iload C 4 dL_law_668 rfl ?_
  refine G.iconst (v := (1 : Int32)) C dL_law_670 (by decide) ?_
  refine G.iadd C dL_law_671 ?_
  obtain ⟨hg_100, h⟩ := gd_ex h
  refine G.sld C hX hbl hbA hg_100 dL_law_672 ?_
  refine G.aload_n C 0 dL_law_673 rfl rfl ?_
  refine G.iload C 4 dL_law_674 rfl ?_
  refine G.iconst (v := (2 : Int32)) C dL_law_676 (by decide) ?_
  refine G.iadd C dL_law_677 ?_
  obtain ⟨hg_101, h⟩ := gd_ex h
  refine G.sld C hX hbl hbA hg_101 dL_law_678 ?_
  refine G.aload_n C 0 dL_law_679 rfl rfl ?_
  refine G.iload C 4 dL_law_680 rfl ?_
  refine G.iconst (v := (3 : Int32)) C dL_law_682 (by decide) ?_
  refine G.iadd C dL_law_683 ?_
  obtain ⟨hg_102, h⟩ := gd_ex h
  refine G.sld C hX hbl hbA hg_102 dL_law_684 ?_
  refine G.if_eq (tgt := 692) C dL_law_685 (by decide) (fun hc => ?_) (fun hc => ?_)
  · have h := it_t h hc
    refine G.iconst (v := (0 : Int32)) C dL_law_692 (by decide) ?_
    refine G.aload_n C 3 dL_law_693 rfl rfl ?_
    obtain ⟨v_103, M_104, hv_105, h⟩ := bd2_ex h
    refine G.callSB (rest := []) C (sw_L_apart_0_120 hl hE hv_105) ⟨tg_960, tg_89, ok_L_apart, Nat.le_of_ble_eq_true rfl, Nat.le_of_ble_eq_true rfl⟩ tg_958 tg_959 rfl (Nat.le_of_ble_eq_true rfl) dL_law_694 ⟨show cl + 1 ≤ 600128 by omega, show sl + 6 ≤ 7301098 by omega⟩ ?_
    refine G.istore (L' := [(5, .int v_103), (0, .ref b), (1, .ref (eA E 0)), (2, .ref (eA E 67)), (3, .ref (eA E 120)), (4, .int x4)]) C dL_law_697 rfl (by decide) rfl ?_
    refine G.aload_n C 3 dL_law_699 rfl rfl ?_
    refine G.aload_n C 1 dL_law_700 rfl rfl ?_
    refine G.iload C 5 dL_law_701 rfl ?_
    refine G.iconst (v := (1 : Int32)) C dL_law_703 (by decide) ?_
    refine G.iadd C dL_law_704 ?_
    obtain ⟨hg_106, h⟩ := gd_ex h
    refine G.sld C hX hbl hbA hg_106 dL_law_705 ?_
    refine G.aload_n C 1 dL_law_706 rfl rfl ?_
    refine G.iload C 5 dL_law_707 rfl ?_
    refine G.iconst (v := (2 : Int32)) C dL_law_709 (by decide) ?_
    refine G.iadd C dL_law_710 ?_
    obtain ⟨hg_107, h⟩ := gd_ex h
    refine G.sld C hX hbl hbA hg_107 dL_law_711 ?_
    refine G.aload_n C 1 dL_law_712 rfl rfl ?_
    refine G.iload C 5 dL_law_713 rfl ?_
    refine G.iconst (v := (3 : Int32)) C dL_law_715 (by decide) ?_
    refine G.iadd C dL_law_716 ?_
    obtain ⟨hg_108, h⟩ := gd_ex h
    refine G.sld C hX hbl hbA hg_108 dL_law_717 ?_
    refine G.if_eq (tgt := 725) C dL_law_718 (by decide) (fun hc => ?_) (fun hc => ?_)
    · have h := it_t h hc
      refine G.iconst (v := (0 : Int32)) C dL_law_725 (by decide) ?_
      obtain ⟨v_111, M_110, hv_109, h⟩ := bd2_ex h
      refine G.callV (rest := []) C (s_X10_apart_67 (hasM hE)  hv_109) ⟨tg_1733, tg_103, ok_X10_apart, Nat.le_of_ble_eq_true rfl, Nat.le_of_ble_eq_true rfl⟩ tg_1730 tg_1731 tg_1732 (sm_67 (hasM hE)) rfl rfl (Nat.le_of_ble_eq_true rfl) dL_law_726 ⟨by show _ ≤ 600128; omega, by show _ ≤ 7301098; omega⟩ ?_
      refine G.istore (L' := [(6, .int v_111), (5, .int v_103), (0, .ref b), (1, .ref (eA E 0)), (2, .ref (eA E 67)), (3, .ref (eA E 120)), (4, .int x4)]) C dL_law_729 rfl (by decide) rfl ?_
      refine G.aload_n C 4 dL_law_731 rfl rfl ?_
      obtain ⟨v_113, hv_112, h⟩ := bd_ex h
      refine G.callV (rest := []) C (s_X10_thrown_67 (hasM hE)  hv_112) ⟨tg_1585, tg_103, ok_X10_thrown, Nat.le_of_ble_eq_true rfl, Nat.le_of_ble_eq_true rfl⟩ tg_1582 tg_1583 tg_1584 (sm_67 (hasM hE)) rfl rfl (Nat.le_of_ble_eq_true rfl) dL_law_732 ⟨by show _ ≤ 600128; omega, by show _ ≤ 7301098; omega⟩ ?_
      refine G.iload C 1 dL_law_735 rfl ?_
      refine G.icmp_eq (tgt := 742) C dL_law_737 (by decide) (fun hc => ?_) (fun hc => ?_)
      · have h := it_t h hc
        refine G.iload C 1 dL_law_742 rfl ?_
        refine G.if_ne (tgt := 759) C dL_law_744 (by decide) (fun hc => ?_) (fun hc => ?_)
        · have h := it_f h hc
          refine G.goto (tgt := 2798) C dL_law_759 (by decide) ?_
          obtain ⟨x4_114, ex4_114, h⟩ := ltv_ex h
          refine G.iinc (L' := [(4, .int x4_114), (6, .int v_111), (5, .int v_103), (0, .ref b), (1, .ref (eA E 0)), (2, .ref (eA E 67)), (3, .ref (eA E 120))]) C 6 dL_law_2798 rfl (ex4_114.trans rfl) (by decide) rfl ?_
          refine G.goto (tgt := 23) C dL_law_2801 (by decide) ?_
          exact G.sub [3, 4, 5, 6, 0] rfl (hk _ _ _ _ (by omega) (by omega) h)
        · have h := it_t h hc
          refine G.aload_n C 5 dL_law_747 rfl rfl ?_
          refine G.iconst (v := (0 : Int32)) C dL_law_748 (by decide) ?_
          refine G.aJ (j := 0) C (sa_120 hE) (by decide) (by decide) dL_law_749 ?_
          refine G.iload C 0 dL_law_750 rfl ?_
          refine G.i2l (v := v_111.toInt64) C dL_law_752 rfl ?_
          refine G.lcmp C dL_law_753 (G.if_eq (tgt := 759) C dL_law_754 (by decide) (fun hc => ?_) (fun hc => ?_))
          · have h := it_t h (lgc_eq.mp hc)
            refine G.goto (tgt := 2798) C dL_law_759 (by decide) ?_
            obtain ⟨x4_115, ex4_115, h⟩ := ltv_ex h
            refine G.iinc (L' := [(4, .int x4_115), (6, .int v_111), (5, .int v_103), (0, .ref b), (1, .ref (eA E 0)), (2, .ref (eA E 67)), (3, .ref (eA E 120))]) C 6 dL_law_2798 rfl (ex4_115.trans rfl) (by decide) rfl ?_
            refine G.goto (tgt := 23) C dL_law_2801 (by decide) ?_
            exact G.sub [3, 4, 5, 6, 0] rfl (hk _ _ _ _ (by omega) (by omega) h)
          · have h := it_f h ((not_congr lgc_eq).mp hc)
            refine G.iconst (v := (0 : Int32)) C dL_law_757 (by decide) ?_
            cases h
      · have h := it_f h hc
        refine G.iconst (v := (0 : Int32)) C dL_law_740 (by decide) ?_
        cases h
    · have h := it_f h hc
      refine G.iconst (v := (1 : Int32)) C dL_law_721 (by decide) ?_
      refine G.goto (tgt := 726) C dL_law_722 (by decide) ?_
      obtain ⟨v_118, M_117, hv_116, h⟩ := bd2_ex h
      refine G.callV (rest := []) C (s_X10_apart_67 (hasM hE)  hv_116) ⟨tg_1733, tg_103, ok_X10_apart, Nat.le_of_ble_eq_true rfl, Nat.le_of_ble_eq_true rfl⟩ tg_1730 tg_1731 tg_1732 (sm_67 (hasM hE)) rfl rfl (Nat.le_of_ble_eq_true rfl) dL_law_726 ⟨by show _ ≤ 600128; omega, by show _ ≤ 7301098; omega⟩ ?_
      refine G.istore (L' := [(6, .int v_118), (5, .int v_103), (0, .ref b), (1, .ref (eA E 0)), (2, .ref (eA E 67)), (3, .ref (eA E 120)), (4, .int x4)]) C dL_law_729 rfl (by decide) rfl ?_
      refine G.aload_n C 4 dL_law_731 rfl rfl ?_
      obtain ⟨v_120, hv_119, h⟩ := bd_ex h
      refine G.callV (rest := []) C (s_X10_thrown_67 (hasM hE)  hv_119) ⟨tg_1585, tg_103, ok_X10_thrown, Nat.le_of_ble_eq_true rfl, Nat.le_of_ble_eq_true rfl⟩ tg_1582 tg_1583 tg_1584 (sm_67 (hasM hE)) rfl rfl (Nat.le_of_ble_eq_true rfl) dL_law_732 ⟨by show _ ≤ 600128; omega, by show _ ≤ 7301098; omega⟩ ?_
      refine G.iload C 1 dL_law_735 rfl ?_
      refine G.icmp_eq (tgt := 742) C dL_law_737 (by decide) (fun hc => ?_) (fun hc => ?_)
      · have h := it_t h hc
        refine G.iload C 1 dL_law_742 rfl ?_
        refine G.if_ne (tgt := 759) C dL_law_744 (by decide) (fun hc => ?_) (fun hc => ?_)
        · have h := it_f h hc
          refine G.goto (tgt := 2798) C dL_law_759 (by decide) ?_
          obtain ⟨x4_121, ex4_121, h⟩ := ltv_ex h
          refine G.iinc (L' := [(4, .int x4_121), (6, .int v_118), (5, .int v_103), (0, .ref b), (1, .ref (eA E 0)), (2, .ref (eA E 67)), (3, .ref (eA E 120))]) C 6 dL_law_2798 rfl (ex4_121.trans rfl) (by decide) rfl ?_
          refine G.goto (tgt := 23) C dL_law_2801 (by decide) ?_
          exact G.sub [3, 4, 5, 6, 0] rfl (hk _ _ _ _ (by omega) (by omega) h)
        · have h := it_t h hc
          refine G.aload_n C 5 dL_law_747 rfl rfl ?_
          refine G.iconst (v := (0 : Int32)) C dL_law_748 (by decide) ?_
          refine G.aJ (j := 0) C (sa_120 hE) (by decide) (by decide) dL_law_749 ?_
          refine G.iload C 0 dL_law_750 rfl ?_
          refine G.i2l (v := v_118.toInt64) C dL_law_752 rfl ?_
          refine G.lcmp C dL_law_753 (G.if_eq (tgt := 759) C dL_law_754 (by decide) (fun hc => ?_) (fun hc => ?_))
          · have h := it_t h (lgc_eq.mp hc)
            refine G.goto (tgt := 2798) C dL_law_759 (by decide) ?_
            obtain ⟨x4_122, ex4_122, h⟩ := ltv_ex h
            refine G.iinc (L' := [(4, .int x4_122), (6, .int v_118), (5, .int v_103), (0, .ref b), (1, .ref (eA E 0)), (2, .ref (eA E 67)), (3, .ref (eA E 120))]) C 6 dL_law_2798 rfl (ex4_122.trans rfl) (by decide) rfl ?_
            refine G.goto (tgt := 23) C dL_law_2801 (by decide) ?_
            exact G.sub [3, 4, 5, 6, 0] rfl (hk _ _ _ _ (by omega) (by omega) h)
          · have h := it_f h ((not_congr lgc_eq).mp hc)
            refine G.iconst (v := (0 : Int32)) C dL_law_757 (by decide) ?_
            cases h
      · have h := it_f h hc
        refine G.iconst (v := (0 : Int32)) C dL_law_740 (by decide) ?_
        cases h
  · have h := it_f h hc
    refine G.iconst (v := (1 : Int32)) C dL_law_688 (by decide) ?_
    refine G.goto (tgt := 693) C dL_law_689 (by decide) ?_
    refine G.aload_n C 3 dL_law_693 rfl rfl ?_
    obtain ⟨v_123, M_124, hv_125, h⟩ := bd2_ex h
    refine G.callSB (rest := []) C (sw_L_apart_0_120 hl hE hv_125) ⟨tg_960, tg_89, ok_L_apart, Nat.le_of_ble_eq_true rfl, Nat.le_of_ble_eq_true rfl⟩ tg_958 tg_959 rfl (Nat.le_of_ble_eq_true rfl) dL_law_694 ⟨show cl + 1 ≤ 600128 by omega, show sl + 6 ≤ 7301098 by omega⟩ ?_
    refine G.istore (L' := [(5, .int v_123), (0, .ref b), (1, .ref (eA E 0)), (2, .ref (eA E 67)), (3, .ref (eA E 120)), (4, .int x4)]) C dL_law_697 rfl (by decide) rfl ?_
    refine G.aload_n C 3 dL_law_699 rfl rfl ?_
    refine G.aload_n C 1 dL_law_700 rfl rfl ?_
    refine G.iload C 5 dL_law_701 rfl ?_
    refine G.iconst (v := (1 : Int32)) C dL_law_703 (by decide) ?_
    refine G.iadd C dL_law_704 ?_
    obtain ⟨hg_126, h⟩ := gd_ex h
    refine G.sld C hX hbl hbA hg_126 dL_law_705 ?_
    refine G.aload_n C 1 dL_law_706 rfl rfl ?_
    refine G.iload C 5 dL_law_707 rfl ?_
    refine G.iconst (v := (2 : Int32)) C dL_law_709 (by decide) ?_
    refine G.iadd C dL_law_710 ?_
    obtain ⟨hg_127, h⟩ := gd_ex h
    refine G.sld C hX hbl hbA hg_127 dL_law_711 ?_
    refine G.aload_n C 1 dL_law_712 rfl rfl ?_
    refine G.iload C 5 dL_law_713 rfl ?_
    refine G.iconst (v := (3 : Int32)) C dL_law_715 (by decide) ?_
    refine G.iadd C dL_law_716 ?_
    obtain ⟨hg_128, h⟩ := gd_ex h
    refine G.sld C hX hbl hbA hg_128 dL_law_717 ?_
    refine G.if_eq (tgt := 725) C dL_law_718 (by decide) (fun hc => ?_) (fun hc => ?_)
    · have h := it_t h hc
      refine G.iconst (v := (0 : Int32)) C dL_law_725 (by decide) ?_
      obtain ⟨v_131, M_130, hv_129, h⟩ := bd2_ex h
      refine G.callV (rest := []) C (s_X10_apart_67 (hasM hE)  hv_129) ⟨tg_1733, tg_103, ok_X10_apart, Nat.le_of_ble_eq_true rfl, Nat.le_of_ble_eq_true rfl⟩ tg_1730 tg_1731 tg_1732 (sm_67 (hasM hE)) rfl rfl (Nat.le_of_ble_eq_true rfl) dL_law_726 ⟨by show _ ≤ 600128; omega, by show _ ≤ 7301098; omega⟩ ?_
      refine G.istore (L' := [(6, .int v_131), (5, .int v_123), (0, .ref b), (1, .ref (eA E 0)), (2, .ref (eA E 67)), (3, .ref (eA E 120)), (4, .int x4)]) C dL_law_729 rfl (by decide) rfl ?_
      refine G.aload_n C 4 dL_law_731 rfl rfl ?_
      obtain ⟨v_133, hv_132, h⟩ := bd_ex h
      refine G.callV (rest := []) C (s_X10_thrown_67 (hasM hE)  hv_132) ⟨tg_1585, tg_103, ok_X10_thrown, Nat.le_of_ble_eq_true rfl, Nat.le_of_ble_eq_true rfl⟩ tg_1582 tg_1583 tg_1584 (sm_67 (hasM hE)) rfl rfl (Nat.le_of_ble_eq_true rfl) dL_law_732 ⟨by show _ ≤ 600128; omega, by show _ ≤ 7301098; omega⟩ ?_
      refine G.iload C 1 dL_law_735 rfl ?_
      refine G.icmp_eq (tgt := 742) C dL_law_737 (by decide) (fun hc => ?_) (fun hc => ?_)
      · have h := it_t h hc
        refine G.iload C 1 dL_law_742 rfl ?_
        refine G.if_ne (tgt := 759) C dL_law_744 (by decide) (fun hc => ?_) (fun hc => ?_)
        · have h := it_f h hc
          refine G.goto (tgt := 2798) C dL_law_759 (by decide) ?_
          obtain ⟨x4_134, ex4_134, h⟩ := ltv_ex h
          refine G.iinc (L' := [(4, .int x4_134), (6, .int v_131), (5, .int v_123), (0, .ref b), (1, .ref (eA E 0)), (2, .ref (eA E 67)), (3, .ref (eA E 120))]) C 6 dL_law_2798 rfl (ex4_134.trans rfl) (by decide) rfl ?_
          refine G.goto (tgt := 23) C dL_law_2801 (by decide) ?_
          exact G.sub [3, 4, 5, 6, 0] rfl (hk _ _ _ _ (by omega) (by omega) h)
        · have h := it_t h hc
          refine G.aload_n C 5 dL_law_747 rfl rfl ?_
          refine G.iconst (v := (0 : Int32)) C dL_law_748 (by decide) ?_
          refine G.aJ (j := 0) C (sa_120 hE) (by decide) (by decide) dL_law_749 ?_
          refine G.iload C 0 dL_law_750 rfl ?_
          refine G.i2l (v := v_131.toInt64) C dL_law_752 rfl ?_
          refine G.lcmp C dL_law_753 (G.if_eq (tgt := 759) C dL_law_754 (by decide) (fun hc => ?_) (fun hc => ?_))
          · have h := it_t h (lgc_eq.mp hc)
            refine G.goto (tgt := 2798) C dL_law_759 (by decide) ?_
            obtain ⟨x4_135, ex4_135, h⟩ := ltv_ex h
            refine G.iinc (L' := [(4, .int x4_135), (6, .int v_131), (5, .int v_123), (0, .ref b), (1, .ref (eA E 0)), (2, .ref (eA E 67)), (3, .ref (eA E 120))]) C 6 dL_law_2798 rfl (ex4_135.trans rfl) (by decide) rfl ?_
            refine G.goto (tgt := 23) C dL_law_2801 (by decide) ?_
            exact G.sub [3, 4, 5, 6, 0] rfl (hk _ _ _ _ (by omega) (by omega) h)
          · have h := it_f h ((not_congr lgc_eq).mp hc)
            refine G.iconst (v := (0 : Int32)) C dL_law_757 (by decide) ?_
            cases h
      · have h := it_f h hc
        refine G.iconst (v := (0 : Int32)) C dL_law_740 (by decide) ?_
        cases h
    · have h := it_f h hc
      refine G.iconst (v := (1 : Int32)) C dL_law_721 (by decide) ?_
      refine G.goto (tgt := 726) C dL_law_722 (by decide) ?_
      obtain ⟨v_138, M_137, hv_136, h⟩ := bd2_ex h
      refine G.callV (rest := []) C (s_X10_apart_67 (hasM hE)  hv_136) ⟨tg_1733, tg_103, ok_X10_apart, Nat.le_of_ble_eq_true rfl, Nat.le_of_ble_eq_true rfl⟩ tg_1730 tg_1731 tg_1732 (sm_67 (hasM hE)) rfl rfl (Nat.le_of_ble_eq_true rfl) dL_law_726 ⟨by show _ ≤ 600128; omega, by show _ ≤ 7301098; omega⟩ ?_
      refine G.istore (L' := [(6, .int v_138), (5, .int v_123), (0, .ref b), (1, .ref (eA E 0)), (2, .ref (eA E 67)), (3, .ref (eA E 120)), (4, .int x4)]) C dL_law_729 rfl (by decide) rfl ?_
      refine G.aload_n C 4 dL_law_731 rfl rfl ?_
      obtain ⟨v_140, hv_139, h⟩ := bd_ex h
      refine G.callV (rest := []) C (s_X10_thrown_67 (hasM hE)  hv_139) ⟨tg_1585, tg_103, ok_X10_thrown, Nat.le_of_ble_eq_true rfl, Nat.le_of_ble_eq_true rfl⟩ tg_1582 tg_1583 tg_1584 (sm_67 (hasM hE)) rfl rfl (Nat.le_of_ble_eq_true rfl) dL_law_732 ⟨by show _ ≤ 600128; omega, by show _ ≤ 7301098; omega⟩ ?_
      refine G.iload C 1 dL_law_735 rfl ?_
      refine G.icmp_eq (tgt := 742) C dL_law_737 (by decide) (fun hc => ?_) (fun hc => ?_)
      · have h := it_t h hc
        refine G.iload C 1 dL_law_742 rfl ?_
        refine G.if_ne (tgt := 759) C dL_law_744 (by decide) (fun hc => ?_) (fun hc => ?_)
        · have h := it_f h hc
          refine G.goto (tgt := 2798) C dL_law_759 (by decide) ?_
          obtain ⟨x4_141, ex4_141, h⟩ := ltv_ex h
          refine G.iinc (L' := [(4, .int x4_141), (6, .int v_138), (5, .int v_123), (0, .ref b), (1, .ref (eA E 0)), (2, .ref (eA E 67)), (3, .ref (eA E 120))]) C 6 dL_law_2798 rfl (ex4_141.trans rfl) (by decide) rfl ?_
          refine G.goto (tgt := 23) C dL_law_2801 (by decide) ?_
          exact G.sub [3, 4, 5, 6, 0] rfl (hk _ _ _ _ (by omega) (by omega) h)
        · have h := it_t h hc
          refine G.aload_n C 5 dL_law_747 rfl rfl ?_
          refine G.iconst (v := (0 : Int32)) C dL_law_748 (by decide) ?_
          refine G.aJ (j := 0) C (sa_120 hE) (by decide) (by decide) dL_law_749 ?_
          refine G.iload C 0 dL_law_750 rfl ?_
          refine G.i2l (v := v_138.toInt64) C dL_law_752 rfl ?_
          refine G.lcmp C dL_law_753 (G.if_eq (tgt := 759) C dL_law_754 (by decide) (fun hc => ?_) (fun hc => ?_))
          · have h := it_t h (lgc_eq.mp hc)
            refine G.goto (tgt := 2798) C dL_law_759 (by decide) ?_
            obtain ⟨x4_142, ex4_142, h⟩ := ltv_ex h
            refine G.iinc (L' := [(4, .int x4_142), (6, .int v_138), (5, .int v_123), (0, .ref b), (1, .ref (eA E 0)), (2, .ref (eA E 67)), (3, .ref (eA E 120))]) C 6 dL_law_2798 rfl (ex4_142.trans rfl) (by decide) rfl ?_
            refine G.goto (tgt := 23) C dL_law_2801 (by decide) ?_
            exact G.sub [3, 4, 5, 6, 0] rfl (hk _ _ _ _ (by omega) (by omega) h)
          · have h := it_f h ((not_congr lgc_eq).mp hc)
            refine G.iconst (v := (0 : Int32)) C dL_law_757 (by decide) ?_
            cases h
      · have h := it_f h hc
        refine G.iconst (v := (0 : Int32)) C dL_law_740 (by decide) ?_
        cases h
def bb_L_law_762 (xL : Nat) (xs : Nat → Int32) (k_23 : Int32 → Mm → Option Unit) (x4 : Int32) (M : Mm) : Option Unit := gd (inb (x4 + (1 : Int32)) xL) (gd (inb (x4 + (2 : Int32)) xL) (if (xs (ix (x4 + (2 : Int32)))) = 0 then (gd (inb (x4 + (3 : Int32)) xL) (bd2 (fw_L_punches_0_120 (xs (ix (x4 + (1 : Int32)))) (0 : Int32) (xs (ix (x4 + (3 : Int32)))) M) fun v_146 M_147 => gd (inb (x4 + (1 : Int32)) xL) (gd (inb (x4 + (2 : Int32)) xL) (if (xs (ix (x4 + (2 : Int32)))) = 0 then (gd (inb (x4 + (3 : Int32)) xL) (bd2 (f_X10_punches_67 (xs (ix (x4 + (1 : Int32)))) (0 : Int32) (xs (ix (x4 + (3 : Int32)))) M_147) fun v_154 M_153 => bd (f_X10_thrown_67 M_153) fun v_156 => if v_156 = v_146 then (if v_146 = 0 then (if (M_153.2 120 0) = (v_154.toInt64) then (ltv (x4 + (6 : Int32)) fun x4_158 => k_23 x4_158 M_153) else (none)) else (ltv (x4 + (6 : Int32)) fun x4_157 => k_23 x4_157 M_153)) else (none))) else (gd (inb (x4 + (3 : Int32)) xL) (bd2 (f_X10_punches_67 (xs (ix (x4 + (1 : Int32)))) (1 : Int32) (xs (ix (x4 + (3 : Int32)))) M_147) fun v_162 M_161 => bd (f_X10_thrown_67 M_161) fun v_164 => if v_164 = v_146 then (if v_146 = 0 then (if (M_161.2 120 0) = (v_162.toInt64) then (ltv (x4 + (6 : Int32)) fun x4_166 => k_23 x4_166 M_161) else (none)) else (ltv (x4 + (6 : Int32)) fun x4_165 => k_23 x4_165 M_161)) else (none))))))) else (gd (inb (x4 + (3 : Int32)) xL) (bd2 (fw_L_punches_0_120 (xs (ix (x4 + (1 : Int32)))) (1 : Int32) (xs (ix (x4 + (3 : Int32)))) M) fun v_168 M_169 => gd (inb (x4 + (1 : Int32)) xL) (gd (inb (x4 + (2 : Int32)) xL) (if (xs (ix (x4 + (2 : Int32)))) = 0 then (gd (inb (x4 + (3 : Int32)) xL) (bd2 (f_X10_punches_67 (xs (ix (x4 + (1 : Int32)))) (0 : Int32) (xs (ix (x4 + (3 : Int32)))) M_169) fun v_176 M_175 => bd (f_X10_thrown_67 M_175) fun v_178 => if v_178 = v_168 then (if v_168 = 0 then (if (M_175.2 120 0) = (v_176.toInt64) then (ltv (x4 + (6 : Int32)) fun x4_180 => k_23 x4_180 M_175) else (none)) else (ltv (x4 + (6 : Int32)) fun x4_179 => k_23 x4_179 M_175)) else (none))) else (gd (inb (x4 + (3 : Int32)) xL) (bd2 (f_X10_punches_67 (xs (ix (x4 + (1 : Int32)))) (1 : Int32) (xs (ix (x4 + (3 : Int32)))) M_169) fun v_184 M_183 => bd (f_X10_thrown_67 M_183) fun v_186 => if v_186 = v_168 then (if v_168 = 0 then (if (M_183.2 120 0) = (v_184.toInt64) then (ltv (x4 + (6 : Int32)) fun x4_188 => k_23 x4_188 M_183) else (none)) else (ltv (x4 + (6 : Int32)) fun x4_187 => k_23 x4_187 M_183)) else (none)))))))))
set_option maxHeartbeats 4000000 in
set_option maxRecDepth 100000 in
theorem gb_L_law_762 {b xL n cl sl : Nat} {xs : Nat → Int32} {k_23 : Int32 → Mm → Option Unit} {x4 : Int32} {M : Mm} (hE : Has shA (eH E)) (hl : l.stackTraces = false) (C : Cx RL cL_law 8 p room_1 s m #[Value.ref b] meth c E) (hr : meth.sig.returnType = ret) (hes : eS E = s.heap.size) (hX : va_X b xL xs s s.heap) (hbl : b < s.heap.size) (hbA : ¬ eF E b) (hb : cl + (n + 1) ≤ 1000) (hsb : sl + 6 * (n + 1) ≤ 10000) (hk : ∀ (x4 : Int32) (M : Mm) (cl sl : Nat), cl + n ≤ 1000 → sl + 6 * n ≤ 10000 → k_23 x4 M = some () → G p l e room_1 s m #[Value.ref b] below meth c E 8 cl sl (lw_Z below #[Value.ref b] s) 23 [(0, .ref b), (1, .ref (eA E 0)), (2, .ref (eA E 67)), (3, .ref (eA E 120)), (4, .int x4)] [] M) (h : bb_L_law_762 xL xs k_23 x4 M = some ()) : G p l e room_1 s m #[Value.ref b] below meth c E 8 cl sl (lw_Z below #[Value.ref b] s) 762 [(0, .ref b), (1, .ref (eA E 0)), (2, .ref (eA E 67)), (3, .ref (eA E 120)), (4, .int x4)] [] M := by
  unfold bb_L_law_762 at h
  refine G.aload_n C 1 dL_law_762 rfl rfl ?_
  refine G.aload_n C 0 dL_law_763 rfl rfl ?_
  refine G.iload C 4 dL_law_764 rfl ?_
  refine G.iconst (v := (1 : Int32)) C dL_law_766 (by decide) ?_
  refine G.iadd C dL_law_767 ?_
  obtain ⟨hg_143, h⟩ := gd_ex h
  refine G.sld C hX hbl hbA hg_143 dL_law_768 ?_
  refine G.aload_n C 0 dL_law_769 rfl rfl ?_
  refine G.iload C 4 dL_law_770 rfl ?_
  refine G.iconst (v := (2 : Int32)) C dL_law_772 (by decide) ?_
  refine G.iadd C dL_law_773 ?_
  obtain ⟨hg_144, h⟩ := gd_ex h
  refine G.sld C hX hbl hbA hg_144 dL_law_774 ?_
  refine G.if_eq (tgt := 782) C dL_law_775 (by decide) (fun hc => ?_) (fun hc => ?_)
  · have h := it_t h hc
    refine G.iconst (v := (0 : Int32)) C dL_law_782 (by decide) ?_
    refine G.aload_n C 0 dL_law_783 rfl rfl ?_
    refine G.iload C 4 dL_law_784 rfl ?_
    refine G.iconst (v := (3 : Int32)) C dL_law_786 (by decide) ?_
    refine G.iadd C dL_law_787 ?_
    obtain ⟨hg_145, h⟩ := gd_ex h
    refine G.sld C hX hbl hbA hg_145 dL_law_788 ?_
    refine G.aload_n C 3 dL_law_789 rfl rfl ?_
    obtain ⟨v_146, M_147, hv_148, h⟩ := bd2_ex h
    refine G.callSB (rest := []) C (sw_L_punches_0_120 hl hE hv_148) ⟨tg_975, tg_89, ok_L_punches, Nat.le_of_ble_eq_true rfl, Nat.le_of_ble_eq_true rfl⟩ tg_973 tg_974 rfl (Nat.le_of_ble_eq_true rfl) dL_law_790 ⟨show cl + 1 ≤ 600128 by omega, show sl + 6 ≤ 7301098 by omega⟩ ?_
    refine G.istore (L' := [(5, .int v_146), (0, .ref b), (1, .ref (eA E 0)), (2, .ref (eA E 67)), (3, .ref (eA E 120)), (4, .int x4)]) C dL_law_793 rfl (by decide) rfl ?_
    refine G.aload_n C 3 dL_law_795 rfl rfl ?_
    refine G.aload_n C 1 dL_law_796 rfl rfl ?_
    refine G.iload C 5 dL_law_797 rfl ?_
    refine G.iconst (v := (1 : Int32)) C dL_law_799 (by decide) ?_
    refine G.iadd C dL_law_800 ?_
    obtain ⟨hg_149, h⟩ := gd_ex h
    refine G.sld C hX hbl hbA hg_149 dL_law_801 ?_
    refine G.aload_n C 1 dL_law_802 rfl rfl ?_
    refine G.iload C 5 dL_law_803 rfl ?_
    refine G.iconst (v := (2 : Int32)) C dL_law_805 (by decide) ?_
    refine G.iadd C dL_law_806 ?_
    obtain ⟨hg_150, h⟩ := gd_ex h
    refine G.sld C hX hbl hbA hg_150 dL_law_807 ?_
    refine G.if_eq (tgt := 815) C dL_law_808 (by decide) (fun hc => ?_) (fun hc => ?_)
    · have h := it_t h hc
      refine G.iconst (v := (0 : Int32)) C dL_law_815 (by decide) ?_
      refine G.aload_n C 1 dL_law_816 rfl rfl ?_
      refine G.iload C 5 dL_law_817 rfl ?_
      refine G.iconst (v := (3 : Int32)) C dL_law_819 (by decide) ?_
      refine G.iadd C dL_law_820 ?_
      obtain ⟨hg_151, h⟩ := gd_ex h
      refine G.sld C hX hbl hbA hg_151 dL_law_821 ?_
      obtain ⟨v_154, M_153, hv_152, h⟩ := bd2_ex h
      refine G.callV (rest := []) C (s_X10_punches_67 (hasM hE)  hv_152) ⟨tg_1746, tg_103, ok_X10_punches, Nat.le_of_ble_eq_true rfl, Nat.le_of_ble_eq_true rfl⟩ tg_1743 tg_1744 tg_1745 (sm_67 (hasM hE)) rfl rfl (Nat.le_of_ble_eq_true rfl) dL_law_822 ⟨by show _ ≤ 600128; omega, by show _ ≤ 7301098; omega⟩ ?_
      refine G.istore (L' := [(6, .int v_154), (5, .int v_146), (0, .ref b), (1, .ref (eA E 0)), (2, .ref (eA E 67)), (3, .ref (eA E 120)), (4, .int x4)]) C dL_law_825 rfl (by decide) rfl ?_
      refine G.aload_n C 4 dL_law_827 rfl rfl ?_
      obtain ⟨v_156, hv_155, h⟩ := bd_ex h
      refine G.callV (rest := []) C (s_X10_thrown_67 (hasM hE)  hv_155) ⟨tg_1585, tg_103, ok_X10_thrown, Nat.le_of_ble_eq_true rfl, Nat.le_of_ble_eq_true rfl⟩ tg_1582 tg_1583 tg_1584 (sm_67 (hasM hE)) rfl rfl (Nat.le_of_ble_eq_true rfl) dL_law_828 ⟨by show _ ≤ 600128; omega, by show _ ≤ 7301098; omega⟩ ?_
      refine G.iload C 1 dL_law_831 rfl ?_
      refine G.icmp_eq (tgt := 838) C dL_law_833 (by decide) (fun hc => ?_) (fun hc => ?_)
      · have h := it_t h hc
        refine G.iload C 1 dL_law_838 rfl ?_
        refine G.if_ne (tgt := 855) C dL_law_840 (by decide) (fun hc => ?_) (fun hc => ?_)
        · have h := it_f h hc
          refine G.goto (tgt := 2798) C dL_law_855 (by decide) ?_
          obtain ⟨x4_157, ex4_157, h⟩ := ltv_ex h
          refine G.iinc (L' := [(4, .int x4_157), (6, .int v_154), (5, .int v_146), (0, .ref b), (1, .ref (eA E 0)), (2, .ref (eA E 67)), (3, .ref (eA E 120))]) C 6 dL_law_2798 rfl (ex4_157.trans rfl) (by decide) rfl ?_
          refine G.goto (tgt := 23) C dL_law_2801 (by decide) ?_
          exact G.sub [3, 4, 5, 6, 0] rfl (hk _ _ _ _ (by omega) (by omega) h)
        · have h := it_t h hc
          refine G.aload_n C 5 dL_law_843 rfl rfl ?_
          refine G.iconst (v := (0 : Int32)) C dL_law_844 (by decide) ?_
          refine G.aJ (j := 0) C (sa_120 hE) (by decide) (by decide) dL_law_845 ?_
          refine G.iload C 0 dL_law_846 rfl ?_
          refine G.i2l (v := v_154.toInt64) C dL_law_848 rfl ?_
          refine G.lcmp C dL_law_849 (G.if_eq (tgt := 855) C dL_law_850 (by decide) (fun hc => ?_) (fun hc => ?_))
          · have h := it_t h (lgc_eq.mp hc)
            refine G.goto (tgt := 2798) C dL_law_855 (by decide) ?_
            obtain ⟨x4_158, ex4_158, h⟩ := ltv_ex h
            refine G.iinc (L' := [(4, .int x4_158), (6, .int v_154), (5, .int v_146), (0, .ref b), (1, .ref (eA E 0)), (2, .ref (eA E 67)), (3, .ref (eA E 120))]) C 6 dL_law_2798 rfl (ex4_158.trans rfl) (by decide) rfl ?_
            refine G.goto (tgt := 23) C dL_law_2801 (by decide) ?_
            exact G.sub [3, 4, 5, 6, 0] rfl (hk _ _ _ _ (by omega) (by omega) h)
          · have h := it_f h ((not_congr lgc_eq).mp hc)
            refine G.iconst (v := (0 : Int32)) C dL_law_853 (by decide) ?_
            cases h
      · have h := it_f h hc
        refine G.iconst (v := (0 : Int32)) C dL_law_836 (by decide) ?_
        cases h
    · have h := it_f h hc
      refine G.iconst (v := (1 : Int32)) C dL_law_811 (by decide) ?_
      refine G.goto (tgt := 816) C dL_law_812 (by decide) ?_
      refine G.aload_n C 1 dL_law_816 rfl rfl ?_
      refine G.iload C 5 dL_law_817 rfl ?_
      refine G.iconst (v := (3 : Int32)) C dL_law_819 (by decide) ?_
      refine G.iadd C dL_law_820 ?_
      obtain ⟨hg_159, h⟩ := gd_ex h
      refine G.sld C hX hbl hbA hg_159 dL_law_821 ?_
      obtain ⟨v_162, M_161, hv_160, h⟩ := bd2_ex h
      refine G.callV (rest := []) C (s_X10_punches_67 (hasM hE)  hv_160) ⟨tg_1746, tg_103, ok_X10_punches, Nat.le_of_ble_eq_true rfl, Nat.le_of_ble_eq_true rfl⟩ tg_1743 tg_1744 tg_1745 (sm_67 (hasM hE)) rfl rfl (Nat.le_of_ble_eq_true rfl) dL_law_822 ⟨by show _ ≤ 600128; omega, by show _ ≤ 7301098; omega⟩ ?_
      refine G.istore (L' := [(6, .int v_162), (5, .int v_146), (0, .ref b), (1, .ref (eA E 0)), (2, .ref (eA E 67)), (3, .ref (eA E 120)), (4, .int x4)]) C dL_law_825 rfl (by decide) rfl ?_
      refine G.aload_n C 4 dL_law_827 rfl rfl ?_
      obtain ⟨v_164, hv_163, h⟩ := bd_ex h
      refine G.callV (rest := []) C (s_X10_thrown_67 (hasM hE)  hv_163) ⟨tg_1585, tg_103, ok_X10_thrown, Nat.le_of_ble_eq_true rfl, Nat.le_of_ble_eq_true rfl⟩ tg_1582 tg_1583 tg_1584 (sm_67 (hasM hE)) rfl rfl (Nat.le_of_ble_eq_true rfl) dL_law_828 ⟨by show _ ≤ 600128; omega, by show _ ≤ 7301098; omega⟩ ?_
      refine G.iload C 1 dL_law_831 rfl ?_
      refine G.icmp_eq (tgt := 838) C dL_law_833 (by decide) (fun hc => ?_) (fun hc => ?_)
      · have h := it_t h hc
        refine G.iload C 1 dL_law_838 rfl ?_
        refine G.if_ne (tgt := 855) C dL_law_840 (by decide) (fun hc => ?_) (fun hc => ?_)
        · have h := it_f h hc
          refine G.goto (tgt := 2798) C dL_law_855 (by decide) ?_
          obtain ⟨x4_165, ex4_165, h⟩ := ltv_ex h
          refine G.iinc (L' := [(4, .int x4_165), (6, .int v_162), (5, .int v_146), (0, .ref b), (1, .ref (eA E 0)), (2, .ref (eA E 67)), (3, .ref (eA E 120))]) C 6 dL_law_2798 rfl (ex4_165.trans rfl) (by decide) rfl ?_
          refine G.goto (tgt := 23) C dL_law_2801 (by decide) ?_
          exact G.sub [3, 4, 5, 6, 0] rfl (hk _ _ _ _ (by omega) (by omega) h)
        · have h := it_t h hc
          refine G.aload_n C 5 dL_law_843 rfl rfl ?_
          refine G.iconst (v := (0 : Int32)) C dL_law_844 (by decide) ?_
          refine G.aJ (j := 0) C (sa_120 hE) (by decide) (by decide) dL_law_845 ?_
          refine G.iload C 0 dL_law_846 rfl ?_
          refine G.i2l (v := v_162.toInt64) C dL_law_848 rfl ?_
          refine G.lcmp C dL_law_849 (G.if_eq (tgt := 855) C dL_law_850 (by decide) (fun hc => ?_) (fun hc => ?_))
          · have h := it_t h (lgc_eq.mp hc)
            refine G.goto (tgt := 2798) C dL_law_855 (by decide) ?_
            obtain ⟨x4_166, ex4_166, h⟩ := ltv_ex h
            refine G.iinc (L' := [(4, .int x4_166), (6, .int v_162), (5, .int v_146), (0, .ref b), (1, .ref (eA E 0)), (2, .ref (eA E 67)), (3, .ref (eA E 120))]) C 6 dL_law_2798 rfl (ex4_166.trans rfl) (by decide) rfl ?_
            refine G.goto (tgt := 23) C dL_law_2801 (by decide) ?_
            exact G.sub [3, 4, 5, 6, 0] rfl (hk _ _ _ _ (by omega) (by omega) h)
          · have h := it_f h ((not_congr lgc_eq).mp hc)
            refine G.iconst (v := (0 : Int32)) C dL_law_853 (by decide) ?_
            cases h
      · have h := it_f h hc
        refine G.iconst (v := (0 : Int32)) C dL_law_836 (by decide) ?_
        cases h
  · have h := it_f h hc
    refine G.iconst (v := (1 : Int32)) C dL_law_778 (by decide) ?_
    refine G.goto (tgt := 783) C dL_law_779 (by decide) ?_
    refine G.aload_n C 0 dL_law_783 rfl rfl ?_
    refine G.iload C 4 dL_law_784 rfl ?_
    refine G.iconst (v := (3 : Int32)) C dL_law_786 (by decide) ?_
    refine G.iadd C dL_law_787 ?_
    obtain ⟨hg_167, h⟩ := gd_ex h
    refine G.sld C hX hbl hbA hg_167 dL_law_788 ?_
    refine G.aload_n C 3 dL_law_789 rfl rfl ?_
    obtain ⟨v_168, M_169, hv_170, h⟩ := bd2_ex h
    refine G.callSB (rest := []) C (sw_L_punches_0_120 hl hE hv_170) ⟨tg_975, tg_89, ok_L_punches, Nat.le_of_ble_eq_true rfl, Nat.le_of_ble_eq_true rfl⟩ tg_973 tg_974 rfl (Nat.le_of_ble_eq_true rfl) dL_law_790 ⟨show cl + 1 ≤ 600128 by omega, show sl + 6 ≤ 7301098 by omega⟩ ?_
    refine G.istore (L' := [(5, .int v_168), (0, .ref b), (1, .ref (eA E 0)), (2, .ref (eA E 67)), (3, .ref (eA E 120)), (4, .int x4)]) C dL_law_793 rfl (by decide) rfl ?_
    refine G.aload_n C 3 dL_law_795 rfl rfl ?_
    refine G.aload_n C 1 dL_law_796 rfl rfl ?_
    refine G.iload C 5 dL_law_797 rfl ?_
    refine G.iconst (v := (1 : Int32)) C dL_law_799 (by decide) ?_
    refine G.iadd C dL_law_800 ?_
    obtain ⟨hg_171, h⟩ := gd_ex h
    refine G.sld C hX hbl hbA hg_171 dL_law_801 ?_
    refine G.aload_n C 1 dL_law_802 rfl rfl ?_
    refine G.iload C 5 dL_law_803 rfl ?_
    refine G.iconst (v := (2 : Int32)) C dL_law_805 (by decide) ?_
    refine G.iadd C dL_law_806 ?_
    obtain ⟨hg_172, h⟩ := gd_ex h
    refine G.sld C hX hbl hbA hg_172 dL_law_807 ?_
    refine G.if_eq (tgt := 815) C dL_law_808 (by decide) (fun hc => ?_) (fun hc => ?_)
    · have h := it_t h hc
      refine G.iconst (v := (0 : Int32)) C dL_law_815 (by decide) ?_
      refine G.aload_n C 1 dL_law_816 rfl rfl ?_
      refine G.iload C 5 dL_law_817 rfl ?_
      refine G.iconst (v := (3 : Int32)) C dL_law_819 (by decide) ?_
      refine G.iadd C dL_law_820 ?_
      obtain ⟨hg_173, h⟩ := gd_ex h
      refine G.sld C hX hbl hbA hg_173 dL_law_821 ?_
      obtain ⟨v_176, M_175, hv_174, h⟩ := bd2_ex h
      refine G.callV (rest := []) C (s_X10_punches_67 (hasM hE)  hv_174) ⟨tg_1746, tg_103, ok_X10_punches, Nat.le_of_ble_eq_true rfl, Nat.le_of_ble_eq_true rfl⟩ tg_1743 tg_1744 tg_1745 (sm_67 (hasM hE)) rfl rfl (Nat.le_of_ble_eq_true rfl) dL_law_822 ⟨by show _ ≤ 600128; omega, by show _ ≤ 7301098; omega⟩ ?_
      refine G.istore (L' := [(6, .int v_176), (5, .int v_168), (0, .ref b), (1, .ref (eA E 0)), (2, .ref (eA E 67)), (3, .ref (eA E 120)), (4, .int x4)]) C dL_law_825 rfl (by decide) rfl ?_
      refine G.aload_n C 4 dL_law_827 rfl rfl ?_
      obtain ⟨v_178, hv_177, h⟩ := bd_ex h
      refine G.callV (rest := []) C (s_X10_thrown_67 (hasM hE)  hv_177) ⟨tg_1585, tg_103, ok_X10_thrown, Nat.le_of_ble_eq_true rfl, Nat.le_of_ble_eq_true rfl⟩ tg_1582 tg_1583 tg_1584 (sm_67 (hasM hE)) rfl rfl (Nat.le_of_ble_eq_true rfl) dL_law_828 ⟨by show _ ≤ 600128; omega, by show _ ≤ 7301098; omega⟩ ?_
      refine G.iload C 1 dL_law_831 rfl ?_
      refine G.icmp_eq (tgt := 838) C dL_law_833 (by decide) (fun hc => ?_) (fun hc => ?_)
      · have h := it_t h hc
        refine G.iload C 1 dL_law_838 rfl ?_
        refine G.if_ne (tgt := 855) C dL_law_840 (by decide) (fun hc => ?_) (fun hc => ?_)
        · have h := it_f h hc
          refine G.goto (tgt := 2798) C dL_law_855 (by decide) ?_
          obtain ⟨x4_179, ex4_179, h⟩ := ltv_ex h
          refine G.iinc (L' := [(4, .int x4_179), (6, .int v_176), (5, .int v_168), (0, .ref b), (1, .ref (eA E 0)), (2, .ref (eA E 67)), (3, .ref (eA E 120))]) C 6 dL_law_2798 rfl (ex4_179.trans rfl) (by decide) rfl ?_
          refine G.goto (tgt := 23) C dL_law_2801 (by decide) ?_
          exact G.sub [3, 4, 5, 6, 0] rfl (hk _ _ _ _ (by omega) (by omega) h)
        · have h := it_t h hc
          refine G.aload_n C 5 dL_law_843 rfl rfl ?_
          refine G.iconst (v := (0 : Int32)) C dL_law_844 (by decide) ?_
          refine G.aJ (j := 0) C (sa_120 hE) (by decide) (by decide) dL_law_845 ?_
          refine G.iload C 0 dL_law_846 rfl ?_
          refine G.i2l (v := v_176.toInt64) C dL_law_848 rfl ?_
          refine G.lcmp C dL_law_849 (G.if_eq (tgt := 855) C dL_law_850 (by decide) (fun hc => ?_) (fun hc => ?_))
          · have h := it_t h (lgc_eq.mp hc)
            refine G.goto (tgt := 2798) C dL_law_855 (by decide) ?_
            obtain ⟨x4_180, ex4_180, h⟩ := ltv_ex h
            refine G.iinc (L' := [(4, .int x4_180), (6, .int v_176), (5, .int v_168), (0, .ref b), (1, .ref (eA E 0)), (2, .ref (eA E 67)), (3, .ref (eA E 120))]) C 6 dL_law_2798 rfl (ex4_180.trans rfl) (by decide) rfl ?_
            refine G.goto (tgt := 23) C dL_law_2801 (by decide) ?_
            exact G.sub [3, 4, 5, 6, 0] rfl (hk _ _ _ _ (by omega) (by omega) h)
          · have h := it_f h ((not_congr lgc_eq).mp hc)
            refine G.iconst (v := (0 : Int32)) C dL_law_853 (by decide) ?_
            cases h
      · have h := it_f h hc
        refine G.iconst (v := (0 : Int32)) C dL_law_836 (by decide) ?_
        cases h
    · have h := it_f h hc
      refine G.iconst (v := (1 : Int32)) C dL_law_811 (by decide) ?_
      refine G.goto (tgt := 816) C dL_law_812 (by decide) ?_
      refine G.aload_n C 1 dL_law_816 rfl rfl ?_
      refine G.iload C 5 dL_law_817 rfl ?_
      refine G.iconst (v := (3 : Int32)) C dL_law_819 (by decide) ?_
      refine G.iadd C dL_law_820 ?_
      obtain ⟨hg_181, h⟩ := gd_ex h
      refine G.sld C hX hbl hbA hg_181 dL_law_821 ?_
      obtain ⟨v_184, M_183, hv_182, h⟩ := bd2_ex h
      refine G.callV (rest := []) C (s_X10_punches_67 (hasM hE)  hv_182) ⟨tg_1746, tg_103, ok_X10_punches, Nat.le_of_ble_eq_true rfl, Nat.le_of_ble_eq_true rfl⟩ tg_1743 tg_1744 tg_1745 (sm_67 (hasM hE)) rfl rfl (Nat.le_of_ble_eq_true rfl) dL_law_822 ⟨by show _ ≤ 600128; omega, by show _ ≤ 7301098; omega⟩ ?_
      refine G.istore (L' := [(6, .int v_184), (5, .int v_168), (0, .ref b), (1, .ref (eA E 0)), (2, .ref (eA E 67)), (3, .ref (eA E 120)), (4, .int x4)]) C dL_law_825 rfl (by decide) rfl ?_
      refine G.aload_n C 4 dL_law_827 rfl rfl ?_
      obtain ⟨v_186, hv_185, h⟩ := bd_ex h
      refine G.callV (rest := []) C (s_X10_thrown_67 (hasM hE)  hv_185) ⟨tg_1585, tg_103, ok_X10_thrown, Nat.le_of_ble_eq_true rfl, Nat.le_of_ble_eq_true rfl⟩ tg_1582 tg_1583 tg_1584 (sm_67 (hasM hE)) rfl rfl (Nat.le_of_ble_eq_true rfl) dL_law_828 ⟨by show _ ≤ 600128; omega, by show _ ≤ 7301098; omega⟩ ?_
      refine G.iload C 1 dL_law_831 rfl ?_
      refine G.icmp_eq (tgt := 838) C dL_law_833 (by decide) (fun hc => ?_) (fun hc => ?_)
      · have h := it_t h hc
        refine G.iload C 1 dL_law_838 rfl ?_
        refine G.if_ne (tgt := 855) C dL_law_840 (by decide) (fun hc => ?_) (fun hc => ?_)
        · have h := it_f h hc
          refine G.goto (tgt := 2798) C dL_law_855 (by decide) ?_
          obtain ⟨x4_187, ex4_187, h⟩ := ltv_ex h
          refine G.iinc (L' := [(4, .int x4_187), (6, .int v_184), (5, .int v_168), (0, .ref b), (1, .ref (eA E 0)), (2, .ref (eA E 67)), (3, .ref (eA E 120))]) C 6 dL_law_2798 rfl (ex4_187.trans rfl) (by decide) rfl ?_
          refine G.goto (tgt := 23) C dL_law_2801 (by decide) ?_
          exact G.sub [3, 4, 5, 6, 0] rfl (hk _ _ _ _ (by omega) (by omega) h)
        · have h := it_t h hc
          refine G.aload_n C 5 dL_law_843 rfl rfl ?_
          refine G.iconst (v := (0 : Int32)) C dL_law_844 (by decide) ?_
          refine G.aJ (j := 0) C (sa_120 hE) (by decide) (by decide) dL_law_845 ?_
          refine G.iload C 0 dL_law_846 rfl ?_
          refine G.i2l (v := v_184.toInt64) C dL_law_848 rfl ?_
          refine G.lcmp C dL_law_849 (G.if_eq (tgt := 855) C dL_law_850 (by decide) (fun hc => ?_) (fun hc => ?_))
          · have h := it_t h (lgc_eq.mp hc)
            refine G.goto (tgt := 2798) C dL_law_855 (by decide) ?_
            obtain ⟨x4_188, ex4_188, h⟩ := ltv_ex h
            refine G.iinc (L' := [(4, .int x4_188), (6, .int v_184), (5, .int v_168), (0, .ref b), (1, .ref (eA E 0)), (2, .ref (eA E 67)), (3, .ref (eA E 120))]) C 6 dL_law_2798 rfl (ex4_188.trans rfl) (by decide) rfl ?_
            refine G.goto (tgt := 23) C dL_law_2801 (by decide) ?_
            exact G.sub [3, 4, 5, 6, 0] rfl (hk _ _ _ _ (by omega) (by omega) h)
          · have h := it_f h ((not_congr lgc_eq).mp hc)
            refine G.iconst (v := (0 : Int32)) C dL_law_853 (by decide) ?_
            cases h
      · have h := it_f h hc
        refine G.iconst (v := (0 : Int32)) C dL_law_836 (by decide) ?_
        cases h
def bb_L_law_858 (xL : Nat) (xs : Nat → Int32) (k_23 : Int32 → Mm → Option Unit) (x4 : Int32) (M : Mm) : Option Unit := gd (inb (x4 + (1 : Int32)) xL) (gd (inb (x4 + (2 : Int32)) xL) (gd (inb (x4 + (3 : Int32)) xL) (if (xs (ix (x4 + (3 : Int32)))) = 0 then (bd2 (fw_L_served_0_120 (xs (ix (x4 + (1 : Int32)))) (xs (ix (x4 + (2 : Int32)))) (0 : Int32) M) fun v_192 M_193 => gd (inb (x4 + (1 : Int32)) xL) (gd (inb (x4 + (2 : Int32)) xL) (gd (inb (x4 + (3 : Int32)) xL) (if (xs (ix (x4 + (3 : Int32)))) = 0 then (bd2 (f_X10_served_67 (xs (ix (x4 + (1 : Int32)))) (xs (ix (x4 + (2 : Int32)))) (0 : Int32) M_193) fun v_200 M_199 => bd (f_X10_thrown_67 M_199) fun v_202 => if v_202 = v_192 then (if v_192 = 0 then (if (M_199.2 120 0) = (v_200.toInt64) then (ltv (x4 + (6 : Int32)) fun x4_204 => k_23 x4_204 M_199) else (none)) else (ltv (x4 + (6 : Int32)) fun x4_203 => k_23 x4_203 M_199)) else (none)) else (bd2 (f_X10_served_67 (xs (ix (x4 + (1 : Int32)))) (xs (ix (x4 + (2 : Int32)))) (1 : Int32) M_193) fun v_207 M_206 => bd (f_X10_thrown_67 M_206) fun v_209 => if v_209 = v_192 then (if v_192 = 0 then (if (M_206.2 120 0) = (v_207.toInt64) then (ltv (x4 + (6 : Int32)) fun x4_211 => k_23 x4_211 M_206) else (none)) else (ltv (x4 + (6 : Int32)) fun x4_210 => k_23 x4_210 M_206)) else (none)))))) else (bd2 (fw_L_served_0_120 (xs (ix (x4 + (1 : Int32)))) (xs (ix (x4 + (2 : Int32)))) (1 : Int32) M) fun v_212 M_213 => gd (inb (x4 + (1 : Int32)) xL) (gd (inb (x4 + (2 : Int32)) xL) (gd (inb (x4 + (3 : Int32)) xL) (if (xs (ix (x4 + (3 : Int32)))) = 0 then (bd2 (f_X10_served_67 (xs (ix (x4 + (1 : Int32)))) (xs (ix (x4 + (2 : Int32)))) (0 : Int32) M_213) fun v_220 M_219 => bd (f_X10_thrown_67 M_219) fun v_222 => if v_222 = v_212 then (if v_212 = 0 then (if (M_219.2 120 0) = (v_220.toInt64) then (ltv (x4 + (6 : Int32)) fun x4_224 => k_23 x4_224 M_219) else (none)) else (ltv (x4 + (6 : Int32)) fun x4_223 => k_23 x4_223 M_219)) else (none)) else (bd2 (f_X10_served_67 (xs (ix (x4 + (1 : Int32)))) (xs (ix (x4 + (2 : Int32)))) (1 : Int32) M_213) fun v_227 M_226 => bd (f_X10_thrown_67 M_226) fun v_229 => if v_229 = v_212 then (if v_212 = 0 then (if (M_226.2 120 0) = (v_227.toInt64) then (ltv (x4 + (6 : Int32)) fun x4_231 => k_23 x4_231 M_226) else (none)) else (ltv (x4 + (6 : Int32)) fun x4_230 => k_23 x4_230 M_226)) else (none)))))))))
set_option maxHeartbeats 4000000 in
set_option maxRecDepth 100000 in
theorem gb_L_law_858 {b xL n cl sl : Nat} {xs : Nat → Int32} {k_23 : Int32 → Mm → Option Unit} {x4 : Int32} {M : Mm} (hE : Has shA (eH E)) (hl : l.stackTraces = false) (C : Cx RL cL_law 8 p room_1 s m #[Value.ref b] meth c E) (hr : meth.sig.returnType = ret) (hes : eS E = s.heap.size) (hX : va_X b xL xs s s.heap) (hbl : b < s.heap.size) (hbA : ¬ eF E b) (hb : cl + (n + 1) ≤ 1000) (hsb : sl + 6 * (n + 1) ≤ 10000) (hk : ∀ (x4 : Int32) (M : Mm) (cl sl : Nat), cl + n ≤ 1000 → sl + 6 * n ≤ 10000 → k_23 x4 M = some () → G p l e room_1 s m #[Value.ref b] below meth c E 8 cl sl (lw_Z below #[Value.ref b] s) 23 [(0, .ref b), (1, .ref (eA E 0)), (2, .ref (eA E 67)), (3, .ref (eA E 120)), (4, .int x4)] [] M) (h : bb_L_law_858 xL xs k_23 x4 M = some ()) : G p l e room_1 s m #[Value.ref b] below meth c E 8 cl sl (lw_Z below #[Value.ref b] s) 858 [(0, .ref b), (1, .ref (eA E 0)), (2, .ref (eA E 67)), (3, .ref (eA E 120)), (4, .int x4)] [] M := by
  unfold bb_L_law_858 at h
  refine G.aload_n C 1 dL_law_858 rfl rfl ?_
  refine G.aload_n C 0 dL_law_859 rfl rfl ?_
  refine G.iload C 4 dL_law_860 rfl ?_
  refine G.iconst (v := (1 : Int32)) C dL_law_862 (by decide) ?_
  refine G.iadd C dL_law_863 ?_
  obtain ⟨hg_189, h⟩ := gd_ex h
  refine G.sld C hX hbl hbA hg_189 dL_law_864 ?_
  refine G.aload_n C 0 dL_law_865 rfl rfl ?_
  refine G.iload C 4 dL_law_866 rfl ?_
  refine G.iconst (v := (2 : Int32)) C dL_law_868 (by decide) ?_
  refine G.iadd C dL_law_869 ?_
  obtain ⟨hg_190, h⟩ := gd_ex h
  refine G.sld C hX hbl hbA hg_190 dL_law_870 ?_
  refine G.aload_n C 0 dL_law_871 rfl rfl ?_
  refine G.iload C 4 dL_law_872 rfl ?_
  refine G.iconst (v := (3 : Int32)) C dL_law_874 (by decide) ?_
  refine G.iadd C dL_law_875 ?_
  obtain ⟨hg_191, h⟩ := gd_ex h
  refine G.sld C hX hbl hbA hg_191 dL_law_876 ?_
  refine G.if_eq (tgt := 884) C dL_law_877 (by decide) (fun hc => ?_) (fun hc => ?_)
  · have h := it_t h hc
    refine G.iconst (v := (0 : Int32)) C dL_law_884 (by decide) ?_
    refine G.aload_n C 3 dL_law_885 rfl rfl ?_
    obtain ⟨v_192, M_193, hv_194, h⟩ := bd2_ex h
    refine G.callSB (rest := []) C (sw_L_served_0_120 hl hE hv_194) ⟨tg_1004, tg_89, ok_L_served, Nat.le_of_ble_eq_true rfl, Nat.le_of_ble_eq_true rfl⟩ tg_1002 tg_1003 rfl (Nat.le_of_ble_eq_true rfl) dL_law_886 ⟨show cl + 1 ≤ 600128 by omega, show sl + 6 ≤ 7301098 by omega⟩ ?_
    refine G.istore (L' := [(5, .int v_192), (0, .ref b), (1, .ref (eA E 0)), (2, .ref (eA E 67)), (3, .ref (eA E 120)), (4, .int x4)]) C dL_law_889 rfl (by decide) rfl ?_
    refine G.aload_n C 3 dL_law_891 rfl rfl ?_
    refine G.aload_n C 1 dL_law_892 rfl rfl ?_
    refine G.iload C 5 dL_law_893 rfl ?_
    refine G.iconst (v := (1 : Int32)) C dL_law_895 (by decide) ?_
    refine G.iadd C dL_law_896 ?_
    obtain ⟨hg_195, h⟩ := gd_ex h
    refine G.sld C hX hbl hbA hg_195 dL_law_897 ?_
    refine G.aload_n C 1 dL_law_898 rfl rfl ?_
    refine G.iload C 5 dL_law_899 rfl ?_
    refine G.iconst (v := (2 : Int32)) C dL_law_901 (by decide) ?_
    refine G.iadd C dL_law_902 ?_
    obtain ⟨hg_196, h⟩ := gd_ex h
    refine G.sld C hX hbl hbA hg_196 dL_law_903 ?_
    refine G.aload_n C 1 dL_law_904 rfl rfl ?_
    refine G.iload C 5 dL_law_905 rfl ?_
    refine G.iconst (v := (3 : Int32)) C dL_law_907 (by decide) ?_
    refine G.iadd C dL_law_908 ?_
    obtain ⟨hg_197, h⟩ := gd_ex h
    refine G.sld C hX hbl hbA hg_197 dL_law_909 ?_
    refine G.if_eq (tgt := 917) C dL_law_910 (by decide) (fun hc => ?_) (fun hc => ?_)
    · have h := it_t h hc
      refine G.iconst (v := (0 : Int32)) C dL_law_917 (by decide) ?_
      obtain ⟨v_200, M_199, hv_198, h⟩ := bd2_ex h
      refine G.callV (rest := []) C (s_X10_served_67 (hasM hE)  hv_198) ⟨tg_1754, tg_103, ok_X10_served, Nat.le_of_ble_eq_true rfl, Nat.le_of_ble_eq_true rfl⟩ tg_1751 tg_1752 tg_1753 (sm_67 (hasM hE)) rfl rfl (Nat.le_of_ble_eq_true rfl) dL_law_918 ⟨by show _ ≤ 600128; omega, by show _ ≤ 7301098; omega⟩ ?_
      refine G.istore (L' := [(6, .int v_200), (5, .int v_192), (0, .ref b), (1, .ref (eA E 0)), (2, .ref (eA E 67)), (3, .ref (eA E 120)), (4, .int x4)]) C dL_law_921 rfl (by decide) rfl ?_
      refine G.aload_n C 4 dL_law_923 rfl rfl ?_
      obtain ⟨v_202, hv_201, h⟩ := bd_ex h
      refine G.callV (rest := []) C (s_X10_thrown_67 (hasM hE)  hv_201) ⟨tg_1585, tg_103, ok_X10_thrown, Nat.le_of_ble_eq_true rfl, Nat.le_of_ble_eq_true rfl⟩ tg_1582 tg_1583 tg_1584 (sm_67 (hasM hE)) rfl rfl (Nat.le_of_ble_eq_true rfl) dL_law_924 ⟨by show _ ≤ 600128; omega, by show _ ≤ 7301098; omega⟩ ?_
      refine G.iload C 1 dL_law_927 rfl ?_
      refine G.icmp_eq (tgt := 934) C dL_law_929 (by decide) (fun hc => ?_) (fun hc => ?_)
      · have h := it_t h hc
        refine G.iload C 1 dL_law_934 rfl ?_
        refine G.if_ne (tgt := 951) C dL_law_936 (by decide) (fun hc => ?_) (fun hc => ?_)
        · have h := it_f h hc
          refine G.goto (tgt := 2798) C dL_law_951 (by decide) ?_
          obtain ⟨x4_203, ex4_203, h⟩ := ltv_ex h
          refine G.iinc (L' := [(4, .int x4_203), (6, .int v_200), (5, .int v_192), (0, .ref b), (1, .ref (eA E 0)), (2, .ref (eA E 67)), (3, .ref (eA E 120))]) C 6 dL_law_2798 rfl (ex4_203.trans rfl) (by decide) rfl ?_
          refine G.goto (tgt := 23) C dL_law_2801 (by decide) ?_
          exact G.sub [3, 4, 5, 6, 0] rfl (hk _ _ _ _ (by omega) (by omega) h)
        · have h := it_t h hc
          refine G.aload_n C 5 dL_law_939 rfl rfl ?_
          refine G.iconst (v := (0 : Int32)) C dL_law_940 (by decide) ?_
          refine G.aJ (j := 0) C (sa_120 hE) (by decide) (by decide) dL_law_941 ?_
          refine G.iload C 0 dL_law_942 rfl ?_
          refine G.i2l (v := v_200.toInt64) C dL_law_944 rfl ?_
          refine G.lcmp C dL_law_945 (G.if_eq (tgt := 951) C dL_law_946 (by decide) (fun hc => ?_) (fun hc => ?_))
          · have h := it_t h (lgc_eq.mp hc)
            refine G.goto (tgt := 2798) C dL_law_951 (by decide) ?_
            obtain ⟨x4_204, ex4_204, h⟩ := ltv_ex h
            refine G.iinc (L' := [(4, .int x4_204), (6, .int v_200), (5, .int v_192), (0, .ref b), (1, .ref (eA E 0)), (2, .ref (eA E 67)), (3, .ref (eA E 120))]) C 6 dL_law_2798 rfl (ex4_204.trans rfl) (by decide) rfl ?_
            refine G.goto (tgt := 23) C dL_law_2801 (by decide) ?_
            exact G.sub [3, 4, 5, 6, 0] rfl (hk _ _ _ _ (by omega) (by omega) h)
          · have h := it_f h ((not_congr lgc_eq).mp hc)
            refine G.iconst (v := (0 : Int32)) C dL_law_949 (by decide) ?_
            cases h
      · have h := it_f h hc
        refine G.iconst (v := (0 : Int32)) C dL_law_932 (by decide) ?_
        cases h
    · have h := it_f h hc
      refine G.iconst (v := (1 : Int32)) C dL_law_913 (by decide) ?_
      refine G.goto (tgt := 918) C dL_law_914 (by decide) ?_
      obtain ⟨v_207, M_206, hv_205, h⟩ := bd2_ex h
      refine G.callV (rest := []) C (s_X10_served_67 (hasM hE)  hv_205) ⟨tg_1754, tg_103, ok_X10_served, Nat.le_of_ble_eq_true rfl, Nat.le_of_ble_eq_true rfl⟩ tg_1751 tg_1752 tg_1753 (sm_67 (hasM hE)) rfl rfl (Nat.le_of_ble_eq_true rfl) dL_law_918 ⟨by show _ ≤ 600128; omega, by show _ ≤ 7301098; omega⟩ ?_
      refine G.istore (L' := [(6, .int v_207), (5, .int v_192), (0, .ref b), (1, .ref (eA E 0)), (2, .ref (eA E 67)), (3, .ref (eA E 120)), (4, .int x4)]) C dL_law_921 rfl (by decide) rfl ?_
      refine G.aload_n C 4 dL_law_923 rfl rfl ?_
      obtain ⟨v_209, hv_208, h⟩ := bd_ex h
      refine G.callV (rest := []) C (s_X10_thrown_67 (hasM hE)  hv_208) ⟨tg_1585, tg_103, ok_X10_thrown, Nat.le_of_ble_eq_true rfl, Nat.le_of_ble_eq_true rfl⟩ tg_1582 tg_1583 tg_1584 (sm_67 (hasM hE)) rfl rfl (Nat.le_of_ble_eq_true rfl) dL_law_924 ⟨by show _ ≤ 600128; omega, by show _ ≤ 7301098; omega⟩ ?_
      refine G.iload C 1 dL_law_927 rfl ?_
      refine G.icmp_eq (tgt := 934) C dL_law_929 (by decide) (fun hc => ?_) (fun hc => ?_)
      · have h := it_t h hc
        refine G.iload C 1 dL_law_934 rfl ?_
        refine G.if_ne (tgt := 951) C dL_law_936 (by decide) (fun hc => ?_) (fun hc => ?_)
        · have h := it_f h hc
          refine G.goto (tgt := 2798) C dL_law_951 (by decide) ?_
          obtain ⟨x4_210, ex4_210, h⟩ := ltv_ex h
          refine G.iinc (L' := [(4, .int x4_210), (6, .int v_207), (5, .int v_192), (0, .ref b), (1, .ref (eA E 0)), (2, .ref (eA E 67)), (3, .ref (eA E 120))]) C 6 dL_law_2798 rfl (ex4_210.trans rfl) (by decide) rfl ?_
          refine G.goto (tgt := 23) C dL_law_2801 (by decide) ?_
          exact G.sub [3, 4, 5, 6, 0] rfl (hk _ _ _ _ (by omega) (by omega) h)
        · have h := it_t h hc
          refine G.aload_n C 5 dL_law_939 rfl rfl ?_
          refine G.iconst (v := (0 : Int32)) C dL_law_940 (by decide) ?_
          refine G.aJ (j := 0) C (sa_120 hE) (by decide) (by decide) dL_law_941 ?_
          refine G.iload C 0 dL_law_942 rfl ?_
          refine G.i2l (v := v_207.toInt64) C dL_law_944 rfl ?_
          refine G.lcmp C dL_law_945 (G.if_eq (tgt := 951) C dL_law_946 (by decide) (fun hc => ?_) (fun hc => ?_))
          · have h := it_t h (lgc_eq.mp hc)
            refine G.goto (tgt := 2798) C dL_law_951 (by decide) ?_
            obtain ⟨x4_211, ex4_211, h⟩ := ltv_ex h
            refine G.iinc (L' := [(4, .int x4_211), (6, .int v_207), (5, .int v_192), (0, .ref b), (1, .ref (eA E 0)), (2, .ref (eA E 67)), (3, .ref (eA E 120))]) C 6 dL_law_2798 rfl (ex4_211.trans rfl) (by decide) rfl ?_
            refine G.goto (tgt := 23) C dL_law_2801 (by decide) ?_
            exact G.sub [3, 4, 5, 6, 0] rfl (hk _ _ _ _ (by omega) (by omega) h)
          · have h := it_f h ((not_congr lgc_eq).mp hc)
            refine G.iconst (v := (0 : Int32)) C dL_law_949 (by decide) ?_
            cases h
      · have h := it_f h hc
        refine G.iconst (v := (0 : Int32)) C dL_law_932 (by decide) ?_
        cases h
  · have h := it_f h hc
    refine G.iconst (v := (1 : Int32)) C dL_law_880 (by decide) ?_
    refine G.goto (tgt := 885) C dL_law_881 (by decide) ?_
    refine G.aload_n C 3 dL_law_885 rfl rfl ?_
    obtain ⟨v_212, M_213, hv_214, h⟩ := bd2_ex h
    refine G.callSB (rest := []) C (sw_L_served_0_120 hl hE hv_214) ⟨tg_1004, tg_89, ok_L_served, Nat.le_of_ble_eq_true rfl, Nat.le_of_ble_eq_true rfl⟩ tg_1002 tg_1003 rfl (Nat.le_of_ble_eq_true rfl) dL_law_886 ⟨show cl + 1 ≤ 600128 by omega, show sl + 6 ≤ 7301098 by omega⟩ ?_
    refine G.istore (L' := [(5, .int v_212), (0, .ref b), (1, .ref (eA E 0)), (2, .ref (eA E 67)), (3, .ref (eA E 120)), (4, .int x4)]) C dL_law_889 rfl (by decide) rfl ?_
    refine G.aload_n C 3 dL_law_891 rfl rfl ?_
    refine G.aload_n C 1 dL_law_892 rfl rfl ?_
    refine G.iload C 5 dL_law_893 rfl ?_
    refine G.iconst (v := (1 : Int32)) C dL_law_895 (by decide) ?_
    refine G.iadd C dL_law_896 ?_
    obtain ⟨hg_215, h⟩ := gd_ex h
    refine G.sld C hX hbl hbA hg_215 dL_law_897 ?_
    refine G.aload_n C 1 dL_law_898 rfl rfl ?_
    refine G.iload C 5 dL_law_899 rfl ?_
    refine G.iconst (v := (2 : Int32)) C dL_law_901 (by decide) ?_
    refine G.iadd C dL_law_902 ?_
    obtain ⟨hg_216, h⟩ := gd_ex h
    refine G.sld C hX hbl hbA hg_216 dL_law_903 ?_
    refine G.aload_n C 1 dL_law_904 rfl rfl ?_
    refine G.iload C 5 dL_law_905 rfl ?_
    refine G.iconst (v := (3 : Int32)) C dL_law_907 (by decide) ?_
    refine G.iadd C dL_law_908 ?_
    obtain ⟨hg_217, h⟩ := gd_ex h
    refine G.sld C hX hbl hbA hg_217 dL_law_909 ?_
    refine G.if_eq (tgt := 917) C dL_law_910 (by decide) (fun hc => ?_) (fun hc => ?_)
    · have h := it_t h hc
      refine G.iconst (v := (0 : Int32)) C dL_law_917 (by decide) ?_
      obtain ⟨v_220, M_219, hv_218, h⟩ := bd2_ex h
      refine G.callV (rest := []) C (s_X10_served_67 (hasM hE)  hv_218) ⟨tg_1754, tg_103, ok_X10_served, Nat.le_of_ble_eq_true rfl, Nat.le_of_ble_eq_true rfl⟩ tg_1751 tg_1752 tg_1753 (sm_67 (hasM hE)) rfl rfl (Nat.le_of_ble_eq_true rfl) dL_law_918 ⟨by show _ ≤ 600128; omega, by show _ ≤ 7301098; omega⟩ ?_
      refine G.istore (L' := [(6, .int v_220), (5, .int v_212), (0, .ref b), (1, .ref (eA E 0)), (2, .ref (eA E 67)), (3, .ref (eA E 120)), (4, .int x4)]) C dL_law_921 rfl (by decide) rfl ?_
      refine G.aload_n C 4 dL_law_923 rfl rfl ?_
      obtain ⟨v_222, hv_221, h⟩ := bd_ex h
      refine G.callV (rest := []) C (s_X10_thrown_67 (hasM hE)  hv_221) ⟨tg_1585, tg_103, ok_X10_thrown, Nat.le_of_ble_eq_true rfl, Nat.le_of_ble_eq_true rfl⟩ tg_1582 tg_1583 tg_1584 (sm_67 (hasM hE)) rfl rfl (Nat.le_of_ble_eq_true rfl) dL_law_924 ⟨by show _ ≤ 600128; omega, by show _ ≤ 7301098; omega⟩ ?_
      refine G.iload C 1 dL_law_927 rfl ?_
      refine G.icmp_eq (tgt := 934) C dL_law_929 (by decide) (fun hc => ?_) (fun hc => ?_)
      · have h := it_t h hc
        refine G.iload C 1 dL_law_934 rfl ?_
        refine G.if_ne (tgt := 951) C dL_law_936 (by decide) (fun hc => ?_) (fun hc => ?_)
        · have h := it_f h hc
          refine G.goto (tgt := 2798) C dL_law_951 (by decide) ?_
          obtain ⟨x4_223, ex4_223, h⟩ := ltv_ex h
          refine G.iinc (L' := [(4, .int x4_223), (6, .int v_220), (5, .int v_212), (0, .ref b), (1, .ref (eA E 0)), (2, .ref (eA E 67)), (3, .ref (eA E 120))]) C 6 dL_law_2798 rfl (ex4_223.trans rfl) (by decide) rfl ?_
          refine G.goto (tgt := 23) C dL_law_2801 (by decide) ?_
          exact G.sub [3, 4, 5, 6, 0] rfl (hk _ _ _ _ (by omega) (by omega) h)
        · have h := it_t h hc
          refine G.aload_n C 5 dL_law_939 rfl rfl ?_
          refine G.iconst (v := (0 : Int32)) C dL_law_940 (by decide) ?_
          refine G.aJ (j := 0) C (sa_120 hE) (by decide) (by decide) dL_law_941 ?_
          refine G.iload C 0 dL_law_942 rfl ?_
          refine G.i2l (v := v_220.toInt64) C dL_law_944 rfl ?_
          refine G.lcmp C dL_law_945 (G.if_eq (tgt := 951) C dL_law_946 (by decide) (fun hc => ?_) (fun hc => ?_))
          · have h := it_t h (lgc_eq.mp hc)
            refine G.goto (tgt := 2798) C dL_law_951 (by decide) ?_
            obtain ⟨x4_224, ex4_224, h⟩ := ltv_ex h
            refine G.iinc (L' := [(4, .int x4_224), (6, .int v_220), (5, .int v_212), (0, .ref b), (1, .ref (eA E 0)), (2, .ref (eA E 67)), (3, .ref (eA E 120))]) C 6 dL_law_2798 rfl (ex4_224.trans rfl) (by decide) rfl ?_
            refine G.goto (tgt := 23) C dL_law_2801 (by decide) ?_
            exact G.sub [3, 4, 5, 6, 0] rfl (hk _ _ _ _ (by omega) (by omega) h)
          · have h := it_f h ((not_congr lgc_eq).mp hc)
            refine G.iconst (v := (0 : Int32)) C dL_law_949 (by decide) ?_
            cases h
      · have h := it_f h hc
        refine G.iconst (v := (0 : Int32)) C dL_law_932 (by decide) ?_
        cases h
    · have h := it_f h hc
      refine G.iconst (v := (1 : Int32)) C dL_law_913 (by decide) ?_
      refine G.goto (tgt := 918) C dL_law_914 (by decide) ?_
      obtain ⟨v_227, M_226, hv_225, h⟩ := bd2_ex h
      refine G.callV (rest := []) C (s_X10_served_67 (hasM hE)  hv_225) ⟨tg_1754, tg_103, ok_X10_served, Nat.le_of_ble_eq_true rfl, Nat.le_of_ble_eq_true rfl⟩ tg_1751 tg_1752 tg_1753 (sm_67 (hasM hE)) rfl rfl (Nat.le_of_ble_eq_true rfl) dL_law_918 ⟨by show _ ≤ 600128; omega, by show _ ≤ 7301098; omega⟩ ?_
      refine G.istore (L' := [(6, .int v_227), (5, .int v_212), (0, .ref b), (1, .ref (eA E 0)), (2, .ref (eA E 67)), (3, .ref (eA E 120)), (4, .int x4)]) C dL_law_921 rfl (by decide) rfl ?_
      refine G.aload_n C 4 dL_law_923 rfl rfl ?_
      obtain ⟨v_229, hv_228, h⟩ := bd_ex h
      refine G.callV (rest := []) C (s_X10_thrown_67 (hasM hE)  hv_228) ⟨tg_1585, tg_103, ok_X10_thrown, Nat.le_of_ble_eq_true rfl, Nat.le_of_ble_eq_true rfl⟩ tg_1582 tg_1583 tg_1584 (sm_67 (hasM hE)) rfl rfl (Nat.le_of_ble_eq_true rfl) dL_law_924 ⟨by show _ ≤ 600128; omega, by show _ ≤ 7301098; omega⟩ ?_
      refine G.iload C 1 dL_law_927 rfl ?_
      refine G.icmp_eq (tgt := 934) C dL_law_929 (by decide) (fun hc => ?_) (fun hc => ?_)
      · have h := it_t h hc
        refine G.iload C 1 dL_law_934 rfl ?_
        refine G.if_ne (tgt := 951) C dL_law_936 (by decide) (fun hc => ?_) (fun hc => ?_)
        · have h := it_f h hc
          refine G.goto (tgt := 2798) C dL_law_951 (by decide) ?_
          obtain ⟨x4_230, ex4_230, h⟩ := ltv_ex h
          refine G.iinc (L' := [(4, .int x4_230), (6, .int v_227), (5, .int v_212), (0, .ref b), (1, .ref (eA E 0)), (2, .ref (eA E 67)), (3, .ref (eA E 120))]) C 6 dL_law_2798 rfl (ex4_230.trans rfl) (by decide) rfl ?_
          refine G.goto (tgt := 23) C dL_law_2801 (by decide) ?_
          exact G.sub [3, 4, 5, 6, 0] rfl (hk _ _ _ _ (by omega) (by omega) h)
        · have h := it_t h hc
          refine G.aload_n C 5 dL_law_939 rfl rfl ?_
          refine G.iconst (v := (0 : Int32)) C dL_law_940 (by decide) ?_
          refine G.aJ (j := 0) C (sa_120 hE) (by decide) (by decide) dL_law_941 ?_
          refine G.iload C 0 dL_law_942 rfl ?_
          refine G.i2l (v := v_227.toInt64) C dL_law_944 rfl ?_
          refine G.lcmp C dL_law_945 (G.if_eq (tgt := 951) C dL_law_946 (by decide) (fun hc => ?_) (fun hc => ?_))
          · have h := it_t h (lgc_eq.mp hc)
            refine G.goto (tgt := 2798) C dL_law_951 (by decide) ?_
            obtain ⟨x4_231, ex4_231, h⟩ := ltv_ex h
            refine G.iinc (L' := [(4, .int x4_231), (6, .int v_227), (5, .int v_212), (0, .ref b), (1, .ref (eA E 0)), (2, .ref (eA E 67)), (3, .ref (eA E 120))]) C 6 dL_law_2798 rfl (ex4_231.trans rfl) (by decide) rfl ?_
            refine G.goto (tgt := 23) C dL_law_2801 (by decide) ?_
            exact G.sub [3, 4, 5, 6, 0] rfl (hk _ _ _ _ (by omega) (by omega) h)
          · have h := it_f h ((not_congr lgc_eq).mp hc)
            refine G.iconst (v := (0 : Int32)) C dL_law_949 (by decide) ?_
            cases h
      · have h := it_f h hc
        refine G.iconst (v := (0 : Int32)) C dL_law_932 (by decide) ?_
        cases h
def bb_L_law_954 (xL : Nat) (xs : Nat → Int32) (k_23 : Int32 → Mm → Option Unit) (x4 : Int32) (M : Mm) : Option Unit := gd (inb (x4 + (1 : Int32)) xL) (gd (inb (x4 + (2 : Int32)) xL) (bd2 (fw_L_bites_0_120 (xs (ix (x4 + (1 : Int32)))) (xs (ix (x4 + (2 : Int32)))) M) fun v_234 M_235 => gd (inb (x4 + (1 : Int32)) xL) (gd (inb (x4 + (2 : Int32)) xL) (bd2 (f_X10_bites_67 (xs (ix (x4 + (1 : Int32)))) (xs (ix (x4 + (2 : Int32)))) M_235) fun v_241 M_240 => bd (f_X10_thrown_67 M_240) fun v_243 => if v_243 = v_234 then (if v_234 = 0 then (if (M_240.2 120 0) = (v_241.toInt64) then (ltv (x4 + (6 : Int32)) fun x4_245 => k_23 x4_245 M_240) else (none)) else (ltv (x4 + (6 : Int32)) fun x4_244 => k_23 x4_244 M_240)) else (none)))))
set_option maxHeartbeats 4000000 in
set_option maxRecDepth 100000 in
theorem gb_L_law_954 {b xL n cl sl : Nat} {xs : Nat → Int32} {k_23 : Int32 → Mm → Option Unit} {x4 : Int32} {M : Mm} (hE : Has shA (eH E)) (hl : l.stackTraces = false) (C : Cx RL cL_law 8 p room_1 s m #[Value.ref b] meth c E) (hr : meth.sig.returnType = ret) (hes : eS E = s.heap.size) (hX : va_X b xL xs s s.heap) (hbl : b < s.heap.size) (hbA : ¬ eF E b) (hb : cl + (n + 1) ≤ 1000) (hsb : sl + 6 * (n + 1) ≤ 10000) (hk : ∀ (x4 : Int32) (M : Mm) (cl sl : Nat), cl + n ≤ 1000 → sl + 6 * n ≤ 10000 → k_23 x4 M = some () → G p l e room_1 s m #[Value.ref b] below meth c E 8 cl sl (lw_Z below #[Value.ref b] s) 23 [(0, .ref b), (1, .ref (eA E 0)), (2, .ref (eA E 67)), (3, .ref (eA E 120)), (4, .int x4)] [] M) (h : bb_L_law_954 xL xs k_23 x4 M = some ()) : G p l e room_1 s m #[Value.ref b] below meth c E 8 cl sl (lw_Z below #[Value.ref b] s) 954 [(0, .ref b), (1, .ref (eA E 0)), (2, .ref (eA E 67)), (3, .ref (eA E 120)), (4, .int x4)] [] M := by
  unfold bb_L_law_954 at h
  refine G.aload_n C 1 dL_law_954 rfl rfl ?_
  refine G.aload_n C 0 dL_law_955 rfl rfl ?_
  refine G.iload C 4 dL_law_956 rfl ?_
  refine G.iconst (v := (1 : Int32)) C dL_law_958 (by decide) ?_
  refine G.iadd C dL_law_959 ?_
  obtain ⟨hg_232, h⟩ := gd_ex h
  refine G.sld C hX hbl hbA hg_232 dL_law_960 ?_
  refine G.aload_n C 0 dL_law_961 rfl rfl ?_
  refine G.iload C 4 dL_law_962 rfl ?_
  refine G.iconst (v := (2 : Int32)) C dL_law_964 (by decide) ?_
  refine G.iadd C dL_law_965 ?_
  obtain ⟨hg_233, h⟩ := gd_ex h
  refine G.sld C hX hbl hbA hg_233 dL_law_966 ?_
  refine G.aload_n C 3 dL_law_967 rfl rfl ?_
  obtain ⟨v_234, M_235, hv_236, h⟩ := bd2_ex h
  refine G.callSB (rest := []) C (sw_L_bites_0_120 hl hE hv_236) ⟨tg_1016, tg_89, ok_L_bites, Nat.le_of_ble_eq_true rfl, Nat.le_of_ble_eq_true rfl⟩ tg_1014 tg_1015 rfl (Nat.le_of_ble_eq_true rfl) dL_law_968 ⟨show cl + 1 ≤ 600128 by omega, show sl + 6 ≤ 7301098 by omega⟩ ?_
  refine G.istore (L' := [(5, .int v_234), (0, .ref b), (1, .ref (eA E 0)), (2, .ref (eA E 67)), (3, .ref (eA E 120)), (4, .int x4)]) C dL_law_971 rfl (by decide) rfl ?_
  refine G.aload_n C 3 dL_law_973 rfl rfl ?_
  refine G.aload_n C 1 dL_law_974 rfl rfl ?_
  refine G.iload C 5 dL_law_975 rfl ?_
  refine G.iconst (v := (1 : Int32)) C dL_law_977 (by decide) ?_
  refine G.iadd C dL_law_978 ?_
  obtain ⟨hg_237, h⟩ := gd_ex h
  refine G.sld C hX hbl hbA hg_237 dL_law_979 ?_
  refine G.aload_n C 1 dL_law_980 rfl rfl ?_
  refine G.iload C 5 dL_law_981 rfl ?_
  refine G.iconst (v := (2 : Int32)) C dL_law_983 (by decide) ?_
  refine G.iadd C dL_law_984 ?_
  obtain ⟨hg_238, h⟩ := gd_ex h
  refine G.sld C hX hbl hbA hg_238 dL_law_985 ?_
  obtain ⟨v_241, M_240, hv_239, h⟩ := bd2_ex h
  refine G.callV (rest := []) C (s_X10_bites_67 (hasM hE)  hv_239) ⟨tg_1758, tg_103, ok_X10_bites, Nat.le_of_ble_eq_true rfl, Nat.le_of_ble_eq_true rfl⟩ tg_1755 tg_1756 tg_1757 (sm_67 (hasM hE)) rfl rfl (Nat.le_of_ble_eq_true rfl) dL_law_986 ⟨by show _ ≤ 600128; omega, by show _ ≤ 7301098; omega⟩ ?_
  refine G.istore (L' := [(6, .int v_241), (5, .int v_234), (0, .ref b), (1, .ref (eA E 0)), (2, .ref (eA E 67)), (3, .ref (eA E 120)), (4, .int x4)]) C dL_law_989 rfl (by decide) rfl ?_
  refine G.aload_n C 4 dL_law_991 rfl rfl ?_
  obtain ⟨v_243, hv_242, h⟩ := bd_ex h
  refine G.callV (rest := []) C (s_X10_thrown_67 (hasM hE)  hv_242) ⟨tg_1585, tg_103, ok_X10_thrown, Nat.le_of_ble_eq_true rfl, Nat.le_of_ble_eq_true rfl⟩ tg_1582 tg_1583 tg_1584 (sm_67 (hasM hE)) rfl rfl (Nat.le_of_ble_eq_true rfl) dL_law_992 ⟨by show _ ≤ 600128; omega, by show _ ≤ 7301098; omega⟩ ?_
  refine G.iload C 1 dL_law_995 rfl ?_
  refine G.icmp_eq (tgt := 1002) C dL_law_997 (by decide) (fun hc => ?_) (fun hc => ?_)
  · have h := it_t h hc
    refine G.iload C 1 dL_law_1002 rfl ?_
    refine G.if_ne (tgt := 1019) C dL_law_1004 (by decide) (fun hc => ?_) (fun hc => ?_)
    · have h := it_f h hc
      refine G.goto (tgt := 2798) C dL_law_1019 (by decide) ?_
      obtain ⟨x4_244, ex4_244, h⟩ := ltv_ex h
      refine G.iinc (L' := [(4, .int x4_244), (6, .int v_241), (5, .int v_234), (0, .ref b), (1, .ref (eA E 0)), (2, .ref (eA E 67)), (3, .ref (eA E 120))]) C 6 dL_law_2798 rfl (ex4_244.trans rfl) (by decide) rfl ?_
      refine G.goto (tgt := 23) C dL_law_2801 (by decide) ?_
      exact G.sub [3, 4, 5, 6, 0] rfl (hk _ _ _ _ (by omega) (by omega) h)
    · have h := it_t h hc
      refine G.aload_n C 5 dL_law_1007 rfl rfl ?_
      refine G.iconst (v := (0 : Int32)) C dL_law_1008 (by decide) ?_
      refine G.aJ (j := 0) C (sa_120 hE) (by decide) (by decide) dL_law_1009 ?_
      refine G.iload C 0 dL_law_1010 rfl ?_
      refine G.i2l (v := v_241.toInt64) C dL_law_1012 rfl ?_
      refine G.lcmp C dL_law_1013 (G.if_eq (tgt := 1019) C dL_law_1014 (by decide) (fun hc => ?_) (fun hc => ?_))
      · have h := it_t h (lgc_eq.mp hc)
        refine G.goto (tgt := 2798) C dL_law_1019 (by decide) ?_
        obtain ⟨x4_245, ex4_245, h⟩ := ltv_ex h
        refine G.iinc (L' := [(4, .int x4_245), (6, .int v_241), (5, .int v_234), (0, .ref b), (1, .ref (eA E 0)), (2, .ref (eA E 67)), (3, .ref (eA E 120))]) C 6 dL_law_2798 rfl (ex4_245.trans rfl) (by decide) rfl ?_
        refine G.goto (tgt := 23) C dL_law_2801 (by decide) ?_
        exact G.sub [3, 4, 5, 6, 0] rfl (hk _ _ _ _ (by omega) (by omega) h)
      · have h := it_f h ((not_congr lgc_eq).mp hc)
        refine G.iconst (v := (0 : Int32)) C dL_law_1017 (by decide) ?_
        cases h
  · have h := it_f h hc
    refine G.iconst (v := (0 : Int32)) C dL_law_1000 (by decide) ?_
    cases h
def bb_L_law_1022 (xL : Nat) (xs : Nat → Int32) (k_23 : Int32 → Mm → Option Unit) (x4 : Int32) (M : Mm) : Option Unit := gd (inb (x4 + (1 : Int32)) xL) (bd2 (fw_L_lines_0_120 (xs (ix (x4 + (1 : Int32)))) M) fun v_247 M_248 => gd (inb (x4 + (1 : Int32)) xL) (bd2 (f_X10_lines_67 (xs (ix (x4 + (1 : Int32)))) M_248) fun v_253 M_252 => bd (f_X10_thrown_67 M_252) fun v_255 => if v_255 = v_247 then (if v_247 = 0 then (if (M_252.2 120 0) = v_253 then (ltv (x4 + (6 : Int32)) fun x4_257 => k_23 x4_257 M_252) else (none)) else (ltv (x4 + (6 : Int32)) fun x4_256 => k_23 x4_256 M_252)) else (none)))
set_option maxHeartbeats 4000000 in
set_option maxRecDepth 100000 in
theorem gb_L_law_1022 {b xL n cl sl : Nat} {xs : Nat → Int32} {k_23 : Int32 → Mm → Option Unit} {x4 : Int32} {M : Mm} (hE : Has shA (eH E)) (hl : l.stackTraces = false) (C : Cx RL cL_law 8 p room_1 s m #[Value.ref b] meth c E) (hr : meth.sig.returnType = ret) (hes : eS E = s.heap.size) (hX : va_X b xL xs s s.heap) (hbl : b < s.heap.size) (hbA : ¬ eF E b) (hb : cl + (n + 1) ≤ 1000) (hsb : sl + 6 * (n + 1) ≤ 10000) (hk : ∀ (x4 : Int32) (M : Mm) (cl sl : Nat), cl + n ≤ 1000 → sl + 6 * n ≤ 10000 → k_23 x4 M = some () → G p l e room_1 s m #[Value.ref b] below meth c E 8 cl sl (lw_Z below #[Value.ref b] s) 23 [(0, .ref b), (1, .ref (eA E 0)), (2, .ref (eA E 67)), (3, .ref (eA E 120)), (4, .int x4)] [] M) (h : bb_L_law_1022 xL xs k_23 x4 M = some ()) : G p l e room_1 s m #[Value.ref b] below meth c E 8 cl sl (lw_Z below #[Value.ref b] s) 1022 [(0, .ref b), (1, .ref (eA E 0)), (2, .ref (eA E 67)), (3, .ref (eA E 120)), (4, .int x4)] [] M := by
  unfold bb_L_law_1022 at h
  refine G.aload_n C 1 dL_law_1022 rfl rfl ?_
  refine G.aload_n C 0 dL_law_1023 rfl rfl ?_
  refine G.iload C 4 dL_law_1024 rfl ?_
  refine G.iconst (v := (1 : Int32)) C dL_law_1026 (by decide) ?_
  refine G.iadd C dL_law_1027 ?_
  obtain ⟨hg_246, h⟩ := gd_ex h
  refine G.sld C hX hbl hbA hg_246 dL_law_1028 ?_
  refine G.aload_n C 3 dL_law_1029 rfl rfl ?_
  obtain ⟨v_247, M_248, hv_249, h⟩ := bd2_ex h
  refine G.callSB (rest := []) C (sw_L_lines_0_120 hl hE hv_249) ⟨tg_1032, tg_89, ok_L_lines, Nat.le_of_ble_eq_true rfl, Nat.le_of_ble_eq_true rfl⟩ tg_1030 tg_1031 rfl (Nat.le_of_ble_eq_true rfl) dL_law_1030 ⟨show cl + 1 ≤ 600128 by omega, show sl + 6 ≤ 7301098 by omega⟩ ?_
  refine G.istore (L' := [(5, .int v_247), (0, .ref b), (1, .ref (eA E 0)), (2, .ref (eA E 67)), (3, .ref (eA E 120)), (4, .int x4)]) C dL_law_1033 rfl (by decide) rfl ?_
  refine G.aload_n C 3 dL_law_1035 rfl rfl ?_
  refine G.aload_n C 1 dL_law_1036 rfl rfl ?_
  refine G.iload C 5 dL_law_1037 rfl ?_
  refine G.iconst (v := (1 : Int32)) C dL_law_1039 (by decide) ?_
  refine G.iadd C dL_law_1040 ?_
  obtain ⟨hg_250, h⟩ := gd_ex h
  refine G.sld C hX hbl hbA hg_250 dL_law_1041 ?_
  obtain ⟨v_253, M_252, hv_251, h⟩ := bd2_ex h
  refine G.callV (rest := []) C (s_X10_lines_67 (hasM hE)  hv_251) ⟨tg_1777, tg_103, ok_X10_lines, Nat.le_of_ble_eq_true rfl, Nat.le_of_ble_eq_true rfl⟩ tg_1774 tg_1775 tg_1776 (sm_67 (hasM hE)) rfl rfl (Nat.le_of_ble_eq_true rfl) dL_law_1042 ⟨by show _ ≤ 600128; omega, by show _ ≤ 7301098; omega⟩ ?_
  refine G.lstore (L' := [(6, .long v_253), (5, .int v_247), (0, .ref b), (1, .ref (eA E 0)), (2, .ref (eA E 67)), (3, .ref (eA E 120)), (4, .int x4)]) C dL_law_1045 rfl (by decide) rfl ?_
  refine G.aload_n C 4 dL_law_1047 rfl rfl ?_
  obtain ⟨v_255, hv_254, h⟩ := bd_ex h
  refine G.callV (rest := []) C (s_X10_thrown_67 (hasM hE)  hv_254) ⟨tg_1585, tg_103, ok_X10_thrown, Nat.le_of_ble_eq_true rfl, Nat.le_of_ble_eq_true rfl⟩ tg_1582 tg_1583 tg_1584 (sm_67 (hasM hE)) rfl rfl (Nat.le_of_ble_eq_true rfl) dL_law_1048 ⟨by show _ ≤ 600128; omega, by show _ ≤ 7301098; omega⟩ ?_
  refine G.iload C 1 dL_law_1051 rfl ?_
  refine G.icmp_eq (tgt := 1058) C dL_law_1053 (by decide) (fun hc => ?_) (fun hc => ?_)
  · have h := it_t h hc
    refine G.iload C 1 dL_law_1058 rfl ?_
    refine G.if_ne (tgt := 1074) C dL_law_1060 (by decide) (fun hc => ?_) (fun hc => ?_)
    · have h := it_f h hc
      refine G.goto (tgt := 2798) C dL_law_1074 (by decide) ?_
      obtain ⟨x4_256, ex4_256, h⟩ := ltv_ex h
      refine G.iinc (L' := [(4, .int x4_256), (6, .long v_253), (5, .int v_247), (0, .ref b), (1, .ref (eA E 0)), (2, .ref (eA E 67)), (3, .ref (eA E 120))]) C 6 dL_law_2798 rfl (ex4_256.trans rfl) (by decide) rfl ?_
      refine G.goto (tgt := 23) C dL_law_2801 (by decide) ?_
      exact G.sub [3, 4, 5, 6, 0] rfl (hk _ _ _ _ (by omega) (by omega) h)
    · have h := it_t h hc
      refine G.aload_n C 5 dL_law_1063 rfl rfl ?_
      refine G.iconst (v := (0 : Int32)) C dL_law_1064 (by decide) ?_
      refine G.aJ (j := 0) C (sa_120 hE) (by decide) (by decide) dL_law_1065 ?_
      refine G.lload C 0 dL_law_1066 rfl ?_
      refine G.lcmp C dL_law_1068 (G.if_eq (tgt := 1074) C dL_law_1069 (by decide) (fun hc => ?_) (fun hc => ?_))
      · have h := it_t h (lgc_eq.mp hc)
        refine G.goto (tgt := 2798) C dL_law_1074 (by decide) ?_
        obtain ⟨x4_257, ex4_257, h⟩ := ltv_ex h
        refine G.iinc (L' := [(4, .int x4_257), (6, .long v_253), (5, .int v_247), (0, .ref b), (1, .ref (eA E 0)), (2, .ref (eA E 67)), (3, .ref (eA E 120))]) C 6 dL_law_2798 rfl (ex4_257.trans rfl) (by decide) rfl ?_
        refine G.goto (tgt := 23) C dL_law_2801 (by decide) ?_
        exact G.sub [3, 4, 5, 6, 0] rfl (hk _ _ _ _ (by omega) (by omega) h)
      · have h := it_f h ((not_congr lgc_eq).mp hc)
        refine G.iconst (v := (0 : Int32)) C dL_law_1072 (by decide) ?_
        cases h
  · have h := it_f h hc
    refine G.iconst (v := (0 : Int32)) C dL_law_1056 (by decide) ?_
    cases h
def bb_L_law_1077 (xL : Nat) (xs : Nat → Int32) (k_23 : Int32 → Mm → Option Unit) (x4 : Int32) (M : Mm) : Option Unit := gd (inb (x4 + (1 : Int32)) xL) (bd2 (fw_L_begin_0 (xs (ix (x4 + (1 : Int32)))) M) fun v_259 M_260 => gd (inb (x4 + (1 : Int32)) xL) (bd (f_X10_begin_67 (xs (ix (x4 + (1 : Int32)))) M_260) fun M_264 => bd (f_X10_thrown_67 M_264) fun v_266 => if v_266 = v_259 then (ltv (x4 + (6 : Int32)) fun x4_267 => k_23 x4_267 M_264) else (none)))
set_option maxHeartbeats 4000000 in
set_option maxRecDepth 100000 in
theorem gb_L_law_1077 {b xL n cl sl : Nat} {xs : Nat → Int32} {k_23 : Int32 → Mm → Option Unit} {x4 : Int32} {M : Mm} (hE : Has shA (eH E)) (hl : l.stackTraces = false) (C : Cx RL cL_law 8 p room_1 s m #[Value.ref b] meth c E) (hr : meth.sig.returnType = ret) (hes : eS E = s.heap.size) (hX : va_X b xL xs s s.heap) (hbl : b < s.heap.size) (hbA : ¬ eF E b) (hb : cl + (n + 1) ≤ 1000) (hsb : sl + 6 * (n + 1) ≤ 10000) (hk : ∀ (x4 : Int32) (M : Mm) (cl sl : Nat), cl + n ≤ 1000 → sl + 6 * n ≤ 10000 → k_23 x4 M = some () → G p l e room_1 s m #[Value.ref b] below meth c E 8 cl sl (lw_Z below #[Value.ref b] s) 23 [(0, .ref b), (1, .ref (eA E 0)), (2, .ref (eA E 67)), (3, .ref (eA E 120)), (4, .int x4)] [] M) (h : bb_L_law_1077 xL xs k_23 x4 M = some ()) : G p l e room_1 s m #[Value.ref b] below meth c E 8 cl sl (lw_Z below #[Value.ref b] s) 1077 [(0, .ref b), (1, .ref (eA E 0)), (2, .ref (eA E 67)), (3, .ref (eA E 120)), (4, .int x4)] [] M := by
  unfold bb_L_law_1077 at h
  refine G.aload_n C 1 dL_law_1077 rfl rfl ?_
  refine G.aload_n C 0 dL_law_1078 rfl rfl ?_
  refine G.iload C 4 dL_law_1079 rfl ?_
  refine G.iconst (v := (1 : Int32)) C dL_law_1081 (by decide) ?_
  refine G.iadd C dL_law_1082 ?_
  obtain ⟨hg_258, h⟩ := gd_ex h
  refine G.sld C hX hbl hbA hg_258 dL_law_1083 ?_
  obtain ⟨v_259, M_260, hv_261, h⟩ := bd2_ex h
  refine G.callSB (rest := []) C (sw_L_begin_0 hl hE hv_261) ⟨tg_1039, tg_89, ok_L_begin, Nat.le_of_ble_eq_true rfl, Nat.le_of_ble_eq_true rfl⟩ tg_1037 tg_1038 rfl (Nat.le_of_ble_eq_true rfl) dL_law_1084 ⟨show cl + 1 ≤ 600128 by omega, show sl + 6 ≤ 7301098 by omega⟩ ?_
  refine G.istore (L' := [(5, .int v_259), (0, .ref b), (1, .ref (eA E 0)), (2, .ref (eA E 67)), (3, .ref (eA E 120)), (4, .int x4)]) C dL_law_1087 rfl (by decide) rfl ?_
  refine G.aload_n C 3 dL_law_1089 rfl rfl ?_
  refine G.aload_n C 1 dL_law_1090 rfl rfl ?_
  refine G.iload C 5 dL_law_1091 rfl ?_
  refine G.iconst (v := (1 : Int32)) C dL_law_1093 (by decide) ?_
  refine G.iadd C dL_law_1094 ?_
  obtain ⟨hg_262, h⟩ := gd_ex h
  refine G.sld C hX hbl hbA hg_262 dL_law_1095 ?_
  obtain ⟨M_264, hv_263, h⟩ := bd_ex h
  refine G.callV (rest := []) C (s_X10_begin_67 (hasM hE)  hv_263) ⟨tg_1786, tg_103, ok_X10_begin, Nat.le_of_ble_eq_true rfl, Nat.le_of_ble_eq_true rfl⟩ tg_1783 tg_1784 tg_1785 (sm_67 (hasM hE)) rfl rfl (Nat.le_of_ble_eq_true rfl) dL_law_1096 ⟨by show _ ≤ 600128; omega, by show _ ≤ 7301098; omega⟩ ?_
  refine G.aload_n C 3 dL_law_1099 rfl rfl ?_
  obtain ⟨v_266, hv_265, h⟩ := bd_ex h
  refine G.callV (rest := []) C (s_X10_thrown_67 (hasM hE)  hv_265) ⟨tg_1585, tg_103, ok_X10_thrown, Nat.le_of_ble_eq_true rfl, Nat.le_of_ble_eq_true rfl⟩ tg_1582 tg_1583 tg_1584 (sm_67 (hasM hE)) rfl rfl (Nat.le_of_ble_eq_true rfl) dL_law_1100 ⟨by show _ ≤ 600128; omega, by show _ ≤ 7301098; omega⟩ ?_
  refine G.iload C 0 dL_law_1103 rfl ?_
  refine G.icmp_eq (tgt := 1110) C dL_law_1105 (by decide) (fun hc => ?_) (fun hc => ?_)
  · have h := it_t h hc
    refine G.goto (tgt := 2798) C dL_law_1110 (by decide) ?_
    obtain ⟨x4_267, ex4_267, h⟩ := ltv_ex h
    refine G.iinc (L' := [(4, .int x4_267), (5, .int v_259), (0, .ref b), (1, .ref (eA E 0)), (2, .ref (eA E 67)), (3, .ref (eA E 120))]) C 5 dL_law_2798 rfl (ex4_267.trans rfl) (by decide) rfl ?_
    refine G.goto (tgt := 23) C dL_law_2801 (by decide) ?_
    exact G.sub [2, 3, 4, 5, 0] rfl (hk _ _ _ _ (by omega) (by omega) h)
  · have h := it_f h hc
    refine G.iconst (v := (0 : Int32)) C dL_law_1108 (by decide) ?_
    cases h
def bb_L_law_1113 (xL : Nat) (xs : Nat → Int32) (k_23 : Int32 → Mm → Option Unit) (x4 : Int32) (M : Mm) : Option Unit := gd (inb (x4 + (1 : Int32)) xL) (bd2 (fw_L_blow_0_120 (xs (ix (x4 + (1 : Int32)))) M) fun v_269 M_270 => gd (inb (x4 + (1 : Int32)) xL) (bd2 (f_X10_blow_67 (xs (ix (x4 + (1 : Int32)))) M_270) fun v_275 M_274 => bd (f_X10_thrown_67 M_274) fun v_277 => if v_277 = v_269 then (if v_269 = 0 then (if (M_274.2 120 0) = (v_275.toInt64) then (ltv (x4 + (6 : Int32)) fun x4_279 => k_23 x4_279 M_274) else (none)) else (ltv (x4 + (6 : Int32)) fun x4_278 => k_23 x4_278 M_274)) else (none)))
set_option maxHeartbeats 4000000 in
set_option maxRecDepth 100000 in
theorem gb_L_law_1113 {b xL n cl sl : Nat} {xs : Nat → Int32} {k_23 : Int32 → Mm → Option Unit} {x4 : Int32} {M : Mm} (hE : Has shA (eH E)) (hl : l.stackTraces = false) (C : Cx RL cL_law 8 p room_1 s m #[Value.ref b] meth c E) (hr : meth.sig.returnType = ret) (hes : eS E = s.heap.size) (hX : va_X b xL xs s s.heap) (hbl : b < s.heap.size) (hbA : ¬ eF E b) (hb : cl + (n + 1) ≤ 1000) (hsb : sl + 6 * (n + 1) ≤ 10000) (hk : ∀ (x4 : Int32) (M : Mm) (cl sl : Nat), cl + n ≤ 1000 → sl + 6 * n ≤ 10000 → k_23 x4 M = some () → G p l e room_1 s m #[Value.ref b] below meth c E 8 cl sl (lw_Z below #[Value.ref b] s) 23 [(0, .ref b), (1, .ref (eA E 0)), (2, .ref (eA E 67)), (3, .ref (eA E 120)), (4, .int x4)] [] M) (h : bb_L_law_1113 xL xs k_23 x4 M = some ()) : G p l e room_1 s m #[Value.ref b] below meth c E 8 cl sl (lw_Z below #[Value.ref b] s) 1113 [(0, .ref b), (1, .ref (eA E 0)), (2, .ref (eA E 67)), (3, .ref (eA E 120)), (4, .int x4)] [] M := by
  unfold bb_L_law_1113 at h
  refine G.aload_n C 1 dL_law_1113 rfl rfl ?_
  refine G.aload_n C 0 dL_law_1114 rfl rfl ?_
  refine G.iload C 4 dL_law_1115 rfl ?_
  refine G.iconst (v := (1 : Int32)) C dL_law_1117 (by decide) ?_
  refine G.iadd C dL_law_1118 ?_
  obtain ⟨hg_268, h⟩ := gd_ex h
  refine G.sld C hX hbl hbA hg_268 dL_law_1119 ?_
  refine G.aload_n C 3 dL_law_1120 rfl rfl ?_
  obtain ⟨v_269, M_270, hv_271, h⟩ := bd2_ex h
  refine G.callSB (rest := []) C (sw_L_blow_0_120 hl hE hv_271) ⟨tg_1050, tg_89, ok_L_blow, Nat.le_of_ble_eq_true rfl, Nat.le_of_ble_eq_true rfl⟩ tg_1048 tg_1049 rfl (Nat.le_of_ble_eq_true rfl) dL_law_1121 ⟨show cl + 1 ≤ 600128 by omega, show sl + 6 ≤ 7301098 by omega⟩ ?_
  refine G.istore (L' := [(5, .int v_269), (0, .ref b), (1, .ref (eA E 0)), (2, .ref (eA E 67)), (3, .ref (eA E 120)), (4, .int x4)]) C dL_law_1124 rfl (by decide) rfl ?_
  refine G.aload_n C 3 dL_law_1126 rfl rfl ?_
  refine G.aload_n C 1 dL_law_1127 rfl rfl ?_
  refine G.iload C 5 dL_law_1128 rfl ?_
  refine G.iconst (v := (1 : Int32)) C dL_law_1130 (by decide) ?_
  refine G.iadd C dL_law_1131 ?_
  obtain ⟨hg_272, h⟩ := gd_ex h
  refine G.sld C hX hbl hbA hg_272 dL_law_1132 ?_
  obtain ⟨v_275, M_274, hv_273, h⟩ := bd2_ex h
  refine G.callV (rest := []) C (s_X10_blow_67 (hasM hE)  hv_273) ⟨tg_1790, tg_103, ok_X10_blow, Nat.le_of_ble_eq_true rfl, Nat.le_of_ble_eq_true rfl⟩ tg_1787 tg_1788 tg_1789 (sm_67 (hasM hE)) rfl rfl (Nat.le_of_ble_eq_true rfl) dL_law_1133 ⟨by show _ ≤ 600128; omega, by show _ ≤ 7301098; omega⟩ ?_
  refine G.istore (L' := [(6, .int v_275), (5, .int v_269), (0, .ref b), (1, .ref (eA E 0)), (2, .ref (eA E 67)), (3, .ref (eA E 120)), (4, .int x4)]) C dL_law_1136 rfl (by decide) rfl ?_
  refine G.aload_n C 4 dL_law_1138 rfl rfl ?_
  obtain ⟨v_277, hv_276, h⟩ := bd_ex h
  refine G.callV (rest := []) C (s_X10_thrown_67 (hasM hE)  hv_276) ⟨tg_1585, tg_103, ok_X10_thrown, Nat.le_of_ble_eq_true rfl, Nat.le_of_ble_eq_true rfl⟩ tg_1582 tg_1583 tg_1584 (sm_67 (hasM hE)) rfl rfl (Nat.le_of_ble_eq_true rfl) dL_law_1139 ⟨by show _ ≤ 600128; omega, by show _ ≤ 7301098; omega⟩ ?_
  refine G.iload C 1 dL_law_1142 rfl ?_
  refine G.icmp_eq (tgt := 1149) C dL_law_1144 (by decide) (fun hc => ?_) (fun hc => ?_)
  · have h := it_t h hc
    refine G.iload C 1 dL_law_1149 rfl ?_
    refine G.if_ne (tgt := 1166) C dL_law_1151 (by decide) (fun hc => ?_) (fun hc => ?_)
    · have h := it_f h hc
      refine G.goto (tgt := 2798) C dL_law_1166 (by decide) ?_
      obtain ⟨x4_278, ex4_278, h⟩ := ltv_ex h
      refine G.iinc (L' := [(4, .int x4_278), (6, .int v_275), (5, .int v_269), (0, .ref b), (1, .ref (eA E 0)), (2, .ref (eA E 67)), (3, .ref (eA E 120))]) C 6 dL_law_2798 rfl (ex4_278.trans rfl) (by decide) rfl ?_
      refine G.goto (tgt := 23) C dL_law_2801 (by decide) ?_
      exact G.sub [3, 4, 5, 6, 0] rfl (hk _ _ _ _ (by omega) (by omega) h)
    · have h := it_t h hc
      refine G.aload_n C 5 dL_law_1154 rfl rfl ?_
      refine G.iconst (v := (0 : Int32)) C dL_law_1155 (by decide) ?_
      refine G.aJ (j := 0) C (sa_120 hE) (by decide) (by decide) dL_law_1156 ?_
      refine G.iload C 0 dL_law_1157 rfl ?_
      refine G.i2l (v := v_275.toInt64) C dL_law_1159 rfl ?_
      refine G.lcmp C dL_law_1160 (G.if_eq (tgt := 1166) C dL_law_1161 (by decide) (fun hc => ?_) (fun hc => ?_))
      · have h := it_t h (lgc_eq.mp hc)
        refine G.goto (tgt := 2798) C dL_law_1166 (by decide) ?_
        obtain ⟨x4_279, ex4_279, h⟩ := ltv_ex h
        refine G.iinc (L' := [(4, .int x4_279), (6, .int v_275), (5, .int v_269), (0, .ref b), (1, .ref (eA E 0)), (2, .ref (eA E 67)), (3, .ref (eA E 120))]) C 6 dL_law_2798 rfl (ex4_279.trans rfl) (by decide) rfl ?_
        refine G.goto (tgt := 23) C dL_law_2801 (by decide) ?_
        exact G.sub [3, 4, 5, 6, 0] rfl (hk _ _ _ _ (by omega) (by omega) h)
      · have h := it_f h ((not_congr lgc_eq).mp hc)
        refine G.iconst (v := (0 : Int32)) C dL_law_1164 (by decide) ?_
        cases h
  · have h := it_f h hc
    refine G.iconst (v := (0 : Int32)) C dL_law_1147 (by decide) ?_
    cases h
def bb_L_law_1169 (xL : Nat) (xs : Nat → Int32) (k_23 : Int32 → Mm → Option Unit) (x4 : Int32) (M : Mm) : Option Unit := gd (inb (x4 + (1 : Int32)) xL) (gd (inb (x4 + (2 : Int32)) xL) (gd (inb (x4 + (3 : Int32)) xL) (bd2 (fw_L_file_0_120 (xs (ix (x4 + (1 : Int32)))) (xs (ix (x4 + (2 : Int32)))) (xs (ix (x4 + (3 : Int32)))) M) fun v_283 M_284 => gd (inb (x4 + (1 : Int32)) xL) (gd (inb (x4 + (2 : Int32)) xL) (gd (inb (x4 + (3 : Int32)) xL) (bd2 (f_X10_file_67 (xs (ix (x4 + (1 : Int32)))) (xs (ix (x4 + (2 : Int32)))) (xs (ix (x4 + (3 : Int32)))) M_284) fun v_291 M_290 => bd (f_X10_thrown_67 M_290) fun v_293 => if v_293 = v_283 then (if v_283 = 0 then (if (M_290.2 120 0) = (v_291.toInt64) then (ltv (x4 + (6 : Int32)) fun x4_295 => k_23 x4_295 M_290) else (none)) else (ltv (x4 + (6 : Int32)) fun x4_294 => k_23 x4_294 M_290)) else (none)))))))
set_option maxHeartbeats 4000000 in
set_option maxRecDepth 100000 in
theorem gb_L_law_1169 {b xL n cl sl : Nat} {xs : Nat → Int32} {k_23 : Int32 → Mm → Option Unit} {x4 : Int32} {M : Mm} (hE : Has shA (eH E)) (hl : l.stackTraces = false) (C : Cx RL cL_law 8 p room_1 s m #[Value.ref b] meth c E) (hr : meth.sig.returnType = ret) (hes : eS E = s.heap.size) (hX : va_X b xL xs s s.heap) (hbl : b < s.heap.size) (hbA : ¬ eF E b) (hb : cl + (n + 1) ≤ 1000) (hsb : sl + 6 * (n + 1) ≤ 10000) (hk : ∀ (x4 : Int32) (M : Mm) (cl sl : Nat), cl + n ≤ 1000 → sl + 6 * n ≤ 10000 → k_23 x4 M = some () → G p l e room_1 s m #[Value.ref b] below meth c E 8 cl sl (lw_Z below #[Value.ref b] s) 23 [(0, .ref b), (1, .ref (eA E 0)), (2, .ref (eA E 67)), (3, .ref (eA E 120)), (4, .int x4)] [] M) (h : bb_L_law_1169 xL xs k_23 x4 M = some ()) : G p l e room_1 s m #[Value.ref b] below meth c E 8 cl sl (lw_Z below #[Value.ref b] s) 1169 [(0, .ref b), (1, .ref (eA E 0)), (2, .ref (eA E 67)), (3, .ref (eA E 120)), (4, .int x4)] [] M := by
  unfold bb_L_law_1169 at h
  refine G.aload_n C 1 dL_law_1169 rfl rfl ?_
  refine G.aload_n C 0 dL_law_1170 rfl rfl ?_
  refine G.iload C 4 dL_law_1171 rfl ?_
  refine G.iconst (v := (1 : Int32)) C dL_law_1173 (by decide) ?_
  refine G.iadd C dL_law_1174 ?_
  obtain ⟨hg_280, h⟩ := gd_ex h
  refine G.sld C hX hbl hbA hg_280 dL_law_1175 ?_
  refine G.aload_n C 0 dL_law_1176 rfl rfl ?_
  refine G.iload C 4 dL_law_1177 rfl ?_
  refine G.iconst (v := (2 : Int32)) C dL_law_1179 (by decide) ?_
  refine G.iadd C dL_law_1180 ?_
  obtain ⟨hg_281, h⟩ := gd_ex h
  refine G.sld C hX hbl hbA hg_281 dL_law_1181 ?_
  refine G.aload_n C 0 dL_law_1182 rfl rfl ?_
  refine G.iload C 4 dL_law_1183 rfl ?_
  refine G.iconst (v := (3 : Int32)) C dL_law_1185 (by decide) ?_
  refine G.iadd C dL_law_1186 ?_
  obtain ⟨hg_282, h⟩ := gd_ex h
  refine G.sld C hX hbl hbA hg_282 dL_law_1187 ?_
  refine G.aload_n C 3 dL_law_1188 rfl rfl ?_
  obtain ⟨v_283, M_284, hv_285, h⟩ := bd2_ex h
  refine G.callSB (rest := []) C (sw_L_file_0_120 hl hE hv_285) ⟨tg_1069, tg_89, ok_L_file, Nat.le_of_ble_eq_true rfl, Nat.le_of_ble_eq_true rfl⟩ tg_1067 tg_1068 rfl (Nat.le_of_ble_eq_true rfl) dL_law_1189 ⟨show cl + 1 ≤ 600128 by omega, show sl + 6 ≤ 7301098 by omega⟩ ?_
  refine G.istore (L' := [(5, .int v_283), (0, .ref b), (1, .ref (eA E 0)), (2, .ref (eA E 67)), (3, .ref (eA E 120)), (4, .int x4)]) C dL_law_1192 rfl (by decide) rfl ?_
  refine G.aload_n C 3 dL_law_1194 rfl rfl ?_
  refine G.aload_n C 1 dL_law_1195 rfl rfl ?_
  refine G.iload C 5 dL_law_1196 rfl ?_
  refine G.iconst (v := (1 : Int32)) C dL_law_1198 (by decide) ?_
  refine G.iadd C dL_law_1199 ?_
  obtain ⟨hg_286, h⟩ := gd_ex h
  refine G.sld C hX hbl hbA hg_286 dL_law_1200 ?_
  refine G.aload_n C 1 dL_law_1201 rfl rfl ?_
  refine G.iload C 5 dL_law_1202 rfl ?_
  refine G.iconst (v := (2 : Int32)) C dL_law_1204 (by decide) ?_
  refine G.iadd C dL_law_1205 ?_
  obtain ⟨hg_287, h⟩ := gd_ex h
  refine G.sld C hX hbl hbA hg_287 dL_law_1206 ?_
  refine G.aload_n C 1 dL_law_1207 rfl rfl ?_
  refine G.iload C 5 dL_law_1208 rfl ?_
  refine G.iconst (v := (3 : Int32)) C dL_law_1210 (by decide) ?_
  refine G.iadd C dL_law_1211 ?_
  obtain ⟨hg_288, h⟩ := gd_ex h
  refine G.sld C hX hbl hbA hg_288 dL_law_1212 ?_
  obtain ⟨v_291, M_290, hv_289, h⟩ := bd2_ex h
  refine G.callV (rest := []) C (s_X10_file_67 (hasM hE)  hv_289) ⟨tg_1798, tg_103, ok_X10_file, Nat.le_of_ble_eq_true rfl, Nat.le_of_ble_eq_true rfl⟩ tg_1795 tg_1796 tg_1797 (sm_67 (hasM hE)) rfl rfl (Nat.le_of_ble_eq_true rfl) dL_law_1213 ⟨by show _ ≤ 600128; omega, by show _ ≤ 7301098; omega⟩ ?_
  refine G.istore (L' := [(6, .int v_291), (5, .int v_283), (0, .ref b), (1, .ref (eA E 0)), (2, .ref (eA E 67)), (3, .ref (eA E 120)), (4, .int x4)]) C dL_law_1216 rfl (by decide) rfl ?_
  refine G.aload_n C 4 dL_law_1218 rfl rfl ?_
  obtain ⟨v_293, hv_292, h⟩ := bd_ex h
  refine G.callV (rest := []) C (s_X10_thrown_67 (hasM hE)  hv_292) ⟨tg_1585, tg_103, ok_X10_thrown, Nat.le_of_ble_eq_true rfl, Nat.le_of_ble_eq_true rfl⟩ tg_1582 tg_1583 tg_1584 (sm_67 (hasM hE)) rfl rfl (Nat.le_of_ble_eq_true rfl) dL_law_1219 ⟨by show _ ≤ 600128; omega, by show _ ≤ 7301098; omega⟩ ?_
  refine G.iload C 1 dL_law_1222 rfl ?_
  refine G.icmp_eq (tgt := 1229) C dL_law_1224 (by decide) (fun hc => ?_) (fun hc => ?_)
  · have h := it_t h hc
    refine G.iload C 1 dL_law_1229 rfl ?_
    refine G.if_ne (tgt := 1246) C dL_law_1231 (by decide) (fun hc => ?_) (fun hc => ?_)
    · have h := it_f h hc
      refine G.goto (tgt := 2798) C dL_law_1246 (by decide) ?_
      obtain ⟨x4_294, ex4_294, h⟩ := ltv_ex h
      refine G.iinc (L' := [(4, .int x4_294), (6, .int v_291), (5, .int v_283), (0, .ref b), (1, .ref (eA E 0)), (2, .ref (eA E 67)), (3, .ref (eA E 120))]) C 6 dL_law_2798 rfl (ex4_294.trans rfl) (by decide) rfl ?_
      refine G.goto (tgt := 23) C dL_law_2801 (by decide) ?_
      exact G.sub [3, 4, 5, 6, 0] rfl (hk _ _ _ _ (by omega) (by omega) h)
    · have h := it_t h hc
      refine G.aload_n C 5 dL_law_1234 rfl rfl ?_
      refine G.iconst (v := (0 : Int32)) C dL_law_1235 (by decide) ?_
      refine G.aJ (j := 0) C (sa_120 hE) (by decide) (by decide) dL_law_1236 ?_
      refine G.iload C 0 dL_law_1237 rfl ?_
      refine G.i2l (v := v_291.toInt64) C dL_law_1239 rfl ?_
      refine G.lcmp C dL_law_1240 (G.if_eq (tgt := 1246) C dL_law_1241 (by decide) (fun hc => ?_) (fun hc => ?_))
      · have h := it_t h (lgc_eq.mp hc)
        refine G.goto (tgt := 2798) C dL_law_1246 (by decide) ?_
        obtain ⟨x4_295, ex4_295, h⟩ := ltv_ex h
        refine G.iinc (L' := [(4, .int x4_295), (6, .int v_291), (5, .int v_283), (0, .ref b), (1, .ref (eA E 0)), (2, .ref (eA E 67)), (3, .ref (eA E 120))]) C 6 dL_law_2798 rfl (ex4_295.trans rfl) (by decide) rfl ?_
        refine G.goto (tgt := 23) C dL_law_2801 (by decide) ?_
        exact G.sub [3, 4, 5, 6, 0] rfl (hk _ _ _ _ (by omega) (by omega) h)
      · have h := it_f h ((not_congr lgc_eq).mp hc)
        refine G.iconst (v := (0 : Int32)) C dL_law_1244 (by decide) ?_
        cases h
  · have h := it_f h hc
    refine G.iconst (v := (0 : Int32)) C dL_law_1227 (by decide) ?_
    cases h
def bb_L_law_1249 (xL : Nat) (xs : Nat → Int32) (k_23 : Int32 → Mm → Option Unit) (x4 : Int32) (M : Mm) : Option Unit := bd (f_X9_steel_0 M) fun v_297 => bd2 (f_X10_steel_67 M) fun v_300 M_299 => if v_297 = v_300 then (ltv (x4 + (6 : Int32)) fun x4_301 => k_23 x4_301 M_299) else (none)
set_option maxHeartbeats 4000000 in
set_option maxRecDepth 100000 in
theorem gb_L_law_1249 {b xL n cl sl : Nat} {xs : Nat → Int32} {k_23 : Int32 → Mm → Option Unit} {x4 : Int32} {M : Mm} (hE : Has shA (eH E)) (hl : l.stackTraces = false) (C : Cx RL cL_law 8 p room_1 s m #[Value.ref b] meth c E) (hr : meth.sig.returnType = ret) (hes : eS E = s.heap.size) (hX : va_X b xL xs s s.heap) (hbl : b < s.heap.size) (hbA : ¬ eF E b) (hb : cl + (n + 1) ≤ 1000) (hsb : sl + 6 * (n + 1) ≤ 10000) (hk : ∀ (x4 : Int32) (M : Mm) (cl sl : Nat), cl + n ≤ 1000 → sl + 6 * n ≤ 10000 → k_23 x4 M = some () → G p l e room_1 s m #[Value.ref b] below meth c E 8 cl sl (lw_Z below #[Value.ref b] s) 23 [(0, .ref b), (1, .ref (eA E 0)), (2, .ref (eA E 67)), (3, .ref (eA E 120)), (4, .int x4)] [] M) (h : bb_L_law_1249 xL xs k_23 x4 M = some ()) : G p l e room_1 s m #[Value.ref b] below meth c E 8 cl sl (lw_Z below #[Value.ref b] s) 1249 [(0, .ref b), (1, .ref (eA E 0)), (2, .ref (eA E 67)), (3, .ref (eA E 120)), (4, .int x4)] [] M := by
  unfold bb_L_law_1249 at h
  refine G.aload_n C 1 dL_law_1249 rfl rfl ?_
  obtain ⟨v_297, hv_296, h⟩ := bd_ex h
  refine G.callV (rest := []) C (s_X9_steel_0 (hasC hE)  hv_296) ⟨tg_533, tg_90, ok_X9_steel, Nat.le_of_ble_eq_true rfl, Nat.le_of_ble_eq_true rfl⟩ tg_530 tg_531 tg_532 (sc_0 (hasC hE)) rfl rfl (Nat.le_of_ble_eq_true rfl) dL_law_1250 ⟨by show _ ≤ 600128; omega, by show _ ≤ 7301098; omega⟩ ?_
  refine G.aload_n C 2 dL_law_1253 rfl rfl ?_
  obtain ⟨v_300, M_299, hv_298, h⟩ := bd2_ex h
  refine G.callV (rest := [.long v_297]) C (s_X10_steel_67 (hasM hE)  hv_298) ⟨tg_1809, tg_103, ok_X10_steel, Nat.le_of_ble_eq_true rfl, Nat.le_of_ble_eq_true rfl⟩ tg_1806 tg_1807 tg_1808 (sm_67 (hasM hE)) rfl rfl (Nat.le_of_ble_eq_true rfl) dL_law_1254 ⟨by show _ ≤ 600128; omega, by show _ ≤ 7301098; omega⟩ ?_
  refine G.lcmp C dL_law_1257 (G.if_eq (tgt := 2798) C dL_law_1258 (by decide) (fun hc => ?_) (fun hc => ?_))
  · have h := it_t h (lgc_eq.mp hc)
    obtain ⟨x4_301, ex4_301, h⟩ := ltv_ex h
    refine G.iinc (L' := [(4, .int x4_301), (0, .ref b), (1, .ref (eA E 0)), (2, .ref (eA E 67)), (3, .ref (eA E 120))]) C 4 dL_law_2798 rfl (ex4_301.trans rfl) (by decide) rfl ?_
    refine G.goto (tgt := 23) C dL_law_2801 (by decide) ?_
    exact G.sub [1, 2, 3, 4, 0] rfl (hk _ _ _ _ (by omega) (by omega) h)
  · have h := it_f h ((not_congr lgc_eq).mp hc)
    refine G.iconst (v := (0 : Int32)) C dL_law_1261 (by decide) ?_
    cases h
def bb_L_law_1263 (xL : Nat) (xs : Nat → Int32) (k_23 : Int32 → Mm → Option Unit) (x4 : Int32) (M : Mm) : Option Unit := gd (inb (x4 + (1 : Int32)) xL) (bd2 (fw_L_punch_0_120 (xs (ix (x4 + (1 : Int32)))) M) fun v_303 M_304 => gd (inb (x4 + (1 : Int32)) xL) (bd2 (f_X10_punch_67 (xs (ix (x4 + (1 : Int32)))) M_304) fun v_309 M_308 => bd (f_X10_thrown_67 M_308) fun v_311 => if v_311 = v_303 then (if v_303 = 0 then (if (M_308.2 120 0) = (v_309.toInt64) then (ltv (x4 + (6 : Int32)) fun x4_313 => k_23 x4_313 M_308) else (none)) else (ltv (x4 + (6 : Int32)) fun x4_312 => k_23 x4_312 M_308)) else (none)))
set_option maxHeartbeats 4000000 in
set_option maxRecDepth 100000 in
theorem gb_L_law_1263 {b xL n cl sl : Nat} {xs : Nat → Int32} {k_23 : Int32 → Mm → Option Unit} {x4 : Int32} {M : Mm} (hE : Has shA (eH E)) (hl : l.stackTraces = false) (C : Cx RL cL_law 8 p room_1 s m #[Value.ref b] meth c E) (hr : meth.sig.returnType = ret) (hes : eS E = s.heap.size) (hX : va_X b xL xs s s.heap) (hbl : b < s.heap.size) (hbA : ¬ eF E b) (hb : cl + (n + 1) ≤ 1000) (hsb : sl + 6 * (n + 1) ≤ 10000) (hk : ∀ (x4 : Int32) (M : Mm) (cl sl : Nat), cl + n ≤ 1000 → sl + 6 * n ≤ 10000 → k_23 x4 M = some () → G p l e room_1 s m #[Value.ref b] below meth c E 8 cl sl (lw_Z below #[Value.ref b] s) 23 [(0, .ref b), (1, .ref (eA E 0)), (2, .ref (eA E 67)), (3, .ref (eA E 120)), (4, .int x4)] [] M) (h : bb_L_law_1263 xL xs k_23 x4 M = some ()) : G p l e room_1 s m #[Value.ref b] below meth c E 8 cl sl (lw_Z below #[Value.ref b] s) 1263 [(0, .ref b), (1, .ref (eA E 0)), (2, .ref (eA E 67)), (3, .ref (eA E 120)), (4, .int x4)] [] M := by
  unfold bb_L_law_1263 at h
  refine G.aload_n C 1 dL_law_1263 rfl rfl ?_
  refine G.aload_n C 0 dL_law_1264 rfl rfl ?_
  refine G.iload C 4 dL_law_1265 rfl ?_
  refine G.iconst (v := (1 : Int32)) C dL_law_1267 (by decide) ?_
  refine G.iadd C dL_law_1268 ?_
  obtain ⟨hg_302, h⟩ := gd_ex h
  refine G.sld C hX hbl hbA hg_302 dL_law_1269 ?_
  refine G.aload_n C 3 dL_law_1270 rfl rfl ?_
  obtain ⟨v_303, M_304, hv_305, h⟩ := bd2_ex h
  refine G.callSB (rest := []) C (sw_L_punch_0_120 hl hE hv_305) ⟨tg_1083, tg_89, ok_L_punch, Nat.le_of_ble_eq_true rfl, Nat.le_of_ble_eq_true rfl⟩ tg_1081 tg_1082 rfl (Nat.le_of_ble_eq_true rfl) dL_law_1271 ⟨show cl + 1 ≤ 600128 by omega, show sl + 6 ≤ 7301098 by omega⟩ ?_
  refine G.istore (L' := [(5, .int v_303), (0, .ref b), (1, .ref (eA E 0)), (2, .ref (eA E 67)), (3, .ref (eA E 120)), (4, .int x4)]) C dL_law_1274 rfl (by decide) rfl ?_
  refine G.aload_n C 3 dL_law_1276 rfl rfl ?_
  refine G.aload_n C 1 dL_law_1277 rfl rfl ?_
  refine G.iload C 5 dL_law_1278 rfl ?_
  refine G.iconst (v := (1 : Int32)) C dL_law_1280 (by decide) ?_
  refine G.iadd C dL_law_1281 ?_
  obtain ⟨hg_306, h⟩ := gd_ex h
  refine G.sld C hX hbl hbA hg_306 dL_law_1282 ?_
  obtain ⟨v_309, M_308, hv_307, h⟩ := bd2_ex h
  refine G.callV (rest := []) C (s_X10_punch_67 (hasM hE)  hv_307) ⟨tg_1813, tg_103, ok_X10_punch, Nat.le_of_ble_eq_true rfl, Nat.le_of_ble_eq_true rfl⟩ tg_1810 tg_1811 tg_1812 (sm_67 (hasM hE)) rfl rfl (Nat.le_of_ble_eq_true rfl) dL_law_1283 ⟨by show _ ≤ 600128; omega, by show _ ≤ 7301098; omega⟩ ?_
  refine G.istore (L' := [(6, .int v_309), (5, .int v_303), (0, .ref b), (1, .ref (eA E 0)), (2, .ref (eA E 67)), (3, .ref (eA E 120)), (4, .int x4)]) C dL_law_1286 rfl (by decide) rfl ?_
  refine G.aload_n C 4 dL_law_1288 rfl rfl ?_
  obtain ⟨v_311, hv_310, h⟩ := bd_ex h
  refine G.callV (rest := []) C (s_X10_thrown_67 (hasM hE)  hv_310) ⟨tg_1585, tg_103, ok_X10_thrown, Nat.le_of_ble_eq_true rfl, Nat.le_of_ble_eq_true rfl⟩ tg_1582 tg_1583 tg_1584 (sm_67 (hasM hE)) rfl rfl (Nat.le_of_ble_eq_true rfl) dL_law_1289 ⟨by show _ ≤ 600128; omega, by show _ ≤ 7301098; omega⟩ ?_
  refine G.iload C 1 dL_law_1292 rfl ?_
  refine G.icmp_eq (tgt := 1299) C dL_law_1294 (by decide) (fun hc => ?_) (fun hc => ?_)
  · have h := it_t h hc
    refine G.iload C 1 dL_law_1299 rfl ?_
    refine G.if_ne (tgt := 1316) C dL_law_1301 (by decide) (fun hc => ?_) (fun hc => ?_)
    · have h := it_f h hc
      refine G.goto (tgt := 2798) C dL_law_1316 (by decide) ?_
      obtain ⟨x4_312, ex4_312, h⟩ := ltv_ex h
      refine G.iinc (L' := [(4, .int x4_312), (6, .int v_309), (5, .int v_303), (0, .ref b), (1, .ref (eA E 0)), (2, .ref (eA E 67)), (3, .ref (eA E 120))]) C 6 dL_law_2798 rfl (ex4_312.trans rfl) (by decide) rfl ?_
      refine G.goto (tgt := 23) C dL_law_2801 (by decide) ?_
      exact G.sub [3, 4, 5, 6, 0] rfl (hk _ _ _ _ (by omega) (by omega) h)
    · have h := it_t h hc
      refine G.aload_n C 5 dL_law_1304 rfl rfl ?_
      refine G.iconst (v := (0 : Int32)) C dL_law_1305 (by decide) ?_
      refine G.aJ (j := 0) C (sa_120 hE) (by decide) (by decide) dL_law_1306 ?_
      refine G.iload C 0 dL_law_1307 rfl ?_
      refine G.i2l (v := v_309.toInt64) C dL_law_1309 rfl ?_
      refine G.lcmp C dL_law_1310 (G.if_eq (tgt := 1316) C dL_law_1311 (by decide) (fun hc => ?_) (fun hc => ?_))
      · have h := it_t h (lgc_eq.mp hc)
        refine G.goto (tgt := 2798) C dL_law_1316 (by decide) ?_
        obtain ⟨x4_313, ex4_313, h⟩ := ltv_ex h
        refine G.iinc (L' := [(4, .int x4_313), (6, .int v_309), (5, .int v_303), (0, .ref b), (1, .ref (eA E 0)), (2, .ref (eA E 67)), (3, .ref (eA E 120))]) C 6 dL_law_2798 rfl (ex4_313.trans rfl) (by decide) rfl ?_
        refine G.goto (tgt := 23) C dL_law_2801 (by decide) ?_
        exact G.sub [3, 4, 5, 6, 0] rfl (hk _ _ _ _ (by omega) (by omega) h)
      · have h := it_f h ((not_congr lgc_eq).mp hc)
        refine G.iconst (v := (0 : Int32)) C dL_law_1314 (by decide) ?_
        cases h
  · have h := it_f h hc
    refine G.iconst (v := (0 : Int32)) C dL_law_1297 (by decide) ?_
    cases h
def bb_L_law_1319 (xL : Nat) (xs : Nat → Int32) (k_23 : Int32 → Mm → Option Unit) (x4 : Int32) (M : Mm) : Option Unit := gd (inb (x4 + (1 : Int32)) xL) (bd2 (fw_L_addBlow_0_120 (xs (ix (x4 + (1 : Int32)))) M) fun v_315 M_316 => gd (inb (x4 + (1 : Int32)) xL) (bd2 (f_X10_addBlow_67 (xs (ix (x4 + (1 : Int32)))) M_316) fun v_321 M_320 => bd (f_X10_thrown_67 M_320) fun v_323 => if v_323 = v_315 then (if v_315 = 0 then (if (M_320.2 120 0) = (v_321.toInt64) then (ltv (x4 + (6 : Int32)) fun x4_325 => k_23 x4_325 M_320) else (none)) else (ltv (x4 + (6 : Int32)) fun x4_324 => k_23 x4_324 M_320)) else (none)))
set_option maxHeartbeats 4000000 in
set_option maxRecDepth 100000 in
theorem gb_L_law_1319 {b xL n cl sl : Nat} {xs : Nat → Int32} {k_23 : Int32 → Mm → Option Unit} {x4 : Int32} {M : Mm} (hE : Has shA (eH E)) (hl : l.stackTraces = false) (C : Cx RL cL_law 8 p room_1 s m #[Value.ref b] meth c E) (hr : meth.sig.returnType = ret) (hes : eS E = s.heap.size) (hX : va_X b xL xs s s.heap) (hbl : b < s.heap.size) (hbA : ¬ eF E b) (hb : cl + (n + 1) ≤ 1000) (hsb : sl + 6 * (n + 1) ≤ 10000) (hk : ∀ (x4 : Int32) (M : Mm) (cl sl : Nat), cl + n ≤ 1000 → sl + 6 * n ≤ 10000 → k_23 x4 M = some () → G p l e room_1 s m #[Value.ref b] below meth c E 8 cl sl (lw_Z below #[Value.ref b] s) 23 [(0, .ref b), (1, .ref (eA E 0)), (2, .ref (eA E 67)), (3, .ref (eA E 120)), (4, .int x4)] [] M) (h : bb_L_law_1319 xL xs k_23 x4 M = some ()) : G p l e room_1 s m #[Value.ref b] below meth c E 8 cl sl (lw_Z below #[Value.ref b] s) 1319 [(0, .ref b), (1, .ref (eA E 0)), (2, .ref (eA E 67)), (3, .ref (eA E 120)), (4, .int x4)] [] M := by
  unfold bb_L_law_1319 at h
  refine G.aload_n C 1 dL_law_1319 rfl rfl ?_
  refine G.aload_n C 0 dL_law_1320 rfl rfl ?_
  refine G.iload C 4 dL_law_1321 rfl ?_
  refine G.iconst (v := (1 : Int32)) C dL_law_1323 (by decide) ?_
  refine G.iadd C dL_law_1324 ?_
  obtain ⟨hg_314, h⟩ := gd_ex h
  refine G.sld C hX hbl hbA hg_314 dL_law_1325 ?_
  refine G.aload_n C 3 dL_law_1326 rfl rfl ?_
  obtain ⟨v_315, M_316, hv_317, h⟩ := bd2_ex h
  refine G.callSB (rest := []) C (sw_L_addBlow_0_120 hl hE hv_317) ⟨tg_1093, tg_89, ok_L_addBlow, Nat.le_of_ble_eq_true rfl, Nat.le_of_ble_eq_true rfl⟩ tg_1091 tg_1092 rfl (Nat.le_of_ble_eq_true rfl) dL_law_1327 ⟨show cl + 1 ≤ 600128 by omega, show sl + 6 ≤ 7301098 by omega⟩ ?_
  refine G.istore (L' := [(5, .int v_315), (0, .ref b), (1, .ref (eA E 0)), (2, .ref (eA E 67)), (3, .ref (eA E 120)), (4, .int x4)]) C dL_law_1330 rfl (by decide) rfl ?_
  refine G.aload_n C 3 dL_law_1332 rfl rfl ?_
  refine G.aload_n C 1 dL_law_1333 rfl rfl ?_
  refine G.iload C 5 dL_law_1334 rfl ?_
  refine G.iconst (v := (1 : Int32)) C dL_law_1336 (by decide) ?_
  refine G.iadd C dL_law_1337 ?_
  obtain ⟨hg_318, h⟩ := gd_ex h
  refine G.sld C hX hbl hbA hg_318 dL_law_1338 ?_
  obtain ⟨v_321, M_320, hv_319, h⟩ := bd2_ex h
  refine G.callV (rest := []) C (s_X10_addBlow_67 (hasM hE)  hv_319) ⟨tg_1821, tg_103, ok_X10_addBlow, Nat.le_of_ble_eq_true rfl, Nat.le_of_ble_eq_true rfl⟩ tg_1818 tg_1819 tg_1820 (sm_67 (hasM hE)) rfl rfl (Nat.le_of_ble_eq_true rfl) dL_law_1339 ⟨by show _ ≤ 600128; omega, by show _ ≤ 7301098; omega⟩ ?_
  refine G.istore (L' := [(6, .int v_321), (5, .int v_315), (0, .ref b), (1, .ref (eA E 0)), (2, .ref (eA E 67)), (3, .ref (eA E 120)), (4, .int x4)]) C dL_law_1342 rfl (by decide) rfl ?_
  refine G.aload_n C 4 dL_law_1344 rfl rfl ?_
  obtain ⟨v_323, hv_322, h⟩ := bd_ex h
  refine G.callV (rest := []) C (s_X10_thrown_67 (hasM hE)  hv_322) ⟨tg_1585, tg_103, ok_X10_thrown, Nat.le_of_ble_eq_true rfl, Nat.le_of_ble_eq_true rfl⟩ tg_1582 tg_1583 tg_1584 (sm_67 (hasM hE)) rfl rfl (Nat.le_of_ble_eq_true rfl) dL_law_1345 ⟨by show _ ≤ 600128; omega, by show _ ≤ 7301098; omega⟩ ?_
  refine G.iload C 1 dL_law_1348 rfl ?_
  refine G.icmp_eq (tgt := 1355) C dL_law_1350 (by decide) (fun hc => ?_) (fun hc => ?_)
  · have h := it_t h hc
    refine G.iload C 1 dL_law_1355 rfl ?_
    refine G.if_ne (tgt := 1372) C dL_law_1357 (by decide) (fun hc => ?_) (fun hc => ?_)
    · have h := it_f h hc
      refine G.goto (tgt := 2798) C dL_law_1372 (by decide) ?_
      obtain ⟨x4_324, ex4_324, h⟩ := ltv_ex h
      refine G.iinc (L' := [(4, .int x4_324), (6, .int v_321), (5, .int v_315), (0, .ref b), (1, .ref (eA E 0)), (2, .ref (eA E 67)), (3, .ref (eA E 120))]) C 6 dL_law_2798 rfl (ex4_324.trans rfl) (by decide) rfl ?_
      refine G.goto (tgt := 23) C dL_law_2801 (by decide) ?_
      exact G.sub [3, 4, 5, 6, 0] rfl (hk _ _ _ _ (by omega) (by omega) h)
    · have h := it_t h hc
      refine G.aload_n C 5 dL_law_1360 rfl rfl ?_
      refine G.iconst (v := (0 : Int32)) C dL_law_1361 (by decide) ?_
      refine G.aJ (j := 0) C (sa_120 hE) (by decide) (by decide) dL_law_1362 ?_
      refine G.iload C 0 dL_law_1363 rfl ?_
      refine G.i2l (v := v_321.toInt64) C dL_law_1365 rfl ?_
      refine G.lcmp C dL_law_1366 (G.if_eq (tgt := 1372) C dL_law_1367 (by decide) (fun hc => ?_) (fun hc => ?_))
      · have h := it_t h (lgc_eq.mp hc)
        refine G.goto (tgt := 2798) C dL_law_1372 (by decide) ?_
        obtain ⟨x4_325, ex4_325, h⟩ := ltv_ex h
        refine G.iinc (L' := [(4, .int x4_325), (6, .int v_321), (5, .int v_315), (0, .ref b), (1, .ref (eA E 0)), (2, .ref (eA E 67)), (3, .ref (eA E 120))]) C 6 dL_law_2798 rfl (ex4_325.trans rfl) (by decide) rfl ?_
        refine G.goto (tgt := 23) C dL_law_2801 (by decide) ?_
        exact G.sub [3, 4, 5, 6, 0] rfl (hk _ _ _ _ (by omega) (by omega) h)
      · have h := it_f h ((not_congr lgc_eq).mp hc)
        refine G.iconst (v := (0 : Int32)) C dL_law_1370 (by decide) ?_
        cases h
  · have h := it_f h hc
    refine G.iconst (v := (0 : Int32)) C dL_law_1353 (by decide) ?_
    cases h
def bb_L_law_1375 (xL : Nat) (xs : Nat → Int32) (k_23 : Int32 → Mm → Option Unit) (x4 : Int32) (M : Mm) : Option Unit := gd (inb (x4 + (1 : Int32)) xL) (gd (inb (x4 + (2 : Int32)) xL) (gd (inb (x4 + (3 : Int32)) xL) (bd2 (fw_L_addFile_0_120 (xs (ix (x4 + (1 : Int32)))) (xs (ix (x4 + (2 : Int32)))) (xs (ix (x4 + (3 : Int32)))) M) fun v_329 M_330 => gd (inb (x4 + (1 : Int32)) xL) (gd (inb (x4 + (2 : Int32)) xL) (gd (inb (x4 + (3 : Int32)) xL) (bd2 (f_X10_addFile_67 (xs (ix (x4 + (1 : Int32)))) (xs (ix (x4 + (2 : Int32)))) (xs (ix (x4 + (3 : Int32)))) M_330) fun v_337 M_336 => bd (f_X10_thrown_67 M_336) fun v_339 => if v_339 = v_329 then (if v_329 = 0 then (if (M_336.2 120 0) = (v_337.toInt64) then (ltv (x4 + (6 : Int32)) fun x4_341 => k_23 x4_341 M_336) else (none)) else (ltv (x4 + (6 : Int32)) fun x4_340 => k_23 x4_340 M_336)) else (none)))))))
set_option maxHeartbeats 4000000 in
set_option maxRecDepth 100000 in
theorem gb_L_law_1375 {b xL n cl sl : Nat} {xs : Nat → Int32} {k_23 : Int32 → Mm → Option Unit} {x4 : Int32} {M : Mm} (hE : Has shA (eH E)) (hl : l.stackTraces = false) (C : Cx RL cL_law 8 p room_1 s m #[Value.ref b] meth c E) (hr : meth.sig.returnType = ret) (hes : eS E = s.heap.size) (hX : va_X b xL xs s s.heap) (hbl : b < s.heap.size) (hbA : ¬ eF E b) (hb : cl + (n + 1) ≤ 1000) (hsb : sl + 6 * (n + 1) ≤ 10000) (hk : ∀ (x4 : Int32) (M : Mm) (cl sl : Nat), cl + n ≤ 1000 → sl + 6 * n ≤ 10000 → k_23 x4 M = some () → G p l e room_1 s m #[Value.ref b] below meth c E 8 cl sl (lw_Z below #[Value.ref b] s) 23 [(0, .ref b), (1, .ref (eA E 0)), (2, .ref (eA E 67)), (3, .ref (eA E 120)), (4, .int x4)] [] M) (h : bb_L_law_1375 xL xs k_23 x4 M = some ()) : G p l e room_1 s m #[Value.ref b] below meth c E 8 cl sl (lw_Z below #[Value.ref b] s) 1375 [(0, .ref b), (1, .ref (eA E 0)), (2, .ref (eA E 67)), (3, .ref (eA E 120)), (4, .int x4)] [] M := by
  unfold bb_L_law_1375 at h
  refine G.aload_n C 1 dL_law_1375 rfl rfl ?_
  refine G.aload_n C 0 dL_law_1376 rfl rfl ?_
  refine G.iload C 4 dL_law_1377 rfl ?_
  refine G.iconst (v := (1 : Int32)) C dL_law_1379 (by decide) ?_
  refine G.iadd C dL_law_1380 ?_
  obtain ⟨hg_326, h⟩ := gd_ex h
  refine G.sld C hX hbl hbA hg_326 dL_law_1381 ?_
  refine G.aload_n C 0 dL_law_1382 rfl rfl ?_
  refine G.iload C 4 dL_law_1383 rfl ?_
  refine G.iconst (v := (2 : Int32)) C dL_law_1385 (by decide) ?_
  refine G.iadd C dL_law_1386 ?_
  obtain ⟨hg_327, h⟩ := gd_ex h
  refine G.sld C hX hbl hbA hg_327 dL_law_1387 ?_
  refine G.aload_n C 0 dL_law_1388 rfl rfl ?_
  refine G.iload C 4 dL_law_1389 rfl ?_
  refine G.iconst (v := (3 : Int32)) C dL_law_1391 (by decide) ?_
  refine G.iadd C dL_law_1392 ?_
  obtain ⟨hg_328, h⟩ := gd_ex h
  refine G.sld C hX hbl hbA hg_328 dL_law_1393 ?_
  refine G.aload_n C 3 dL_law_1394 rfl rfl ?_
  obtain ⟨v_329, M_330, hv_331, h⟩ := bd2_ex h
  refine G.callSB (rest := []) C (sw_L_addFile_0_120 hl hE hv_331) ⟨tg_1104, tg_89, ok_L_addFile, Nat.le_of_ble_eq_true rfl, Nat.le_of_ble_eq_true rfl⟩ tg_1102 tg_1103 rfl (Nat.le_of_ble_eq_true rfl) dL_law_1395 ⟨show cl + 1 ≤ 600128 by omega, show sl + 6 ≤ 7301098 by omega⟩ ?_
  refine G.istore (L' := [(5, .int v_329), (0, .ref b), (1, .ref (eA E 0)), (2, .ref (eA E 67)), (3, .ref (eA E 120)), (4, .int x4)]) C dL_law_1398 rfl (by decide) rfl ?_
  refine G.aload_n C 3 dL_law_1400 rfl rfl ?_
  refine G.aload_n C 1 dL_law_1401 rfl rfl ?_
  refine G.iload C 5 dL_law_1402 rfl ?_
  refine G.iconst (v := (1 : Int32)) C dL_law_1404 (by decide) ?_
  refine G.iadd C dL_law_1405 ?_
  obtain ⟨hg_332, h⟩ := gd_ex h
  refine G.sld C hX hbl hbA hg_332 dL_law_1406 ?_
  refine G.aload_n C 1 dL_law_1407 rfl rfl ?_
  refine G.iload C 5 dL_law_1408 rfl ?_
  refine G.iconst (v := (2 : Int32)) C dL_law_1410 (by decide) ?_
  refine G.iadd C dL_law_1411 ?_
  obtain ⟨hg_333, h⟩ := gd_ex h
  refine G.sld C hX hbl hbA hg_333 dL_law_1412 ?_
  refine G.aload_n C 1 dL_law_1413 rfl rfl ?_
  refine G.iload C 5 dL_law_1414 rfl ?_
  refine G.iconst (v := (3 : Int32)) C dL_law_1416 (by decide) ?_
  refine G.iadd C dL_law_1417 ?_
  obtain ⟨hg_334, h⟩ := gd_ex h
  refine G.sld C hX hbl hbA hg_334 dL_law_1418 ?_
  obtain ⟨v_337, M_336, hv_335, h⟩ := bd2_ex h
  refine G.callV (rest := []) C (s_X10_addFile_67 (hasM hE)  hv_335) ⟨tg_1829, tg_103, ok_X10_addFile, Nat.le_of_ble_eq_true rfl, Nat.le_of_ble_eq_true rfl⟩ tg_1826 tg_1827 tg_1828 (sm_67 (hasM hE)) rfl rfl (Nat.le_of_ble_eq_true rfl) dL_law_1419 ⟨by show _ ≤ 600128; omega, by show _ ≤ 7301098; omega⟩ ?_
  refine G.istore (L' := [(6, .int v_337), (5, .int v_329), (0, .ref b), (1, .ref (eA E 0)), (2, .ref (eA E 67)), (3, .ref (eA E 120)), (4, .int x4)]) C dL_law_1422 rfl (by decide) rfl ?_
  refine G.aload_n C 4 dL_law_1424 rfl rfl ?_
  obtain ⟨v_339, hv_338, h⟩ := bd_ex h
  refine G.callV (rest := []) C (s_X10_thrown_67 (hasM hE)  hv_338) ⟨tg_1585, tg_103, ok_X10_thrown, Nat.le_of_ble_eq_true rfl, Nat.le_of_ble_eq_true rfl⟩ tg_1582 tg_1583 tg_1584 (sm_67 (hasM hE)) rfl rfl (Nat.le_of_ble_eq_true rfl) dL_law_1425 ⟨by show _ ≤ 600128; omega, by show _ ≤ 7301098; omega⟩ ?_
  refine G.iload C 1 dL_law_1428 rfl ?_
  refine G.icmp_eq (tgt := 1435) C dL_law_1430 (by decide) (fun hc => ?_) (fun hc => ?_)
  · have h := it_t h hc
    refine G.iload C 1 dL_law_1435 rfl ?_
    refine G.if_ne (tgt := 1452) C dL_law_1437 (by decide) (fun hc => ?_) (fun hc => ?_)
    · have h := it_f h hc
      refine G.goto (tgt := 2798) C dL_law_1452 (by decide) ?_
      obtain ⟨x4_340, ex4_340, h⟩ := ltv_ex h
      refine G.iinc (L' := [(4, .int x4_340), (6, .int v_337), (5, .int v_329), (0, .ref b), (1, .ref (eA E 0)), (2, .ref (eA E 67)), (3, .ref (eA E 120))]) C 6 dL_law_2798 rfl (ex4_340.trans rfl) (by decide) rfl ?_
      refine G.goto (tgt := 23) C dL_law_2801 (by decide) ?_
      exact G.sub [3, 4, 5, 6, 0] rfl (hk _ _ _ _ (by omega) (by omega) h)
    · have h := it_t h hc
      refine G.aload_n C 5 dL_law_1440 rfl rfl ?_
      refine G.iconst (v := (0 : Int32)) C dL_law_1441 (by decide) ?_
      refine G.aJ (j := 0) C (sa_120 hE) (by decide) (by decide) dL_law_1442 ?_
      refine G.iload C 0 dL_law_1443 rfl ?_
      refine G.i2l (v := v_337.toInt64) C dL_law_1445 rfl ?_
      refine G.lcmp C dL_law_1446 (G.if_eq (tgt := 1452) C dL_law_1447 (by decide) (fun hc => ?_) (fun hc => ?_))
      · have h := it_t h (lgc_eq.mp hc)
        refine G.goto (tgt := 2798) C dL_law_1452 (by decide) ?_
        obtain ⟨x4_341, ex4_341, h⟩ := ltv_ex h
        refine G.iinc (L' := [(4, .int x4_341), (6, .int v_337), (5, .int v_329), (0, .ref b), (1, .ref (eA E 0)), (2, .ref (eA E 67)), (3, .ref (eA E 120))]) C 6 dL_law_2798 rfl (ex4_341.trans rfl) (by decide) rfl ?_
        refine G.goto (tgt := 23) C dL_law_2801 (by decide) ?_
        exact G.sub [3, 4, 5, 6, 0] rfl (hk _ _ _ _ (by omega) (by omega) h)
      · have h := it_f h ((not_congr lgc_eq).mp hc)
        refine G.iconst (v := (0 : Int32)) C dL_law_1450 (by decide) ?_
        cases h
  · have h := it_f h hc
    refine G.iconst (v := (0 : Int32)) C dL_law_1433 (by decide) ?_
    cases h
def bb_L_law_1455 (xL : Nat) (xs : Nat → Int32) (k_23 : Int32 → Mm → Option Unit) (x4 : Int32) (M : Mm) : Option Unit := bd2 (f_X9_clear_0 M) fun v_344 M_343 => bd2 (f_X10_clear_67 M_343) fun v_347 M_346 => if v_344 = v_347 then (ltv (x4 + (6 : Int32)) fun x4_348 => k_23 x4_348 M_346) else (none)
set_option maxHeartbeats 4000000 in
set_option maxRecDepth 100000 in
theorem gb_L_law_1455 {b xL n cl sl : Nat} {xs : Nat → Int32} {k_23 : Int32 → Mm → Option Unit} {x4 : Int32} {M : Mm} (hE : Has shA (eH E)) (hl : l.stackTraces = false) (C : Cx RL cL_law 8 p room_1 s m #[Value.ref b] meth c E) (hr : meth.sig.returnType = ret) (hes : eS E = s.heap.size) (hX : va_X b xL xs s s.heap) (hbl : b < s.heap.size) (hbA : ¬ eF E b) (hb : cl + (n + 1) ≤ 1000) (hsb : sl + 6 * (n + 1) ≤ 10000) (hk : ∀ (x4 : Int32) (M : Mm) (cl sl : Nat), cl + n ≤ 1000 → sl + 6 * n ≤ 10000 → k_23 x4 M = some () → G p l e room_1 s m #[Value.ref b] below meth c E 8 cl sl (lw_Z below #[Value.ref b] s) 23 [(0, .ref b), (1, .ref (eA E 0)), (2, .ref (eA E 67)), (3, .ref (eA E 120)), (4, .int x4)] [] M) (h : bb_L_law_1455 xL xs k_23 x4 M = some ()) : G p l e room_1 s m #[Value.ref b] below meth c E 8 cl sl (lw_Z below #[Value.ref b] s) 1455 [(0, .ref b), (1, .ref (eA E 0)), (2, .ref (eA E 67)), (3, .ref (eA E 120)), (4, .int x4)] [] M := by
  unfold bb_L_law_1455 at h
  refine G.aload_n C 1 dL_law_1455 rfl rfl ?_
  obtain ⟨v_344, M_343, hv_342, h⟩ := bd2_ex h
  refine G.callV (rest := []) C (s_X9_clear_0 (hasC hE)  hv_342) ⟨tg_542, tg_90, ok_X9_clear, Nat.le_of_ble_eq_true rfl, Nat.le_of_ble_eq_true rfl⟩ tg_539 tg_540 tg_541 (sc_0 (hasC hE)) rfl rfl (Nat.le_of_ble_eq_true rfl) dL_law_1456 ⟨by show _ ≤ 600128; omega, by show _ ≤ 7301098; omega⟩ ?_
  refine G.aload_n C 2 dL_law_1459 rfl rfl ?_
  obtain ⟨v_347, M_346, hv_345, h⟩ := bd2_ex h
  refine G.callV (rest := [.int v_344]) C (s_X10_clear_67 (hasM hE)  hv_345) ⟨tg_1833, tg_103, ok_X10_clear, Nat.le_of_ble_eq_true rfl, Nat.le_of_ble_eq_true rfl⟩ tg_1830 tg_1831 tg_1832 (sm_67 (hasM hE)) rfl rfl (Nat.le_of_ble_eq_true rfl) dL_law_1460 ⟨by show _ ≤ 600128; omega, by show _ ≤ 7301098; omega⟩ ?_
  refine G.icmp_eq (tgt := 2798) C dL_law_1463 (by decide) (fun hc => ?_) (fun hc => ?_)
  · have h := it_t h hc
    obtain ⟨x4_348, ex4_348, h⟩ := ltv_ex h
    refine G.iinc (L' := [(4, .int x4_348), (0, .ref b), (1, .ref (eA E 0)), (2, .ref (eA E 67)), (3, .ref (eA E 120))]) C 4 dL_law_2798 rfl (ex4_348.trans rfl) (by decide) rfl ?_
    refine G.goto (tgt := 23) C dL_law_2801 (by decide) ?_
    exact G.sub [1, 2, 3, 4, 0] rfl (hk _ _ _ _ (by omega) (by omega) h)
  · have h := it_f h hc
    refine G.iconst (v := (0 : Int32)) C dL_law_1466 (by decide) ?_
    cases h
def bb_L_law_1468 (xL : Nat) (xs : Nat → Int32) (k_23 : Int32 → Mm → Option Unit) (x4 : Int32) (M : Mm) : Option Unit := gd (inb (x4 + (1 : Int32)) xL) (gd (inb (x4 + (2 : Int32)) xL) (bd2 (fw_L_judge_0_120 (xs (ix (x4 + (1 : Int32)))) (xs (ix (x4 + (2 : Int32)))) M) fun v_351 M_352 => gd (inb (x4 + (1 : Int32)) xL) (gd (inb (x4 + (2 : Int32)) xL) (bd2 (f_X10_judge_67 (xs (ix (x4 + (1 : Int32)))) (xs (ix (x4 + (2 : Int32)))) M_352) fun v_358 M_357 => bd (f_X10_thrown_67 M_357) fun v_360 => if v_360 = v_351 then (if v_351 = 0 then (if (M_357.2 120 0) = (v_358.toInt64) then (ltv (x4 + (6 : Int32)) fun x4_362 => k_23 x4_362 M_357) else (none)) else (ltv (x4 + (6 : Int32)) fun x4_361 => k_23 x4_361 M_357)) else (none)))))
set_option maxHeartbeats 4000000 in
set_option maxRecDepth 100000 in
theorem gb_L_law_1468 {b xL n cl sl : Nat} {xs : Nat → Int32} {k_23 : Int32 → Mm → Option Unit} {x4 : Int32} {M : Mm} (hE : Has shA (eH E)) (hl : l.stackTraces = false) (C : Cx RL cL_law 8 p room_1 s m #[Value.ref b] meth c E) (hr : meth.sig.returnType = ret) (hes : eS E = s.heap.size) (hX : va_X b xL xs s s.heap) (hbl : b < s.heap.size) (hbA : ¬ eF E b) (hb : cl + (n + 1) ≤ 1000) (hsb : sl + 6 * (n + 1) ≤ 10000) (hk : ∀ (x4 : Int32) (M : Mm) (cl sl : Nat), cl + n ≤ 1000 → sl + 6 * n ≤ 10000 → k_23 x4 M = some () → G p l e room_1 s m #[Value.ref b] below meth c E 8 cl sl (lw_Z below #[Value.ref b] s) 23 [(0, .ref b), (1, .ref (eA E 0)), (2, .ref (eA E 67)), (3, .ref (eA E 120)), (4, .int x4)] [] M) (h : bb_L_law_1468 xL xs k_23 x4 M = some ()) : G p l e room_1 s m #[Value.ref b] below meth c E 8 cl sl (lw_Z below #[Value.ref b] s) 1468 [(0, .ref b), (1, .ref (eA E 0)), (2, .ref (eA E 67)), (3, .ref (eA E 120)), (4, .int x4)] [] M := by
  unfold bb_L_law_1468 at h
  refine G.aload_n C 1 dL_law_1468 rfl rfl ?_
  refine G.aload_n C 0 dL_law_1469 rfl rfl ?_
  refine G.iload C 4 dL_law_1470 rfl ?_
  refine G.iconst (v := (1 : Int32)) C dL_law_1472 (by decide) ?_
  refine G.iadd C dL_law_1473 ?_
  obtain ⟨hg_349, h⟩ := gd_ex h
  refine G.sld C hX hbl hbA hg_349 dL_law_1474 ?_
  refine G.aload_n C 0 dL_law_1475 rfl rfl ?_
  refine G.iload C 4 dL_law_1476 rfl ?_
  refine G.iconst (v := (2 : Int32)) C dL_law_1478 (by decide) ?_
  refine G.iadd C dL_law_1479 ?_
  obtain ⟨hg_350, h⟩ := gd_ex h
  refine G.sld C hX hbl hbA hg_350 dL_law_1480 ?_
  refine G.aload_n C 3 dL_law_1481 rfl rfl ?_
  obtain ⟨v_351, M_352, hv_353, h⟩ := bd2_ex h
  refine G.callSB (rest := []) C (sw_L_judge_0_120 hl hE hv_353) ⟨tg_1111, tg_89, ok_L_judge, Nat.le_of_ble_eq_true rfl, Nat.le_of_ble_eq_true rfl⟩ tg_1109 tg_1110 rfl (Nat.le_of_ble_eq_true rfl) dL_law_1482 ⟨show cl + 1 ≤ 600128 by omega, show sl + 6 ≤ 7301098 by omega⟩ ?_
  refine G.istore (L' := [(5, .int v_351), (0, .ref b), (1, .ref (eA E 0)), (2, .ref (eA E 67)), (3, .ref (eA E 120)), (4, .int x4)]) C dL_law_1485 rfl (by decide) rfl ?_
  refine G.aload_n C 3 dL_law_1487 rfl rfl ?_
  refine G.aload_n C 1 dL_law_1488 rfl rfl ?_
  refine G.iload C 5 dL_law_1489 rfl ?_
  refine G.iconst (v := (1 : Int32)) C dL_law_1491 (by decide) ?_
  refine G.iadd C dL_law_1492 ?_
  obtain ⟨hg_354, h⟩ := gd_ex h
  refine G.sld C hX hbl hbA hg_354 dL_law_1493 ?_
  refine G.aload_n C 1 dL_law_1494 rfl rfl ?_
  refine G.iload C 5 dL_law_1495 rfl ?_
  refine G.iconst (v := (2 : Int32)) C dL_law_1497 (by decide) ?_
  refine G.iadd C dL_law_1498 ?_
  obtain ⟨hg_355, h⟩ := gd_ex h
  refine G.sld C hX hbl hbA hg_355 dL_law_1499 ?_
  obtain ⟨v_358, M_357, hv_356, h⟩ := bd2_ex h
  refine G.callV (rest := []) C (s_X10_judge_67 (hasM hE)  hv_356) ⟨tg_1837, tg_103, ok_X10_judge, Nat.le_of_ble_eq_true rfl, Nat.le_of_ble_eq_true rfl⟩ tg_1834 tg_1835 tg_1836 (sm_67 (hasM hE)) rfl rfl (Nat.le_of_ble_eq_true rfl) dL_law_1500 ⟨by show _ ≤ 600128; omega, by show _ ≤ 7301098; omega⟩ ?_
  refine G.istore (L' := [(6, .int v_358), (5, .int v_351), (0, .ref b), (1, .ref (eA E 0)), (2, .ref (eA E 67)), (3, .ref (eA E 120)), (4, .int x4)]) C dL_law_1503 rfl (by decide) rfl ?_
  refine G.aload_n C 4 dL_law_1505 rfl rfl ?_
  obtain ⟨v_360, hv_359, h⟩ := bd_ex h
  refine G.callV (rest := []) C (s_X10_thrown_67 (hasM hE)  hv_359) ⟨tg_1585, tg_103, ok_X10_thrown, Nat.le_of_ble_eq_true rfl, Nat.le_of_ble_eq_true rfl⟩ tg_1582 tg_1583 tg_1584 (sm_67 (hasM hE)) rfl rfl (Nat.le_of_ble_eq_true rfl) dL_law_1506 ⟨by show _ ≤ 600128; omega, by show _ ≤ 7301098; omega⟩ ?_
  refine G.iload C 1 dL_law_1509 rfl ?_
  refine G.icmp_eq (tgt := 1516) C dL_law_1511 (by decide) (fun hc => ?_) (fun hc => ?_)
  · have h := it_t h hc
    refine G.iload C 1 dL_law_1516 rfl ?_
    refine G.if_ne (tgt := 1533) C dL_law_1518 (by decide) (fun hc => ?_) (fun hc => ?_)
    · have h := it_f h hc
      refine G.goto (tgt := 2798) C dL_law_1533 (by decide) ?_
      obtain ⟨x4_361, ex4_361, h⟩ := ltv_ex h
      refine G.iinc (L' := [(4, .int x4_361), (6, .int v_358), (5, .int v_351), (0, .ref b), (1, .ref (eA E 0)), (2, .ref (eA E 67)), (3, .ref (eA E 120))]) C 6 dL_law_2798 rfl (ex4_361.trans rfl) (by decide) rfl ?_
      refine G.goto (tgt := 23) C dL_law_2801 (by decide) ?_
      exact G.sub [3, 4, 5, 6, 0] rfl (hk _ _ _ _ (by omega) (by omega) h)
    · have h := it_t h hc
      refine G.aload_n C 5 dL_law_1521 rfl rfl ?_
      refine G.iconst (v := (0 : Int32)) C dL_law_1522 (by decide) ?_
      refine G.aJ (j := 0) C (sa_120 hE) (by decide) (by decide) dL_law_1523 ?_
      refine G.iload C 0 dL_law_1524 rfl ?_
      refine G.i2l (v := v_358.toInt64) C dL_law_1526 rfl ?_
      refine G.lcmp C dL_law_1527 (G.if_eq (tgt := 1533) C dL_law_1528 (by decide) (fun hc => ?_) (fun hc => ?_))
      · have h := it_t h (lgc_eq.mp hc)
        refine G.goto (tgt := 2798) C dL_law_1533 (by decide) ?_
        obtain ⟨x4_362, ex4_362, h⟩ := ltv_ex h
        refine G.iinc (L' := [(4, .int x4_362), (6, .int v_358), (5, .int v_351), (0, .ref b), (1, .ref (eA E 0)), (2, .ref (eA E 67)), (3, .ref (eA E 120))]) C 6 dL_law_2798 rfl (ex4_362.trans rfl) (by decide) rfl ?_
        refine G.goto (tgt := 23) C dL_law_2801 (by decide) ?_
        exact G.sub [3, 4, 5, 6, 0] rfl (hk _ _ _ _ (by omega) (by omega) h)
      · have h := it_f h ((not_congr lgc_eq).mp hc)
        refine G.iconst (v := (0 : Int32)) C dL_law_1531 (by decide) ?_
        cases h
  · have h := it_f h hc
    refine G.iconst (v := (0 : Int32)) C dL_law_1514 (by decide) ?_
    cases h
def bb_L_law_1536 (xL : Nat) (xs : Nat → Int32) (k_23 : Int32 → Mm → Option Unit) (x4 : Int32) (M : Mm) : Option Unit := gd (inb (x4 + (1 : Int32)) xL) (gd (inb (x4 + (2 : Int32)) xL) (gd (inb (x4 + (3 : Int32)) xL) (bd2 (fw_L_hours_0_120 (xs (ix (x4 + (1 : Int32)))) (xs (ix (x4 + (2 : Int32)))) (xs (ix (x4 + (3 : Int32)))) M) fun v_366 M_367 => gd (inb (x4 + (1 : Int32)) xL) (gd (inb (x4 + (2 : Int32)) xL) (gd (inb (x4 + (3 : Int32)) xL) (bd2 (f_X10_hours_67 (xs (ix (x4 + (1 : Int32)))) (xs (ix (x4 + (2 : Int32)))) (xs (ix (x4 + (3 : Int32)))) M_367) fun v_374 M_373 => bd (f_X10_thrown_67 M_373) fun v_376 => if v_376 = v_366 then (if v_366 = 0 then (if (M_373.2 120 0) = v_374 then (ltv (x4 + (6 : Int32)) fun x4_378 => k_23 x4_378 M_373) else (none)) else (ltv (x4 + (6 : Int32)) fun x4_377 => k_23 x4_377 M_373)) else (none)))))))
set_option maxHeartbeats 4000000 in
set_option maxRecDepth 100000 in
theorem gb_L_law_1536 {b xL n cl sl : Nat} {xs : Nat → Int32} {k_23 : Int32 → Mm → Option Unit} {x4 : Int32} {M : Mm} (hE : Has shA (eH E)) (hl : l.stackTraces = false) (C : Cx RL cL_law 8 p room_1 s m #[Value.ref b] meth c E) (hr : meth.sig.returnType = ret) (hes : eS E = s.heap.size) (hX : va_X b xL xs s s.heap) (hbl : b < s.heap.size) (hbA : ¬ eF E b) (hb : cl + (n + 1) ≤ 1000) (hsb : sl + 6 * (n + 1) ≤ 10000) (hk : ∀ (x4 : Int32) (M : Mm) (cl sl : Nat), cl + n ≤ 1000 → sl + 6 * n ≤ 10000 → k_23 x4 M = some () → G p l e room_1 s m #[Value.ref b] below meth c E 8 cl sl (lw_Z below #[Value.ref b] s) 23 [(0, .ref b), (1, .ref (eA E 0)), (2, .ref (eA E 67)), (3, .ref (eA E 120)), (4, .int x4)] [] M) (h : bb_L_law_1536 xL xs k_23 x4 M = some ()) : G p l e room_1 s m #[Value.ref b] below meth c E 8 cl sl (lw_Z below #[Value.ref b] s) 1536 [(0, .ref b), (1, .ref (eA E 0)), (2, .ref (eA E 67)), (3, .ref (eA E 120)), (4, .int x4)] [] M := by
  unfold bb_L_law_1536 at h
  refine G.aload_n C 1 dL_law_1536 rfl rfl ?_
  refine G.aload_n C 0 dL_law_1537 rfl rfl ?_
  refine G.iload C 4 dL_law_1538 rfl ?_
  refine G.iconst (v := (1 : Int32)) C dL_law_1540 (by decide) ?_
  refine G.iadd C dL_law_1541 ?_
  obtain ⟨hg_363, h⟩ := gd_ex h
  refine G.sld C hX hbl hbA hg_363 dL_law_1542 ?_
  refine G.aload_n C 0 dL_law_1543 rfl rfl ?_
  refine G.iload C 4 dL_law_1544 rfl ?_
  refine G.iconst (v := (2 : Int32)) C dL_law_1546 (by decide) ?_
  refine G.iadd C dL_law_1547 ?_
  obtain ⟨hg_364, h⟩ := gd_ex h
  refine G.sld C hX hbl hbA hg_364 dL_law_1548 ?_
  refine G.aload_n C 0 dL_law_1549 rfl rfl ?_
  refine G.iload C 4 dL_law_1550 rfl ?_
  refine G.iconst (v := (3 : Int32)) C dL_law_1552 (by decide) ?_
  refine G.iadd C dL_law_1553 ?_
  obtain ⟨hg_365, h⟩ := gd_ex h
  refine G.sld C hX hbl hbA hg_365 dL_law_1554 ?_
  refine G.aload_n C 3 dL_law_1555 rfl rfl ?_
  obtain ⟨v_366, M_367, hv_368, h⟩ := bd2_ex h
  refine G.callSB (rest := []) C (sw_L_hours_0_120 hl hE hv_368) ⟨tg_1130, tg_89, ok_L_hours, Nat.le_of_ble_eq_true rfl, Nat.le_of_ble_eq_true rfl⟩ tg_1128 tg_1129 rfl (Nat.le_of_ble_eq_true rfl) dL_law_1556 ⟨show cl + 1 ≤ 600128 by omega, show sl + 6 ≤ 7301098 by omega⟩ ?_
  refine G.istore (L' := [(5, .int v_366), (0, .ref b), (1, .ref (eA E 0)), (2, .ref (eA E 67)), (3, .ref (eA E 120)), (4, .int x4)]) C dL_law_1559 rfl (by decide) rfl ?_
  refine G.aload_n C 3 dL_law_1561 rfl rfl ?_
  refine G.aload_n C 1 dL_law_1562 rfl rfl ?_
  refine G.iload C 5 dL_law_1563 rfl ?_
  refine G.iconst (v := (1 : Int32)) C dL_law_1565 (by decide) ?_
  refine G.iadd C dL_law_1566 ?_
  obtain ⟨hg_369, h⟩ := gd_ex h
  refine G.sld C hX hbl hbA hg_369 dL_law_1567 ?_
  refine G.aload_n C 1 dL_law_1568 rfl rfl ?_
  refine G.iload C 5 dL_law_1569 rfl ?_
  refine G.iconst (v := (2 : Int32)) C dL_law_1571 (by decide) ?_
  refine G.iadd C dL_law_1572 ?_
  obtain ⟨hg_370, h⟩ := gd_ex h
  refine G.sld C hX hbl hbA hg_370 dL_law_1573 ?_
  refine G.aload_n C 1 dL_law_1574 rfl rfl ?_
  refine G.iload C 5 dL_law_1575 rfl ?_
  refine G.iconst (v := (3 : Int32)) C dL_law_1577 (by decide) ?_
  refine G.iadd C dL_law_1578 ?_
  obtain ⟨hg_371, h⟩ := gd_ex h
  refine G.sld C hX hbl hbA hg_371 dL_law_1579 ?_
  obtain ⟨v_374, M_373, hv_372, h⟩ := bd2_ex h
  refine G.callV (rest := []) C (s_X10_hours_67 (hasM hE)  hv_372) ⟨tg_1841, tg_103, ok_X10_hours, Nat.le_of_ble_eq_true rfl, Nat.le_of_ble_eq_true rfl⟩ tg_1838 tg_1839 tg_1840 (sm_67 (hasM hE)) rfl rfl (Nat.le_of_ble_eq_true rfl) dL_law_1580 ⟨by show _ ≤ 600128; omega, by show _ ≤ 7301098; omega⟩ ?_
  refine G.lstore (L' := [(6, .long v_374), (5, .int v_366), (0, .ref b), (1, .ref (eA E 0)), (2, .ref (eA E 67)), (3, .ref (eA E 120)), (4, .int x4)]) C dL_law_1583 rfl (by decide) rfl ?_
  refine G.aload_n C 4 dL_law_1585 rfl rfl ?_
  obtain ⟨v_376, hv_375, h⟩ := bd_ex h
  refine G.callV (rest := []) C (s_X10_thrown_67 (hasM hE)  hv_375) ⟨tg_1585, tg_103, ok_X10_thrown, Nat.le_of_ble_eq_true rfl, Nat.le_of_ble_eq_true rfl⟩ tg_1582 tg_1583 tg_1584 (sm_67 (hasM hE)) rfl rfl (Nat.le_of_ble_eq_true rfl) dL_law_1586 ⟨by show _ ≤ 600128; omega, by show _ ≤ 7301098; omega⟩ ?_
  refine G.iload C 1 dL_law_1589 rfl ?_
  refine G.icmp_eq (tgt := 1596) C dL_law_1591 (by decide) (fun hc => ?_) (fun hc => ?_)
  · have h := it_t h hc
    refine G.iload C 1 dL_law_1596 rfl ?_
    refine G.if_ne (tgt := 1612) C dL_law_1598 (by decide) (fun hc => ?_) (fun hc => ?_)
    · have h := it_f h hc
      refine G.goto (tgt := 2798) C dL_law_1612 (by decide) ?_
      obtain ⟨x4_377, ex4_377, h⟩ := ltv_ex h
      refine G.iinc (L' := [(4, .int x4_377), (6, .long v_374), (5, .int v_366), (0, .ref b), (1, .ref (eA E 0)), (2, .ref (eA E 67)), (3, .ref (eA E 120))]) C 6 dL_law_2798 rfl (ex4_377.trans rfl) (by decide) rfl ?_
      refine G.goto (tgt := 23) C dL_law_2801 (by decide) ?_
      exact G.sub [3, 4, 5, 6, 0] rfl (hk _ _ _ _ (by omega) (by omega) h)
    · have h := it_t h hc
      refine G.aload_n C 5 dL_law_1601 rfl rfl ?_
      refine G.iconst (v := (0 : Int32)) C dL_law_1602 (by decide) ?_
      refine G.aJ (j := 0) C (sa_120 hE) (by decide) (by decide) dL_law_1603 ?_
      refine G.lload C 0 dL_law_1604 rfl ?_
      refine G.lcmp C dL_law_1606 (G.if_eq (tgt := 1612) C dL_law_1607 (by decide) (fun hc => ?_) (fun hc => ?_))
      · have h := it_t h (lgc_eq.mp hc)
        refine G.goto (tgt := 2798) C dL_law_1612 (by decide) ?_
        obtain ⟨x4_378, ex4_378, h⟩ := ltv_ex h
        refine G.iinc (L' := [(4, .int x4_378), (6, .long v_374), (5, .int v_366), (0, .ref b), (1, .ref (eA E 0)), (2, .ref (eA E 67)), (3, .ref (eA E 120))]) C 6 dL_law_2798 rfl (ex4_378.trans rfl) (by decide) rfl ?_
        refine G.goto (tgt := 23) C dL_law_2801 (by decide) ?_
        exact G.sub [3, 4, 5, 6, 0] rfl (hk _ _ _ _ (by omega) (by omega) h)
      · have h := it_f h ((not_congr lgc_eq).mp hc)
        refine G.iconst (v := (0 : Int32)) C dL_law_1610 (by decide) ?_
        cases h
  · have h := it_f h hc
    refine G.iconst (v := (0 : Int32)) C dL_law_1594 (by decide) ?_
    cases h
def bb_L_law_1615 (xL : Nat) (xs : Nat → Int32) (k_23 : Int32 → Mm → Option Unit) (x4 : Int32) (M : Mm) : Option Unit := gd (inb (x4 + (1 : Int32)) xL) (gd (inb (x4 + (2 : Int32)) xL) (gd (inb (x4 + (3 : Int32)) xL) (gd (inb (x4 + (4 : Int32)) xL) (bd2 (fw_L_order_0_120 (xs (ix (x4 + (1 : Int32)))) (xs (ix (x4 + (2 : Int32)))) (xs (ix (x4 + (3 : Int32)))) (xs (ix (x4 + (4 : Int32)))) M) fun v_383 M_384 => gd (inb (x4 + (1 : Int32)) xL) (gd (inb (x4 + (2 : Int32)) xL) (gd (inb (x4 + (3 : Int32)) xL) (gd (inb (x4 + (4 : Int32)) xL) (bd2 (f_X10_order_67 (xs (ix (x4 + (1 : Int32)))) (xs (ix (x4 + (2 : Int32)))) (xs (ix (x4 + (3 : Int32)))) (xs (ix (x4 + (4 : Int32)))) M_384) fun v_392 M_391 => bd (f_X10_thrown_67 M_391) fun v_394 => if v_394 = v_383 then (if v_383 = 0 then (if (M_391.2 120 0) = (v_392.toInt64) then (ltv (x4 + (6 : Int32)) fun x4_396 => k_23 x4_396 M_391) else (none)) else (ltv (x4 + (6 : Int32)) fun x4_395 => k_23 x4_395 M_391)) else (none)))))))))
set_option maxHeartbeats 4000000 in
set_option maxRecDepth 100000 in
theorem gb_L_law_1615 {b xL n cl sl : Nat} {xs : Nat → Int32} {k_23 : Int32 → Mm → Option Unit} {x4 : Int32} {M : Mm} (hE : Has shA (eH E)) (hl : l.stackTraces = false) (C : Cx RL cL_law 8 p room_1 s m #[Value.ref b] meth c E) (hr : meth.sig.returnType = ret) (hes : eS E = s.heap.size) (hX : va_X b xL xs s s.heap) (hbl : b < s.heap.size) (hbA : ¬ eF E b) (hb : cl + (n + 1) ≤ 1000) (hsb : sl + 6 * (n + 1) ≤ 10000) (hk : ∀ (x4 : Int32) (M : Mm) (cl sl : Nat), cl + n ≤ 1000 → sl + 6 * n ≤ 10000 → k_23 x4 M = some () → G p l e room_1 s m #[Value.ref b] below meth c E 8 cl sl (lw_Z below #[Value.ref b] s) 23 [(0, .ref b), (1, .ref (eA E 0)), (2, .ref (eA E 67)), (3, .ref (eA E 120)), (4, .int x4)] [] M) (h : bb_L_law_1615 xL xs k_23 x4 M = some ()) : G p l e room_1 s m #[Value.ref b] below meth c E 8 cl sl (lw_Z below #[Value.ref b] s) 1615 [(0, .ref b), (1, .ref (eA E 0)), (2, .ref (eA E 67)), (3, .ref (eA E 120)), (4, .int x4)] [] M := by
  unfold bb_L_law_1615 at h
  refine G.aload_n C 1 dL_law_1615 rfl rfl ?_
  refine G.aload_n C 0 dL_law_1616 rfl rfl ?_
  refine G.iload C 4 dL_law_1617 rfl ?_
  refine G.iconst (v := (1 : Int32)) C dL_law_1619 (by decide) ?_
  refine G.iadd C dL_law_1620 ?_
  obtain ⟨hg_379, h⟩ := gd_ex h
  refine G.sld C hX hbl hbA hg_379 dL_law_1621 ?_
  refine G.aload_n C 0 dL_law_1622 rfl rfl ?_
  refine G.iload C 4 dL_law_1623 rfl ?_
  refine G.iconst (v := (2 : Int32)) C dL_law_1625 (by decide) ?_
  refine G.iadd C dL_law_1626 ?_
  obtain ⟨hg_380, h⟩ := gd_ex h
  refine G.sld C hX hbl hbA hg_380 dL_law_1627 ?_
  refine G.aload_n C 0 dL_law_1628 rfl rfl ?_
  refine G.iload C 4 dL_law_1629 rfl ?_
  refine G.iconst (v := (3 : Int32)) C dL_law_1631 (by decide) ?_
  refine G.iadd C dL_law_1632 ?_
  obtain ⟨hg_381, h⟩ := gd_ex h
  refine G.sld C hX hbl hbA hg_381 dL_law_1633 ?_
  refine G.aload_n C 0 dL_law_1634 rfl rfl ?_
  refine G.iload C 4 dL_law_1635 rfl ?_
  refine G.iconst (v := (4 : Int32)) C dL_law_1637 (by decide) ?_
  refine G.iadd C dL_law_1638 ?_
  obtain ⟨hg_382, h⟩ := gd_ex h
  refine G.sld C hX hbl hbA hg_382 dL_law_1639 ?_
  refine G.aload_n C 3 dL_law_1640 rfl rfl ?_
  obtain ⟨v_383, M_384, hv_385, h⟩ := bd2_ex h
  refine G.callSB (rest := []) C (sw_L_order_0_120 hl hE hv_385) ⟨tg_1177, tg_89, ok_L_order, Nat.le_of_ble_eq_true rfl, Nat.le_of_ble_eq_true rfl⟩ tg_1175 tg_1176 rfl (Nat.le_of_ble_eq_true rfl) dL_law_1641 ⟨show cl + 1 ≤ 600128 by omega, show sl + 6 ≤ 7301098 by omega⟩ ?_
  refine G.istore (L' := [(5, .int v_383), (0, .ref b), (1, .ref (eA E 0)), (2, .ref (eA E 67)), (3, .ref (eA E 120)), (4, .int x4)]) C dL_law_1644 rfl (by decide) rfl ?_
  refine G.aload_n C 3 dL_law_1646 rfl rfl ?_
  refine G.aload_n C 1 dL_law_1647 rfl rfl ?_
  refine G.iload C 5 dL_law_1648 rfl ?_
  refine G.iconst (v := (1 : Int32)) C dL_law_1650 (by decide) ?_
  refine G.iadd C dL_law_1651 ?_
  obtain ⟨hg_386, h⟩ := gd_ex h
  refine G.sld C hX hbl hbA hg_386 dL_law_1652 ?_
  refine G.aload_n C 1 dL_law_1653 rfl rfl ?_
  refine G.iload C 5 dL_law_1654 rfl ?_
  refine G.iconst (v := (2 : Int32)) C dL_law_1656 (by decide) ?_
  refine G.iadd C dL_law_1657 ?_
  obtain ⟨hg_387, h⟩ := gd_ex h
  refine G.sld C hX hbl hbA hg_387 dL_law_1658 ?_
  refine G.aload_n C 1 dL_law_1659 rfl rfl ?_
  refine G.iload C 5 dL_law_1660 rfl ?_
  refine G.iconst (v := (3 : Int32)) C dL_law_1662 (by decide) ?_
  refine G.iadd C dL_law_1663 ?_
  obtain ⟨hg_388, h⟩ := gd_ex h
  refine G.sld C hX hbl hbA hg_388 dL_law_1664 ?_
  refine G.aload_n C 1 dL_law_1665 rfl rfl ?_
  refine G.iload C 5 dL_law_1666 rfl ?_
  refine G.iconst (v := (4 : Int32)) C dL_law_1668 (by decide) ?_
  refine G.iadd C dL_law_1669 ?_
  obtain ⟨hg_389, h⟩ := gd_ex h
  refine G.sld C hX hbl hbA hg_389 dL_law_1670 ?_
  obtain ⟨v_392, M_391, hv_390, h⟩ := bd2_ex h
  refine G.callV (rest := []) C (s_X10_order_67 (hasM hE)  hv_390) ⟨tg_1870, tg_103, ok_X10_order, Nat.le_of_ble_eq_true rfl, Nat.le_of_ble_eq_true rfl⟩ tg_1867 tg_1868 tg_1869 (sm_67 (hasM hE)) rfl rfl (Nat.le_of_ble_eq_true rfl) dL_law_1671 ⟨by show _ ≤ 600128; omega, by show _ ≤ 7301098; omega⟩ ?_
  refine G.istore (L' := [(6, .int v_392), (5, .int v_383), (0, .ref b), (1, .ref (eA E 0)), (2, .ref (eA E 67)), (3, .ref (eA E 120)), (4, .int x4)]) C dL_law_1674 rfl (by decide) rfl ?_
  refine G.aload_n C 4 dL_law_1676 rfl rfl ?_
  obtain ⟨v_394, hv_393, h⟩ := bd_ex h
  refine G.callV (rest := []) C (s_X10_thrown_67 (hasM hE)  hv_393) ⟨tg_1585, tg_103, ok_X10_thrown, Nat.le_of_ble_eq_true rfl, Nat.le_of_ble_eq_true rfl⟩ tg_1582 tg_1583 tg_1584 (sm_67 (hasM hE)) rfl rfl (Nat.le_of_ble_eq_true rfl) dL_law_1677 ⟨by show _ ≤ 600128; omega, by show _ ≤ 7301098; omega⟩ ?_
  refine G.iload C 1 dL_law_1680 rfl ?_
  refine G.icmp_eq (tgt := 1687) C dL_law_1682 (by decide) (fun hc => ?_) (fun hc => ?_)
  · have h := it_t h hc
    refine G.iload C 1 dL_law_1687 rfl ?_
    refine G.if_ne (tgt := 1704) C dL_law_1689 (by decide) (fun hc => ?_) (fun hc => ?_)
    · have h := it_f h hc
      refine G.goto (tgt := 2798) C dL_law_1704 (by decide) ?_
      obtain ⟨x4_395, ex4_395, h⟩ := ltv_ex h
      refine G.iinc (L' := [(4, .int x4_395), (6, .int v_392), (5, .int v_383), (0, .ref b), (1, .ref (eA E 0)), (2, .ref (eA E 67)), (3, .ref (eA E 120))]) C 6 dL_law_2798 rfl (ex4_395.trans rfl) (by decide) rfl ?_
      refine G.goto (tgt := 23) C dL_law_2801 (by decide) ?_
      exact G.sub [3, 4, 5, 6, 0] rfl (hk _ _ _ _ (by omega) (by omega) h)
    · have h := it_t h hc
      refine G.aload_n C 5 dL_law_1692 rfl rfl ?_
      refine G.iconst (v := (0 : Int32)) C dL_law_1693 (by decide) ?_
      refine G.aJ (j := 0) C (sa_120 hE) (by decide) (by decide) dL_law_1694 ?_
      refine G.iload C 0 dL_law_1695 rfl ?_
      refine G.i2l (v := v_392.toInt64) C dL_law_1697 rfl ?_
      refine G.lcmp C dL_law_1698 (G.if_eq (tgt := 1704) C dL_law_1699 (by decide) (fun hc => ?_) (fun hc => ?_))
      · have h := it_t h (lgc_eq.mp hc)
        refine G.goto (tgt := 2798) C dL_law_1704 (by decide) ?_
        obtain ⟨x4_396, ex4_396, h⟩ := ltv_ex h
        refine G.iinc (L' := [(4, .int x4_396), (6, .int v_392), (5, .int v_383), (0, .ref b), (1, .ref (eA E 0)), (2, .ref (eA E 67)), (3, .ref (eA E 120))]) C 6 dL_law_2798 rfl (ex4_396.trans rfl) (by decide) rfl ?_
        refine G.goto (tgt := 23) C dL_law_2801 (by decide) ?_
        exact G.sub [3, 4, 5, 6, 0] rfl (hk _ _ _ _ (by omega) (by omega) h)
      · have h := it_f h ((not_congr lgc_eq).mp hc)
        refine G.iconst (v := (0 : Int32)) C dL_law_1702 (by decide) ?_
        cases h
  · have h := it_f h hc
    refine G.iconst (v := (0 : Int32)) C dL_law_1685 (by decide) ?_
    cases h
def bb_L_law_1707 (xL : Nat) (xs : Nat → Int32) (k_23 : Int32 → Mm → Option Unit) (x4 : Int32) (M : Mm) : Option Unit := gd (inb (x4 + (1 : Int32)) xL) (gd (inb (x4 + (2 : Int32)) xL) (bd2 (fw_L_black_0_120 (xs (ix (x4 + (1 : Int32)))) (xs (ix (x4 + (2 : Int32)))) M) fun v_399 M_400 => gd (inb (x4 + (1 : Int32)) xL) (gd (inb (x4 + (2 : Int32)) xL) (bd2 (f_X10_black_67 (xs (ix (x4 + (1 : Int32)))) (xs (ix (x4 + (2 : Int32)))) M_400) fun v_406 M_405 => bd (f_X10_thrown_67 M_405) fun v_408 => if v_408 = v_399 then (if v_399 = 0 then (if (M_405.2 120 0) = (v_406.toInt64) then (ltv (x4 + (6 : Int32)) fun x4_410 => k_23 x4_410 M_405) else (none)) else (ltv (x4 + (6 : Int32)) fun x4_409 => k_23 x4_409 M_405)) else (none)))))
set_option maxHeartbeats 4000000 in
set_option maxRecDepth 100000 in
theorem gb_L_law_1707 {b xL n cl sl : Nat} {xs : Nat → Int32} {k_23 : Int32 → Mm → Option Unit} {x4 : Int32} {M : Mm} (hE : Has shA (eH E)) (hl : l.stackTraces = false) (C : Cx RL cL_law 8 p room_1 s m #[Value.ref b] meth c E) (hr : meth.sig.returnType = ret) (hes : eS E = s.heap.size) (hX : va_X b xL xs s s.heap) (hbl : b < s.heap.size) (hbA : ¬ eF E b) (hb : cl + (n + 1) ≤ 1000) (hsb : sl + 6 * (n + 1) ≤ 10000) (hk : ∀ (x4 : Int32) (M : Mm) (cl sl : Nat), cl + n ≤ 1000 → sl + 6 * n ≤ 10000 → k_23 x4 M = some () → G p l e room_1 s m #[Value.ref b] below meth c E 8 cl sl (lw_Z below #[Value.ref b] s) 23 [(0, .ref b), (1, .ref (eA E 0)), (2, .ref (eA E 67)), (3, .ref (eA E 120)), (4, .int x4)] [] M) (h : bb_L_law_1707 xL xs k_23 x4 M = some ()) : G p l e room_1 s m #[Value.ref b] below meth c E 8 cl sl (lw_Z below #[Value.ref b] s) 1707 [(0, .ref b), (1, .ref (eA E 0)), (2, .ref (eA E 67)), (3, .ref (eA E 120)), (4, .int x4)] [] M := by
  unfold bb_L_law_1707 at h
  refine G.aload_n C 1 dL_law_1707 rfl rfl ?_
  refine G.aload_n C 0 dL_law_1708 rfl rfl ?_
  refine G.iload C 4 dL_law_1709 rfl ?_
  refine G.iconst (v := (1 : Int32)) C dL_law_1711 (by decide) ?_
  refine G.iadd C dL_law_1712 ?_
  obtain ⟨hg_397, h⟩ := gd_ex h
  refine G.sld C hX hbl hbA hg_397 dL_law_1713 ?_
  refine G.aload_n C 0 dL_law_1714 rfl rfl ?_
  refine G.iload C 4 dL_law_1715 rfl ?_
  refine G.iconst (v := (2 : Int32)) C dL_law_1717 (by decide) ?_
  refine G.iadd C dL_law_1718 ?_
  obtain ⟨hg_398, h⟩ := gd_ex h
  refine G.sld C hX hbl hbA hg_398 dL_law_1719 ?_
  refine G.aload_n C 3 dL_law_1720 rfl rfl ?_
  obtain ⟨v_399, M_400, hv_401, h⟩ := bd2_ex h
  refine G.callSB (rest := []) C (sw_L_black_0_120 hl hE hv_401) ⟨tg_1188, tg_89, ok_L_black, Nat.le_of_ble_eq_true rfl, Nat.le_of_ble_eq_true rfl⟩ tg_1186 tg_1187 rfl (Nat.le_of_ble_eq_true rfl) dL_law_1721 ⟨show cl + 1 ≤ 600128 by omega, show sl + 6 ≤ 7301098 by omega⟩ ?_
  refine G.istore (L' := [(5, .int v_399), (0, .ref b), (1, .ref (eA E 0)), (2, .ref (eA E 67)), (3, .ref (eA E 120)), (4, .int x4)]) C dL_law_1724 rfl (by decide) rfl ?_
  refine G.aload_n C 3 dL_law_1726 rfl rfl ?_
  refine G.aload_n C 1 dL_law_1727 rfl rfl ?_
  refine G.iload C 5 dL_law_1728 rfl ?_
  refine G.iconst (v := (1 : Int32)) C dL_law_1730 (by decide) ?_
  refine G.iadd C dL_law_1731 ?_
  obtain ⟨hg_402, h⟩ := gd_ex h
  refine G.sld C hX hbl hbA hg_402 dL_law_1732 ?_
  refine G.aload_n C 1 dL_law_1733 rfl rfl ?_
  refine G.iload C 5 dL_law_1734 rfl ?_
  refine G.iconst (v := (2 : Int32)) C dL_law_1736 (by decide) ?_
  refine G.iadd C dL_law_1737 ?_
  obtain ⟨hg_403, h⟩ := gd_ex h
  refine G.sld C hX hbl hbA hg_403 dL_law_1738 ?_
  obtain ⟨v_406, M_405, hv_404, h⟩ := bd2_ex h
  refine G.callV (rest := []) C (s_X10_black_67 (hasM hE)  hv_404) ⟨tg_1878, tg_103, ok_X10_black, Nat.le_of_ble_eq_true rfl, Nat.le_of_ble_eq_true rfl⟩ tg_1875 tg_1876 tg_1877 (sm_67 (hasM hE)) rfl rfl (Nat.le_of_ble_eq_true rfl) dL_law_1739 ⟨by show _ ≤ 600128; omega, by show _ ≤ 7301098; omega⟩ ?_
  refine G.istore (L' := [(6, .int v_406), (5, .int v_399), (0, .ref b), (1, .ref (eA E 0)), (2, .ref (eA E 67)), (3, .ref (eA E 120)), (4, .int x4)]) C dL_law_1742 rfl (by decide) rfl ?_
  refine G.aload_n C 4 dL_law_1744 rfl rfl ?_
  obtain ⟨v_408, hv_407, h⟩ := bd_ex h
  refine G.callV (rest := []) C (s_X10_thrown_67 (hasM hE)  hv_407) ⟨tg_1585, tg_103, ok_X10_thrown, Nat.le_of_ble_eq_true rfl, Nat.le_of_ble_eq_true rfl⟩ tg_1582 tg_1583 tg_1584 (sm_67 (hasM hE)) rfl rfl (Nat.le_of_ble_eq_true rfl) dL_law_1745 ⟨by show _ ≤ 600128; omega, by show _ ≤ 7301098; omega⟩ ?_
  refine G.iload C 1 dL_law_1748 rfl ?_
  refine G.icmp_eq (tgt := 1755) C dL_law_1750 (by decide) (fun hc => ?_) (fun hc => ?_)
  · have h := it_t h hc
    refine G.iload C 1 dL_law_1755 rfl ?_
    refine G.if_ne (tgt := 1772) C dL_law_1757 (by decide) (fun hc => ?_) (fun hc => ?_)
    · have h := it_f h hc
      refine G.goto (tgt := 2798) C dL_law_1772 (by decide) ?_
      obtain ⟨x4_409, ex4_409, h⟩ := ltv_ex h
      refine G.iinc (L' := [(4, .int x4_409), (6, .int v_406), (5, .int v_399), (0, .ref b), (1, .ref (eA E 0)), (2, .ref (eA E 67)), (3, .ref (eA E 120))]) C 6 dL_law_2798 rfl (ex4_409.trans rfl) (by decide) rfl ?_
      refine G.goto (tgt := 23) C dL_law_2801 (by decide) ?_
      exact G.sub [3, 4, 5, 6, 0] rfl (hk _ _ _ _ (by omega) (by omega) h)
    · have h := it_t h hc
      refine G.aload_n C 5 dL_law_1760 rfl rfl ?_
      refine G.iconst (v := (0 : Int32)) C dL_law_1761 (by decide) ?_
      refine G.aJ (j := 0) C (sa_120 hE) (by decide) (by decide) dL_law_1762 ?_
      refine G.iload C 0 dL_law_1763 rfl ?_
      refine G.i2l (v := v_406.toInt64) C dL_law_1765 rfl ?_
      refine G.lcmp C dL_law_1766 (G.if_eq (tgt := 1772) C dL_law_1767 (by decide) (fun hc => ?_) (fun hc => ?_))
      · have h := it_t h (lgc_eq.mp hc)
        refine G.goto (tgt := 2798) C dL_law_1772 (by decide) ?_
        obtain ⟨x4_410, ex4_410, h⟩ := ltv_ex h
        refine G.iinc (L' := [(4, .int x4_410), (6, .int v_406), (5, .int v_399), (0, .ref b), (1, .ref (eA E 0)), (2, .ref (eA E 67)), (3, .ref (eA E 120))]) C 6 dL_law_2798 rfl (ex4_410.trans rfl) (by decide) rfl ?_
        refine G.goto (tgt := 23) C dL_law_2801 (by decide) ?_
        exact G.sub [3, 4, 5, 6, 0] rfl (hk _ _ _ _ (by omega) (by omega) h)
      · have h := it_f h ((not_congr lgc_eq).mp hc)
        refine G.iconst (v := (0 : Int32)) C dL_law_1770 (by decide) ?_
        cases h
  · have h := it_f h hc
    refine G.iconst (v := (0 : Int32)) C dL_law_1753 (by decide) ?_
    cases h
def bb_L_law_1775 (xL : Nat) (xs : Nat → Int32) (k_23 : Int32 → Mm → Option Unit) (x4 : Int32) (M : Mm) : Option Unit := gd (inb (x4 + (1 : Int32)) xL) (gd (inb (x4 + (2 : Int32)) xL) (gd (inb (x4 + (3 : Int32)) xL) (bd2 (fw_L_colour_0_120 (xs (ix (x4 + (1 : Int32)))) (xs (ix (x4 + (2 : Int32)))) (xs (ix (x4 + (3 : Int32)))) M) fun v_414 M_415 => gd (inb (x4 + (1 : Int32)) xL) (gd (inb (x4 + (2 : Int32)) xL) (gd (inb (x4 + (3 : Int32)) xL) (bd2 (f_X10_colour_67 (xs (ix (x4 + (1 : Int32)))) (xs (ix (x4 + (2 : Int32)))) (xs (ix (x4 + (3 : Int32)))) M_415) fun v_422 M_421 => bd (f_X10_thrown_67 M_421) fun v_424 => if v_424 = v_414 then (if v_414 = 0 then (if (M_421.2 120 0) = (v_422.toInt64) then (ltv (x4 + (6 : Int32)) fun x4_426 => k_23 x4_426 M_421) else (none)) else (ltv (x4 + (6 : Int32)) fun x4_425 => k_23 x4_425 M_421)) else (none)))))))
set_option maxHeartbeats 4000000 in
set_option maxRecDepth 100000 in
theorem gb_L_law_1775 {b xL n cl sl : Nat} {xs : Nat → Int32} {k_23 : Int32 → Mm → Option Unit} {x4 : Int32} {M : Mm} (hE : Has shA (eH E)) (hl : l.stackTraces = false) (C : Cx RL cL_law 8 p room_1 s m #[Value.ref b] meth c E) (hr : meth.sig.returnType = ret) (hes : eS E = s.heap.size) (hX : va_X b xL xs s s.heap) (hbl : b < s.heap.size) (hbA : ¬ eF E b) (hb : cl + (n + 1) ≤ 1000) (hsb : sl + 6 * (n + 1) ≤ 10000) (hk : ∀ (x4 : Int32) (M : Mm) (cl sl : Nat), cl + n ≤ 1000 → sl + 6 * n ≤ 10000 → k_23 x4 M = some () → G p l e room_1 s m #[Value.ref b] below meth c E 8 cl sl (lw_Z below #[Value.ref b] s) 23 [(0, .ref b), (1, .ref (eA E 0)), (2, .ref (eA E 67)), (3, .ref (eA E 120)), (4, .int x4)] [] M) (h : bb_L_law_1775 xL xs k_23 x4 M = some ()) : G p l e room_1 s m #[Value.ref b] below meth c E 8 cl sl (lw_Z below #[Value.ref b] s) 1775 [(0, .ref b), (1, .ref (eA E 0)), (2, .ref (eA E 67)), (3, .ref (eA E 120)), (4, .int x4)] [] M := by
  unfold bb_L_law_1775 at h
  refine G.aload_n C 1 dL_law_1775 rfl rfl ?_
  refine G.aload_n C 0 dL_law_1776 rfl rfl ?_
  refine G.iload C 4 dL_law_1777 rfl ?_
  refine G.iconst (v := (1 : Int32)) C dL_law_1779 (by decide) ?_
  refine G.iadd C dL_law_1780 ?_
  obtain ⟨hg_411, h⟩ := gd_ex h
  refine G.sld C hX hbl hbA hg_411 dL_law_1781 ?_
  refine G.aload_n C 0 dL_law_1782 rfl rfl ?_
  refine G.iload C 4 dL_law_1783 rfl ?_
  refine G.iconst (v := (2 : Int32)) C dL_law_1785 (by decide) ?_
  refine G.iadd C dL_law_1786 ?_
  obtain ⟨hg_412, h⟩ := gd_ex h
  refine G.sld C hX hbl hbA hg_412 dL_law_1787 ?_
  refine G.aload_n C 0 dL_law_1788 rfl rfl ?_
  refine G.iload C 4 dL_law_1789 rfl ?_
  refine G.iconst (v := (3 : Int32)) C dL_law_1791 (by decide) ?_
  refine G.iadd C dL_law_1792 ?_
  obtain ⟨hg_413, h⟩ := gd_ex h
  refine G.sld C hX hbl hbA hg_413 dL_law_1793 ?_
  refine G.aload_n C 3 dL_law_1794 rfl rfl ?_
  obtain ⟨v_414, M_415, hv_416, h⟩ := bd2_ex h
  refine G.callSB (rest := []) C (sw_L_colour_0_120 hl hE hv_416) ⟨tg_1199, tg_89, ok_L_colour, Nat.le_of_ble_eq_true rfl, Nat.le_of_ble_eq_true rfl⟩ tg_1197 tg_1198 rfl (Nat.le_of_ble_eq_true rfl) dL_law_1795 ⟨show cl + 1 ≤ 600128 by omega, show sl + 6 ≤ 7301098 by omega⟩ ?_
  refine G.istore (L' := [(5, .int v_414), (0, .ref b), (1, .ref (eA E 0)), (2, .ref (eA E 67)), (3, .ref (eA E 120)), (4, .int x4)]) C dL_law_1798 rfl (by decide) rfl ?_
  refine G.aload_n C 3 dL_law_1800 rfl rfl ?_
  refine G.aload_n C 1 dL_law_1801 rfl rfl ?_
  refine G.iload C 5 dL_law_1802 rfl ?_
  refine G.iconst (v := (1 : Int32)) C dL_law_1804 (by decide) ?_
  refine G.iadd C dL_law_1805 ?_
  obtain ⟨hg_417, h⟩ := gd_ex h
  refine G.sld C hX hbl hbA hg_417 dL_law_1806 ?_
  refine G.aload_n C 1 dL_law_1807 rfl rfl ?_
  refine G.iload C 5 dL_law_1808 rfl ?_
  refine G.iconst (v := (2 : Int32)) C dL_law_1810 (by decide) ?_
  refine G.iadd C dL_law_1811 ?_
  obtain ⟨hg_418, h⟩ := gd_ex h
  refine G.sld C hX hbl hbA hg_418 dL_law_1812 ?_
  refine G.aload_n C 1 dL_law_1813 rfl rfl ?_
  refine G.iload C 5 dL_law_1814 rfl ?_
  refine G.iconst (v := (3 : Int32)) C dL_law_1816 (by decide) ?_
  refine G.iadd C dL_law_1817 ?_
  obtain ⟨hg_419, h⟩ := gd_ex h
  refine G.sld C hX hbl hbA hg_419 dL_law_1818 ?_
  obtain ⟨v_422, M_421, hv_420, h⟩ := bd2_ex h
  refine G.callV (rest := []) C (s_X10_colour_67 (hasM hE)  hv_420) ⟨tg_1886, tg_103, ok_X10_colour, Nat.le_of_ble_eq_true rfl, Nat.le_of_ble_eq_true rfl⟩ tg_1883 tg_1884 tg_1885 (sm_67 (hasM hE)) rfl rfl (Nat.le_of_ble_eq_true rfl) dL_law_1819 ⟨by show _ ≤ 600128; omega, by show _ ≤ 7301098; omega⟩ ?_
  refine G.istore (L' := [(6, .int v_422), (5, .int v_414), (0, .ref b), (1, .ref (eA E 0)), (2, .ref (eA E 67)), (3, .ref (eA E 120)), (4, .int x4)]) C dL_law_1822 rfl (by decide) rfl ?_
  refine G.aload_n C 4 dL_law_1824 rfl rfl ?_
  obtain ⟨v_424, hv_423, h⟩ := bd_ex h
  refine G.callV (rest := []) C (s_X10_thrown_67 (hasM hE)  hv_423) ⟨tg_1585, tg_103, ok_X10_thrown, Nat.le_of_ble_eq_true rfl, Nat.le_of_ble_eq_true rfl⟩ tg_1582 tg_1583 tg_1584 (sm_67 (hasM hE)) rfl rfl (Nat.le_of_ble_eq_true rfl) dL_law_1825 ⟨by show _ ≤ 600128; omega, by show _ ≤ 7301098; omega⟩ ?_
  refine G.iload C 1 dL_law_1828 rfl ?_
  refine G.icmp_eq (tgt := 1835) C dL_law_1830 (by decide) (fun hc => ?_) (fun hc => ?_)
  · have h := it_t h hc
    refine G.iload C 1 dL_law_1835 rfl ?_
    refine G.if_ne (tgt := 1852) C dL_law_1837 (by decide) (fun hc => ?_) (fun hc => ?_)
    · have h := it_f h hc
      refine G.goto (tgt := 2798) C dL_law_1852 (by decide) ?_
      obtain ⟨x4_425, ex4_425, h⟩ := ltv_ex h
      refine G.iinc (L' := [(4, .int x4_425), (6, .int v_422), (5, .int v_414), (0, .ref b), (1, .ref (eA E 0)), (2, .ref (eA E 67)), (3, .ref (eA E 120))]) C 6 dL_law_2798 rfl (ex4_425.trans rfl) (by decide) rfl ?_
      refine G.goto (tgt := 23) C dL_law_2801 (by decide) ?_
      exact G.sub [3, 4, 5, 6, 0] rfl (hk _ _ _ _ (by omega) (by omega) h)
    · have h := it_t h hc
      refine G.aload_n C 5 dL_law_1840 rfl rfl ?_
      refine G.iconst (v := (0 : Int32)) C dL_law_1841 (by decide) ?_
      refine G.aJ (j := 0) C (sa_120 hE) (by decide) (by decide) dL_law_1842 ?_
      refine G.iload C 0 dL_law_1843 rfl ?_
      refine G.i2l (v := v_422.toInt64) C dL_law_1845 rfl ?_
      refine G.lcmp C dL_law_1846 (G.if_eq (tgt := 1852) C dL_law_1847 (by decide) (fun hc => ?_) (fun hc => ?_))
      · have h := it_t h (lgc_eq.mp hc)
        refine G.goto (tgt := 2798) C dL_law_1852 (by decide) ?_
        obtain ⟨x4_426, ex4_426, h⟩ := ltv_ex h
        refine G.iinc (L' := [(4, .int x4_426), (6, .int v_422), (5, .int v_414), (0, .ref b), (1, .ref (eA E 0)), (2, .ref (eA E 67)), (3, .ref (eA E 120))]) C 6 dL_law_2798 rfl (ex4_426.trans rfl) (by decide) rfl ?_
        refine G.goto (tgt := 23) C dL_law_2801 (by decide) ?_
        exact G.sub [3, 4, 5, 6, 0] rfl (hk _ _ _ _ (by omega) (by omega) h)
      · have h := it_f h ((not_congr lgc_eq).mp hc)
        refine G.iconst (v := (0 : Int32)) C dL_law_1850 (by decide) ?_
        cases h
  · have h := it_f h hc
    refine G.iconst (v := (0 : Int32)) C dL_law_1833 (by decide) ?_
    cases h
def bb_L_law_1855 (xL : Nat) (xs : Nat → Int32) (k_23 : Int32 → Mm → Option Unit) (x4 : Int32) (M : Mm) : Option Unit := gd (inb (x4 + (1 : Int32)) xL) (gd (inb (x4 + (2 : Int32)) xL) (bd2 (fw_L_uneven_0_120 (xs (ix (x4 + (1 : Int32)))) (xs (ix (x4 + (2 : Int32)))) M) fun v_429 M_430 => gd (inb (x4 + (1 : Int32)) xL) (gd (inb (x4 + (2 : Int32)) xL) (bd2 (f_X10_uneven_67 (xs (ix (x4 + (1 : Int32)))) (xs (ix (x4 + (2 : Int32)))) M_430) fun v_436 M_435 => bd (f_X10_thrown_67 M_435) fun v_438 => if v_438 = v_429 then (if v_429 = 0 then (if (M_435.2 120 0) = (v_436.toInt64) then (ltv (x4 + (6 : Int32)) fun x4_440 => k_23 x4_440 M_435) else (none)) else (ltv (x4 + (6 : Int32)) fun x4_439 => k_23 x4_439 M_435)) else (none)))))
set_option maxHeartbeats 4000000 in
set_option maxRecDepth 100000 in
theorem gb_L_law_1855 {b xL n cl sl : Nat} {xs : Nat → Int32} {k_23 : Int32 → Mm → Option Unit} {x4 : Int32} {M : Mm} (hE : Has shA (eH E)) (hl : l.stackTraces = false) (C : Cx RL cL_law 8 p room_1 s m #[Value.ref b] meth c E) (hr : meth.sig.returnType = ret) (hes : eS E = s.heap.size) (hX : va_X b xL xs s s.heap) (hbl : b < s.heap.size) (hbA : ¬ eF E b) (hb : cl + (n + 1) ≤ 1000) (hsb : sl + 6 * (n + 1) ≤ 10000) (hk : ∀ (x4 : Int32) (M : Mm) (cl sl : Nat), cl + n ≤ 1000 → sl + 6 * n ≤ 10000 → k_23 x4 M = some () → G p l e room_1 s m #[Value.ref b] below meth c E 8 cl sl (lw_Z below #[Value.ref b] s) 23 [(0, .ref b), (1, .ref (eA E 0)), (2, .ref (eA E 67)), (3, .ref (eA E 120)), (4, .int x4)] [] M) (h : bb_L_law_1855 xL xs k_23 x4 M = some ()) : G p l e room_1 s m #[Value.ref b] below meth c E 8 cl sl (lw_Z below #[Value.ref b] s) 1855 [(0, .ref b), (1, .ref (eA E 0)), (2, .ref (eA E 67)), (3, .ref (eA E 120)), (4, .int x4)] [] M := by
  unfold bb_L_law_1855 at h
  refine G.aload_n C 1 dL_law_1855 rfl rfl ?_
  refine G.aload_n C 0 dL_law_1856 rfl rfl ?_
  refine G.iload C 4 dL_law_1857 rfl ?_
  refine G.iconst (v := (1 : Int32)) C dL_law_1859 (by decide) ?_
  refine G.iadd C dL_law_1860 ?_
  obtain ⟨hg_427, h⟩ := gd_ex h
  refine G.sld C hX hbl hbA hg_427 dL_law_1861 ?_
  refine G.aload_n C 0 dL_law_1862 rfl rfl ?_
  refine G.iload C 4 dL_law_1863 rfl ?_
  refine G.iconst (v := (2 : Int32)) C dL_law_1865 (by decide) ?_
  refine G.iadd C dL_law_1866 ?_
  obtain ⟨hg_428, h⟩ := gd_ex h
  refine G.sld C hX hbl hbA hg_428 dL_law_1867 ?_
  refine G.aload_n C 3 dL_law_1868 rfl rfl ?_
  obtain ⟨v_429, M_430, hv_431, h⟩ := bd2_ex h
  refine G.callSB (rest := []) C (sw_L_uneven_0_120 hl hE hv_431) ⟨tg_1226, tg_89, ok_L_uneven, Nat.le_of_ble_eq_true rfl, Nat.le_of_ble_eq_true rfl⟩ tg_1224 tg_1225 rfl (Nat.le_of_ble_eq_true rfl) dL_law_1869 ⟨show cl + 1 ≤ 600128 by omega, show sl + 6 ≤ 7301098 by omega⟩ ?_
  refine G.istore (L' := [(5, .int v_429), (0, .ref b), (1, .ref (eA E 0)), (2, .ref (eA E 67)), (3, .ref (eA E 120)), (4, .int x4)]) C dL_law_1872 rfl (by decide) rfl ?_
  refine G.aload_n C 3 dL_law_1874 rfl rfl ?_
  refine G.aload_n C 1 dL_law_1875 rfl rfl ?_
  refine G.iload C 5 dL_law_1876 rfl ?_
  refine G.iconst (v := (1 : Int32)) C dL_law_1878 (by decide) ?_
  refine G.iadd C dL_law_1879 ?_
  obtain ⟨hg_432, h⟩ := gd_ex h
  refine G.sld C hX hbl hbA hg_432 dL_law_1880 ?_
  refine G.aload_n C 1 dL_law_1881 rfl rfl ?_
  refine G.iload C 5 dL_law_1882 rfl ?_
  refine G.iconst (v := (2 : Int32)) C dL_law_1884 (by decide) ?_
  refine G.iadd C dL_law_1885 ?_
  obtain ⟨hg_433, h⟩ := gd_ex h
  refine G.sld C hX hbl hbA hg_433 dL_law_1886 ?_
  obtain ⟨v_436, M_435, hv_434, h⟩ := bd2_ex h
  refine G.callV (rest := []) C (s_X10_uneven_67 (hasM hE)  hv_434) ⟨tg_1905, tg_103, ok_X10_uneven, Nat.le_of_ble_eq_true rfl, Nat.le_of_ble_eq_true rfl⟩ tg_1902 tg_1903 tg_1904 (sm_67 (hasM hE)) rfl rfl (Nat.le_of_ble_eq_true rfl) dL_law_1887 ⟨by show _ ≤ 600128; omega, by show _ ≤ 7301098; omega⟩ ?_
  refine G.istore (L' := [(6, .int v_436), (5, .int v_429), (0, .ref b), (1, .ref (eA E 0)), (2, .ref (eA E 67)), (3, .ref (eA E 120)), (4, .int x4)]) C dL_law_1890 rfl (by decide) rfl ?_
  refine G.aload_n C 4 dL_law_1892 rfl rfl ?_
  obtain ⟨v_438, hv_437, h⟩ := bd_ex h
  refine G.callV (rest := []) C (s_X10_thrown_67 (hasM hE)  hv_437) ⟨tg_1585, tg_103, ok_X10_thrown, Nat.le_of_ble_eq_true rfl, Nat.le_of_ble_eq_true rfl⟩ tg_1582 tg_1583 tg_1584 (sm_67 (hasM hE)) rfl rfl (Nat.le_of_ble_eq_true rfl) dL_law_1893 ⟨by show _ ≤ 600128; omega, by show _ ≤ 7301098; omega⟩ ?_
  refine G.iload C 1 dL_law_1896 rfl ?_
  refine G.icmp_eq (tgt := 1903) C dL_law_1898 (by decide) (fun hc => ?_) (fun hc => ?_)
  · have h := it_t h hc
    refine G.iload C 1 dL_law_1903 rfl ?_
    refine G.if_ne (tgt := 1920) C dL_law_1905 (by decide) (fun hc => ?_) (fun hc => ?_)
    · have h := it_f h hc
      refine G.goto (tgt := 2798) C dL_law_1920 (by decide) ?_
      obtain ⟨x4_439, ex4_439, h⟩ := ltv_ex h
      refine G.iinc (L' := [(4, .int x4_439), (6, .int v_436), (5, .int v_429), (0, .ref b), (1, .ref (eA E 0)), (2, .ref (eA E 67)), (3, .ref (eA E 120))]) C 6 dL_law_2798 rfl (ex4_439.trans rfl) (by decide) rfl ?_
      refine G.goto (tgt := 23) C dL_law_2801 (by decide) ?_
      exact G.sub [3, 4, 5, 6, 0] rfl (hk _ _ _ _ (by omega) (by omega) h)
    · have h := it_t h hc
      refine G.aload_n C 5 dL_law_1908 rfl rfl ?_
      refine G.iconst (v := (0 : Int32)) C dL_law_1909 (by decide) ?_
      refine G.aJ (j := 0) C (sa_120 hE) (by decide) (by decide) dL_law_1910 ?_
      refine G.iload C 0 dL_law_1911 rfl ?_
      refine G.i2l (v := v_436.toInt64) C dL_law_1913 rfl ?_
      refine G.lcmp C dL_law_1914 (G.if_eq (tgt := 1920) C dL_law_1915 (by decide) (fun hc => ?_) (fun hc => ?_))
      · have h := it_t h (lgc_eq.mp hc)
        refine G.goto (tgt := 2798) C dL_law_1920 (by decide) ?_
        obtain ⟨x4_440, ex4_440, h⟩ := ltv_ex h
        refine G.iinc (L' := [(4, .int x4_440), (6, .int v_436), (5, .int v_429), (0, .ref b), (1, .ref (eA E 0)), (2, .ref (eA E 67)), (3, .ref (eA E 120))]) C 6 dL_law_2798 rfl (ex4_440.trans rfl) (by decide) rfl ?_
        refine G.goto (tgt := 23) C dL_law_2801 (by decide) ?_
        exact G.sub [3, 4, 5, 6, 0] rfl (hk _ _ _ _ (by omega) (by omega) h)
      · have h := it_f h ((not_congr lgc_eq).mp hc)
        refine G.iconst (v := (0 : Int32)) C dL_law_1918 (by decide) ?_
        cases h
  · have h := it_f h hc
    refine G.iconst (v := (0 : Int32)) C dL_law_1901 (by decide) ?_
    cases h
def bb_L_law_1923 (xL : Nat) (xs : Nat → Int32) (k_23 : Int32 → Mm → Option Unit) (x4 : Int32) (M : Mm) : Option Unit := gd (inb (x4 + (1 : Int32)) xL) (bd2 (fw_L_even_0_120 (xs (ix (x4 + (1 : Int32)))) M) fun v_442 M_443 => gd (inb (x4 + (1 : Int32)) xL) (bd2 (f_X10_even_67 (xs (ix (x4 + (1 : Int32)))) M_443) fun v_448 M_447 => bd (f_X10_thrown_67 M_447) fun v_450 => if v_450 = v_442 then (if v_442 = 0 then (if (M_447.2 120 0) = (v_448.toInt64) then (ltv (x4 + (6 : Int32)) fun x4_452 => k_23 x4_452 M_447) else (none)) else (ltv (x4 + (6 : Int32)) fun x4_451 => k_23 x4_451 M_447)) else (none)))
set_option maxHeartbeats 4000000 in
set_option maxRecDepth 100000 in
theorem gb_L_law_1923 {b xL n cl sl : Nat} {xs : Nat → Int32} {k_23 : Int32 → Mm → Option Unit} {x4 : Int32} {M : Mm} (hE : Has shA (eH E)) (hl : l.stackTraces = false) (C : Cx RL cL_law 8 p room_1 s m #[Value.ref b] meth c E) (hr : meth.sig.returnType = ret) (hes : eS E = s.heap.size) (hX : va_X b xL xs s s.heap) (hbl : b < s.heap.size) (hbA : ¬ eF E b) (hb : cl + (n + 1) ≤ 1000) (hsb : sl + 6 * (n + 1) ≤ 10000) (hk : ∀ (x4 : Int32) (M : Mm) (cl sl : Nat), cl + n ≤ 1000 → sl + 6 * n ≤ 10000 → k_23 x4 M = some () → G p l e room_1 s m #[Value.ref b] below meth c E 8 cl sl (lw_Z below #[Value.ref b] s) 23 [(0, .ref b), (1, .ref (eA E 0)), (2, .ref (eA E 67)), (3, .ref (eA E 120)), (4, .int x4)] [] M) (h : bb_L_law_1923 xL xs k_23 x4 M = some ()) : G p l e room_1 s m #[Value.ref b] below meth c E 8 cl sl (lw_Z below #[Value.ref b] s) 1923 [(0, .ref b), (1, .ref (eA E 0)), (2, .ref (eA E 67)), (3, .ref (eA E 120)), (4, .int x4)] [] M := by
  unfold bb_L_law_1923 at h
  refine G.aload_n C 1 dL_law_1923 rfl rfl ?_
  refine G.aload_n C 0 dL_law_1924 rfl rfl ?_
  refine G.iload C 4 dL_law_1925 rfl ?_
  refine G.iconst (v := (1 : Int32)) C dL_law_1927 (by decide) ?_
  refine G.iadd C dL_law_1928 ?_
  obtain ⟨hg_441, h⟩ := gd_ex h
  refine G.sld C hX hbl hbA hg_441 dL_law_1929 ?_
  refine G.aload_n C 3 dL_law_1930 rfl rfl ?_
  obtain ⟨v_442, M_443, hv_444, h⟩ := bd2_ex h
  refine G.callSB (rest := []) C (sw_L_even_0_120 hl hE hv_444) ⟨tg_1250, tg_89, ok_L_even, Nat.le_of_ble_eq_true rfl, Nat.le_of_ble_eq_true rfl⟩ tg_1248 tg_1249 rfl (Nat.le_of_ble_eq_true rfl) dL_law_1931 ⟨show cl + 1 ≤ 600128 by omega, show sl + 6 ≤ 7301098 by omega⟩ ?_
  refine G.istore (L' := [(5, .int v_442), (0, .ref b), (1, .ref (eA E 0)), (2, .ref (eA E 67)), (3, .ref (eA E 120)), (4, .int x4)]) C dL_law_1934 rfl (by decide) rfl ?_
  refine G.aload_n C 3 dL_law_1936 rfl rfl ?_
  refine G.aload_n C 1 dL_law_1937 rfl rfl ?_
  refine G.iload C 5 dL_law_1938 rfl ?_
  refine G.iconst (v := (1 : Int32)) C dL_law_1940 (by decide) ?_
  refine G.iadd C dL_law_1941 ?_
  obtain ⟨hg_445, h⟩ := gd_ex h
  refine G.sld C hX hbl hbA hg_445 dL_law_1942 ?_
  obtain ⟨v_448, M_447, hv_446, h⟩ := bd2_ex h
  refine G.callV (rest := []) C (s_X10_even_67 (hasM hE)  hv_446) ⟨tg_1913, tg_103, ok_X10_even, Nat.le_of_ble_eq_true rfl, Nat.le_of_ble_eq_true rfl⟩ tg_1910 tg_1911 tg_1912 (sm_67 (hasM hE)) rfl rfl (Nat.le_of_ble_eq_true rfl) dL_law_1943 ⟨by show _ ≤ 600128; omega, by show _ ≤ 7301098; omega⟩ ?_
  refine G.istore (L' := [(6, .int v_448), (5, .int v_442), (0, .ref b), (1, .ref (eA E 0)), (2, .ref (eA E 67)), (3, .ref (eA E 120)), (4, .int x4)]) C dL_law_1946 rfl (by decide) rfl ?_
  refine G.aload_n C 4 dL_law_1948 rfl rfl ?_
  obtain ⟨v_450, hv_449, h⟩ := bd_ex h
  refine G.callV (rest := []) C (s_X10_thrown_67 (hasM hE)  hv_449) ⟨tg_1585, tg_103, ok_X10_thrown, Nat.le_of_ble_eq_true rfl, Nat.le_of_ble_eq_true rfl⟩ tg_1582 tg_1583 tg_1584 (sm_67 (hasM hE)) rfl rfl (Nat.le_of_ble_eq_true rfl) dL_law_1949 ⟨by show _ ≤ 600128; omega, by show _ ≤ 7301098; omega⟩ ?_
  refine G.iload C 1 dL_law_1952 rfl ?_
  refine G.icmp_eq (tgt := 1959) C dL_law_1954 (by decide) (fun hc => ?_) (fun hc => ?_)
  · have h := it_t h hc
    refine G.iload C 1 dL_law_1959 rfl ?_
    refine G.if_ne (tgt := 1976) C dL_law_1961 (by decide) (fun hc => ?_) (fun hc => ?_)
    · have h := it_f h hc
      refine G.goto (tgt := 2798) C dL_law_1976 (by decide) ?_
      obtain ⟨x4_451, ex4_451, h⟩ := ltv_ex h
      refine G.iinc (L' := [(4, .int x4_451), (6, .int v_448), (5, .int v_442), (0, .ref b), (1, .ref (eA E 0)), (2, .ref (eA E 67)), (3, .ref (eA E 120))]) C 6 dL_law_2798 rfl (ex4_451.trans rfl) (by decide) rfl ?_
      refine G.goto (tgt := 23) C dL_law_2801 (by decide) ?_
      exact G.sub [3, 4, 5, 6, 0] rfl (hk _ _ _ _ (by omega) (by omega) h)
    · have h := it_t h hc
      refine G.aload_n C 5 dL_law_1964 rfl rfl ?_
      refine G.iconst (v := (0 : Int32)) C dL_law_1965 (by decide) ?_
      refine G.aJ (j := 0) C (sa_120 hE) (by decide) (by decide) dL_law_1966 ?_
      refine G.iload C 0 dL_law_1967 rfl ?_
      refine G.i2l (v := v_448.toInt64) C dL_law_1969 rfl ?_
      refine G.lcmp C dL_law_1970 (G.if_eq (tgt := 1976) C dL_law_1971 (by decide) (fun hc => ?_) (fun hc => ?_))
      · have h := it_t h (lgc_eq.mp hc)
        refine G.goto (tgt := 2798) C dL_law_1976 (by decide) ?_
        obtain ⟨x4_452, ex4_452, h⟩ := ltv_ex h
        refine G.iinc (L' := [(4, .int x4_452), (6, .int v_448), (5, .int v_442), (0, .ref b), (1, .ref (eA E 0)), (2, .ref (eA E 67)), (3, .ref (eA E 120))]) C 6 dL_law_2798 rfl (ex4_452.trans rfl) (by decide) rfl ?_
        refine G.goto (tgt := 23) C dL_law_2801 (by decide) ?_
        exact G.sub [3, 4, 5, 6, 0] rfl (hk _ _ _ _ (by omega) (by omega) h)
      · have h := it_f h ((not_congr lgc_eq).mp hc)
        refine G.iconst (v := (0 : Int32)) C dL_law_1974 (by decide) ?_
        cases h
  · have h := it_f h hc
    refine G.iconst (v := (0 : Int32)) C dL_law_1957 (by decide) ?_
    cases h
def bb_L_law_1979 (xL : Nat) (xs : Nat → Int32) (k_23 : Int32 → Mm → Option Unit) (x4 : Int32) (M : Mm) : Option Unit := gd (inb (x4 + (1 : Int32)) xL) (bd2 (fw_L_press_0_120 (xs (ix (x4 + (1 : Int32)))) M) fun v_454 M_455 => gd (inb (x4 + (1 : Int32)) xL) (bd2 (f_X10_press_67 (xs (ix (x4 + (1 : Int32)))) M_455) fun v_460 M_459 => bd (f_X10_thrown_67 M_459) fun v_462 => if v_462 = v_454 then (if v_454 = 0 then (if (M_459.2 120 0) = (v_460.toInt64) then (ltv (x4 + (6 : Int32)) fun x4_464 => k_23 x4_464 M_459) else (none)) else (ltv (x4 + (6 : Int32)) fun x4_463 => k_23 x4_463 M_459)) else (none)))
set_option maxHeartbeats 4000000 in
set_option maxRecDepth 100000 in
theorem gb_L_law_1979 {b xL n cl sl : Nat} {xs : Nat → Int32} {k_23 : Int32 → Mm → Option Unit} {x4 : Int32} {M : Mm} (hE : Has shA (eH E)) (hl : l.stackTraces = false) (C : Cx RL cL_law 8 p room_1 s m #[Value.ref b] meth c E) (hr : meth.sig.returnType = ret) (hes : eS E = s.heap.size) (hX : va_X b xL xs s s.heap) (hbl : b < s.heap.size) (hbA : ¬ eF E b) (hb : cl + (n + 1) ≤ 1000) (hsb : sl + 6 * (n + 1) ≤ 10000) (hk : ∀ (x4 : Int32) (M : Mm) (cl sl : Nat), cl + n ≤ 1000 → sl + 6 * n ≤ 10000 → k_23 x4 M = some () → G p l e room_1 s m #[Value.ref b] below meth c E 8 cl sl (lw_Z below #[Value.ref b] s) 23 [(0, .ref b), (1, .ref (eA E 0)), (2, .ref (eA E 67)), (3, .ref (eA E 120)), (4, .int x4)] [] M) (h : bb_L_law_1979 xL xs k_23 x4 M = some ()) : G p l e room_1 s m #[Value.ref b] below meth c E 8 cl sl (lw_Z below #[Value.ref b] s) 1979 [(0, .ref b), (1, .ref (eA E 0)), (2, .ref (eA E 67)), (3, .ref (eA E 120)), (4, .int x4)] [] M := by
  unfold bb_L_law_1979 at h
  refine G.aload_n C 1 dL_law_1979 rfl rfl ?_
  refine G.aload_n C 0 dL_law_1980 rfl rfl ?_
  refine G.iload C 4 dL_law_1981 rfl ?_
  refine G.iconst (v := (1 : Int32)) C dL_law_1983 (by decide) ?_
  refine G.iadd C dL_law_1984 ?_
  obtain ⟨hg_453, h⟩ := gd_ex h
  refine G.sld C hX hbl hbA hg_453 dL_law_1985 ?_
  refine G.aload_n C 3 dL_law_1986 rfl rfl ?_
  obtain ⟨v_454, M_455, hv_456, h⟩ := bd2_ex h
  refine G.callSB (rest := []) C (sw_L_press_0_120 hl hE hv_456) ⟨tg_1280, tg_89, ok_L_press, Nat.le_of_ble_eq_true rfl, Nat.le_of_ble_eq_true rfl⟩ tg_1278 tg_1279 rfl (Nat.le_of_ble_eq_true rfl) dL_law_1987 ⟨show cl + 1 ≤ 600128 by omega, show sl + 6 ≤ 7301098 by omega⟩ ?_
  refine G.istore (L' := [(5, .int v_454), (0, .ref b), (1, .ref (eA E 0)), (2, .ref (eA E 67)), (3, .ref (eA E 120)), (4, .int x4)]) C dL_law_1990 rfl (by decide) rfl ?_
  refine G.aload_n C 3 dL_law_1992 rfl rfl ?_
  refine G.aload_n C 1 dL_law_1993 rfl rfl ?_
  refine G.iload C 5 dL_law_1994 rfl ?_
  refine G.iconst (v := (1 : Int32)) C dL_law_1996 (by decide) ?_
  refine G.iadd C dL_law_1997 ?_
  obtain ⟨hg_457, h⟩ := gd_ex h
  refine G.sld C hX hbl hbA hg_457 dL_law_1998 ?_
  obtain ⟨v_460, M_459, hv_458, h⟩ := bd2_ex h
  refine G.callV (rest := []) C (s_X10_press_67 (hasM hE)  hv_458) ⟨tg_1917, tg_103, ok_X10_press, Nat.le_of_ble_eq_true rfl, Nat.le_of_ble_eq_true rfl⟩ tg_1914 tg_1915 tg_1916 (sm_67 (hasM hE)) rfl rfl (Nat.le_of_ble_eq_true rfl) dL_law_1999 ⟨by show _ ≤ 600128; omega, by show _ ≤ 7301098; omega⟩ ?_
  refine G.istore (L' := [(6, .int v_460), (5, .int v_454), (0, .ref b), (1, .ref (eA E 0)), (2, .ref (eA E 67)), (3, .ref (eA E 120)), (4, .int x4)]) C dL_law_2002 rfl (by decide) rfl ?_
  refine G.aload_n C 4 dL_law_2004 rfl rfl ?_
  obtain ⟨v_462, hv_461, h⟩ := bd_ex h
  refine G.callV (rest := []) C (s_X10_thrown_67 (hasM hE)  hv_461) ⟨tg_1585, tg_103, ok_X10_thrown, Nat.le_of_ble_eq_true rfl, Nat.le_of_ble_eq_true rfl⟩ tg_1582 tg_1583 tg_1584 (sm_67 (hasM hE)) rfl rfl (Nat.le_of_ble_eq_true rfl) dL_law_2005 ⟨by show _ ≤ 600128; omega, by show _ ≤ 7301098; omega⟩ ?_
  refine G.iload C 1 dL_law_2008 rfl ?_
  refine G.icmp_eq (tgt := 2015) C dL_law_2010 (by decide) (fun hc => ?_) (fun hc => ?_)
  · have h := it_t h hc
    refine G.iload C 1 dL_law_2015 rfl ?_
    refine G.if_ne (tgt := 2032) C dL_law_2017 (by decide) (fun hc => ?_) (fun hc => ?_)
    · have h := it_f h hc
      refine G.goto (tgt := 2798) C dL_law_2032 (by decide) ?_
      obtain ⟨x4_463, ex4_463, h⟩ := ltv_ex h
      refine G.iinc (L' := [(4, .int x4_463), (6, .int v_460), (5, .int v_454), (0, .ref b), (1, .ref (eA E 0)), (2, .ref (eA E 67)), (3, .ref (eA E 120))]) C 6 dL_law_2798 rfl (ex4_463.trans rfl) (by decide) rfl ?_
      refine G.goto (tgt := 23) C dL_law_2801 (by decide) ?_
      exact G.sub [3, 4, 5, 6, 0] rfl (hk _ _ _ _ (by omega) (by omega) h)
    · have h := it_t h hc
      refine G.aload_n C 5 dL_law_2020 rfl rfl ?_
      refine G.iconst (v := (0 : Int32)) C dL_law_2021 (by decide) ?_
      refine G.aJ (j := 0) C (sa_120 hE) (by decide) (by decide) dL_law_2022 ?_
      refine G.iload C 0 dL_law_2023 rfl ?_
      refine G.i2l (v := v_460.toInt64) C dL_law_2025 rfl ?_
      refine G.lcmp C dL_law_2026 (G.if_eq (tgt := 2032) C dL_law_2027 (by decide) (fun hc => ?_) (fun hc => ?_))
      · have h := it_t h (lgc_eq.mp hc)
        refine G.goto (tgt := 2798) C dL_law_2032 (by decide) ?_
        obtain ⟨x4_464, ex4_464, h⟩ := ltv_ex h
        refine G.iinc (L' := [(4, .int x4_464), (6, .int v_460), (5, .int v_454), (0, .ref b), (1, .ref (eA E 0)), (2, .ref (eA E 67)), (3, .ref (eA E 120))]) C 6 dL_law_2798 rfl (ex4_464.trans rfl) (by decide) rfl ?_
        refine G.goto (tgt := 23) C dL_law_2801 (by decide) ?_
        exact G.sub [3, 4, 5, 6, 0] rfl (hk _ _ _ _ (by omega) (by omega) h)
      · have h := it_f h ((not_congr lgc_eq).mp hc)
        refine G.iconst (v := (0 : Int32)) C dL_law_2030 (by decide) ?_
        cases h
  · have h := it_f h hc
    refine G.iconst (v := (0 : Int32)) C dL_law_2013 (by decide) ?_
    cases h
def bb_L_law_2035 (xL : Nat) (xs : Nat → Int32) (k_23 : Int32 → Mm → Option Unit) (x4 : Int32) (M : Mm) : Option Unit := gd (inb (x4 + (1 : Int32)) xL) (gd (inb (x4 + (2 : Int32)) xL) (bd2 (fw_L_print_0_120 ((shL ((xs (ix (x4 + (1 : Int32)))).toInt64) (32 : Int32)) ||| (((xs (ix (x4 + (2 : Int32)))).toInt64) &&& (4294967295 : Int64))) M) fun v_467 M_468 => gd (inb (x4 + (1 : Int32)) xL) (gd (inb (x4 + (2 : Int32)) xL) (bd2 (f_X10_print_67 ((shL ((xs (ix (x4 + (1 : Int32)))).toInt64) (32 : Int32)) ||| (((xs (ix (x4 + (2 : Int32)))).toInt64) &&& (4294967295 : Int64))) M_468) fun v_474 M_473 => bd (f_X10_thrown_67 M_473) fun v_476 => if v_476 = v_467 then (if v_467 = 0 then (if (M_473.2 120 0) = (v_474.toInt64) then (ltv (x4 + (6 : Int32)) fun x4_478 => k_23 x4_478 M_473) else (none)) else (ltv (x4 + (6 : Int32)) fun x4_477 => k_23 x4_477 M_473)) else (none)))))
set_option maxHeartbeats 4000000 in
set_option maxRecDepth 100000 in
theorem gb_L_law_2035 {b xL n cl sl : Nat} {xs : Nat → Int32} {k_23 : Int32 → Mm → Option Unit} {x4 : Int32} {M : Mm} (hE : Has shA (eH E)) (hl : l.stackTraces = false) (C : Cx RL cL_law 8 p room_1 s m #[Value.ref b] meth c E) (hr : meth.sig.returnType = ret) (hes : eS E = s.heap.size) (hX : va_X b xL xs s s.heap) (hbl : b < s.heap.size) (hbA : ¬ eF E b) (hb : cl + (n + 1) ≤ 1000) (hsb : sl + 6 * (n + 1) ≤ 10000) (hk : ∀ (x4 : Int32) (M : Mm) (cl sl : Nat), cl + n ≤ 1000 → sl + 6 * n ≤ 10000 → k_23 x4 M = some () → G p l e room_1 s m #[Value.ref b] below meth c E 8 cl sl (lw_Z below #[Value.ref b] s) 23 [(0, .ref b), (1, .ref (eA E 0)), (2, .ref (eA E 67)), (3, .ref (eA E 120)), (4, .int x4)] [] M) (h : bb_L_law_2035 xL xs k_23 x4 M = some ()) : G p l e room_1 s m #[Value.ref b] below meth c E 8 cl sl (lw_Z below #[Value.ref b] s) 2035 [(0, .ref b), (1, .ref (eA E 0)), (2, .ref (eA E 67)), (3, .ref (eA E 120)), (4, .int x4)] [] M := by
  unfold bb_L_law_2035 at h
  refine G.aload_n C 1 dL_law_2035 rfl rfl ?_
  refine G.aload_n C 0 dL_law_2036 rfl rfl ?_
  refine G.iload C 4 dL_law_2037 rfl ?_
  refine G.iconst (v := (1 : Int32)) C dL_law_2039 (by decide) ?_
  refine G.iadd C dL_law_2040 ?_
  obtain ⟨hg_465, h⟩ := gd_ex h
  refine G.sld C hX hbl hbA hg_465 dL_law_2041 ?_
  refine G.i2l (v := (xs (ix (x4 + (1 : Int32)))).toInt64) C dL_law_2042 rfl ?_
  refine G.bipush (v := (32 : Int32)) C dL_law_2043 (by decide) ?_
  refine G.lshl (v := shL ((xs (ix (x4 + (1 : Int32)))).toInt64) (32 : Int32)) C dL_law_2045 rfl ?_
  refine G.aload_n C 0 dL_law_2046 rfl rfl ?_
  refine G.iload C 4 dL_law_2047 rfl ?_
  refine G.iconst (v := (2 : Int32)) C dL_law_2049 (by decide) ?_
  refine G.iadd C dL_law_2050 ?_
  obtain ⟨hg_466, h⟩ := gd_ex h
  refine G.sld C hX hbl hbA hg_466 dL_law_2051 ?_
  refine G.i2l (v := (xs (ix (x4 + (2 : Int32)))).toInt64) C dL_law_2052 rfl ?_
  refine G.ldc2 C tg_1986 dL_law_2053 ?_
  refine G.land C dL_law_2056 ?_
  refine G.lor C dL_law_2057 ?_
  refine G.aload_n C 3 dL_law_2058 rfl rfl ?_
  obtain ⟨v_467, M_468, hv_469, h⟩ := bd2_ex h
  refine G.callSB (rest := []) C (sw_L_print_0_120 hl hE hv_469) ⟨tg_1296, tg_89, ok_L_print, Nat.le_of_ble_eq_true rfl, Nat.le_of_ble_eq_true rfl⟩ tg_1294 tg_1295 rfl (Nat.le_of_ble_eq_true rfl) dL_law_2059 ⟨show cl + 1 ≤ 600128 by omega, show sl + 6 ≤ 7301098 by omega⟩ ?_
  refine G.istore (L' := [(5, .int v_467), (0, .ref b), (1, .ref (eA E 0)), (2, .ref (eA E 67)), (3, .ref (eA E 120)), (4, .int x4)]) C dL_law_2062 rfl (by decide) rfl ?_
  refine G.aload_n C 3 dL_law_2064 rfl rfl ?_
  refine G.aload_n C 1 dL_law_2065 rfl rfl ?_
  refine G.iload C 5 dL_law_2066 rfl ?_
  refine G.iconst (v := (1 : Int32)) C dL_law_2068 (by decide) ?_
  refine G.iadd C dL_law_2069 ?_
  obtain ⟨hg_470, h⟩ := gd_ex h
  refine G.sld C hX hbl hbA hg_470 dL_law_2070 ?_
  refine G.i2l (v := (xs (ix (x4 + (1 : Int32)))).toInt64) C dL_law_2071 rfl ?_
  refine G.bipush (v := (32 : Int32)) C dL_law_2072 (by decide) ?_
  refine G.lshl (v := shL ((xs (ix (x4 + (1 : Int32)))).toInt64) (32 : Int32)) C dL_law_2074 rfl ?_
  refine G.aload_n C 1 dL_law_2075 rfl rfl ?_
  refine G.iload C 5 dL_law_2076 rfl ?_
  refine G.iconst (v := (2 : Int32)) C dL_law_2078 (by decide) ?_
  refine G.iadd C dL_law_2079 ?_
  obtain ⟨hg_471, h⟩ := gd_ex h
  refine G.sld C hX hbl hbA hg_471 dL_law_2080 ?_
  refine G.i2l (v := (xs (ix (x4 + (2 : Int32)))).toInt64) C dL_law_2081 rfl ?_
  refine G.ldc2 C tg_1986 dL_law_2082 ?_
  refine G.land C dL_law_2085 ?_
  refine G.lor C dL_law_2086 ?_
  obtain ⟨v_474, M_473, hv_472, h⟩ := bd2_ex h
  refine G.callV (rest := []) C (s_X10_print_67 (hasM hE)  hv_472) ⟨tg_1925, tg_103, ok_X10_print, Nat.le_of_ble_eq_true rfl, Nat.le_of_ble_eq_true rfl⟩ tg_1922 tg_1923 tg_1924 (sm_67 (hasM hE)) rfl rfl (Nat.le_of_ble_eq_true rfl) dL_law_2087 ⟨by show _ ≤ 600128; omega, by show _ ≤ 7301098; omega⟩ ?_
  refine G.istore (L' := [(6, .int v_474), (5, .int v_467), (0, .ref b), (1, .ref (eA E 0)), (2, .ref (eA E 67)), (3, .ref (eA E 120)), (4, .int x4)]) C dL_law_2090 rfl (by decide) rfl ?_
  refine G.aload_n C 4 dL_law_2092 rfl rfl ?_
  obtain ⟨v_476, hv_475, h⟩ := bd_ex h
  refine G.callV (rest := []) C (s_X10_thrown_67 (hasM hE)  hv_475) ⟨tg_1585, tg_103, ok_X10_thrown, Nat.le_of_ble_eq_true rfl, Nat.le_of_ble_eq_true rfl⟩ tg_1582 tg_1583 tg_1584 (sm_67 (hasM hE)) rfl rfl (Nat.le_of_ble_eq_true rfl) dL_law_2093 ⟨by show _ ≤ 600128; omega, by show _ ≤ 7301098; omega⟩ ?_
  refine G.iload C 1 dL_law_2096 rfl ?_
  refine G.icmp_eq (tgt := 2103) C dL_law_2098 (by decide) (fun hc => ?_) (fun hc => ?_)
  · have h := it_t h hc
    refine G.iload C 1 dL_law_2103 rfl ?_
    refine G.if_ne (tgt := 2120) C dL_law_2105 (by decide) (fun hc => ?_) (fun hc => ?_)
    · have h := it_f h hc
      refine G.goto (tgt := 2798) C dL_law_2120 (by decide) ?_
      obtain ⟨x4_477, ex4_477, h⟩ := ltv_ex h
      refine G.iinc (L' := [(4, .int x4_477), (6, .int v_474), (5, .int v_467), (0, .ref b), (1, .ref (eA E 0)), (2, .ref (eA E 67)), (3, .ref (eA E 120))]) C 6 dL_law_2798 rfl (ex4_477.trans rfl) (by decide) rfl ?_
      refine G.goto (tgt := 23) C dL_law_2801 (by decide) ?_
      exact G.sub [3, 4, 5, 6, 0] rfl (hk _ _ _ _ (by omega) (by omega) h)
    · have h := it_t h hc
      refine G.aload_n C 5 dL_law_2108 rfl rfl ?_
      refine G.iconst (v := (0 : Int32)) C dL_law_2109 (by decide) ?_
      refine G.aJ (j := 0) C (sa_120 hE) (by decide) (by decide) dL_law_2110 ?_
      refine G.iload C 0 dL_law_2111 rfl ?_
      refine G.i2l (v := v_474.toInt64) C dL_law_2113 rfl ?_
      refine G.lcmp C dL_law_2114 (G.if_eq (tgt := 2120) C dL_law_2115 (by decide) (fun hc => ?_) (fun hc => ?_))
      · have h := it_t h (lgc_eq.mp hc)
        refine G.goto (tgt := 2798) C dL_law_2120 (by decide) ?_
        obtain ⟨x4_478, ex4_478, h⟩ := ltv_ex h
        refine G.iinc (L' := [(4, .int x4_478), (6, .int v_474), (5, .int v_467), (0, .ref b), (1, .ref (eA E 0)), (2, .ref (eA E 67)), (3, .ref (eA E 120))]) C 6 dL_law_2798 rfl (ex4_478.trans rfl) (by decide) rfl ?_
        refine G.goto (tgt := 23) C dL_law_2801 (by decide) ?_
        exact G.sub [3, 4, 5, 6, 0] rfl (hk _ _ _ _ (by omega) (by omega) h)
      · have h := it_f h ((not_congr lgc_eq).mp hc)
        refine G.iconst (v := (0 : Int32)) C dL_law_2118 (by decide) ?_
        cases h
  · have h := it_f h hc
    refine G.iconst (v := (0 : Int32)) C dL_law_2101 (by decide) ?_
    cases h
def bb_L_law_2123 (xL : Nat) (xs : Nat → Int32) (k_23 : Int32 → Mm → Option Unit) (x4 : Int32) (M : Mm) : Option Unit := gd (inb (x4 + (1 : Int32)) xL) (gd (inb (x4 + (2 : Int32)) xL) (gd (inb (x4 + (3 : Int32)) xL) (gd (inb (x4 + (4 : Int32)) xL) (if (xs (ix (x4 + (4 : Int32)))) = 0 then (bd2 (fw_L_kin_0_120 (xs (ix (x4 + (1 : Int32)))) (xs (ix (x4 + (2 : Int32)))) (xs (ix (x4 + (3 : Int32)))) (0 : Int32) M) fun v_483 M_484 => gd (inb (x4 + (1 : Int32)) xL) (gd (inb (x4 + (2 : Int32)) xL) (gd (inb (x4 + (3 : Int32)) xL) (gd (inb (x4 + (4 : Int32)) xL) (if (xs (ix (x4 + (4 : Int32)))) = 0 then (bd2 (f_X10_kin_67 (xs (ix (x4 + (1 : Int32)))) (xs (ix (x4 + (2 : Int32)))) (xs (ix (x4 + (3 : Int32)))) (0 : Int32) M_484) fun v_492 M_491 => bd (f_X10_thrown_67 M_491) fun v_494 => if v_494 = v_483 then (if v_483 = 0 then (if v_492 = 0 then (if (M_491.2 120 0) = (0 : Int64) then (ltv (x4 + (6 : Int32)) fun x4_496 => k_23 x4_496 M_491) else (none)) else (if (M_491.2 120 0) = (1 : Int64) then (ltv (x4 + (6 : Int32)) fun x4_497 => k_23 x4_497 M_491) else (none))) else (ltv (x4 + (6 : Int32)) fun x4_495 => k_23 x4_495 M_491)) else (none)) else (bd2 (f_X10_kin_67 (xs (ix (x4 + (1 : Int32)))) (xs (ix (x4 + (2 : Int32)))) (xs (ix (x4 + (3 : Int32)))) (1 : Int32) M_484) fun v_500 M_499 => bd (f_X10_thrown_67 M_499) fun v_502 => if v_502 = v_483 then (if v_483 = 0 then (if v_500 = 0 then (if (M_499.2 120 0) = (0 : Int64) then (ltv (x4 + (6 : Int32)) fun x4_504 => k_23 x4_504 M_499) else (none)) else (if (M_499.2 120 0) = (1 : Int64) then (ltv (x4 + (6 : Int32)) fun x4_505 => k_23 x4_505 M_499) else (none))) else (ltv (x4 + (6 : Int32)) fun x4_503 => k_23 x4_503 M_499)) else (none))))))) else (bd2 (fw_L_kin_0_120 (xs (ix (x4 + (1 : Int32)))) (xs (ix (x4 + (2 : Int32)))) (xs (ix (x4 + (3 : Int32)))) (1 : Int32) M) fun v_506 M_507 => gd (inb (x4 + (1 : Int32)) xL) (gd (inb (x4 + (2 : Int32)) xL) (gd (inb (x4 + (3 : Int32)) xL) (gd (inb (x4 + (4 : Int32)) xL) (if (xs (ix (x4 + (4 : Int32)))) = 0 then (bd2 (f_X10_kin_67 (xs (ix (x4 + (1 : Int32)))) (xs (ix (x4 + (2 : Int32)))) (xs (ix (x4 + (3 : Int32)))) (0 : Int32) M_507) fun v_515 M_514 => bd (f_X10_thrown_67 M_514) fun v_517 => if v_517 = v_506 then (if v_506 = 0 then (if v_515 = 0 then (if (M_514.2 120 0) = (0 : Int64) then (ltv (x4 + (6 : Int32)) fun x4_519 => k_23 x4_519 M_514) else (none)) else (if (M_514.2 120 0) = (1 : Int64) then (ltv (x4 + (6 : Int32)) fun x4_520 => k_23 x4_520 M_514) else (none))) else (ltv (x4 + (6 : Int32)) fun x4_518 => k_23 x4_518 M_514)) else (none)) else (bd2 (f_X10_kin_67 (xs (ix (x4 + (1 : Int32)))) (xs (ix (x4 + (2 : Int32)))) (xs (ix (x4 + (3 : Int32)))) (1 : Int32) M_507) fun v_523 M_522 => bd (f_X10_thrown_67 M_522) fun v_525 => if v_525 = v_506 then (if v_506 = 0 then (if v_523 = 0 then (if (M_522.2 120 0) = (0 : Int64) then (ltv (x4 + (6 : Int32)) fun x4_527 => k_23 x4_527 M_522) else (none)) else (if (M_522.2 120 0) = (1 : Int64) then (ltv (x4 + (6 : Int32)) fun x4_528 => k_23 x4_528 M_522) else (none))) else (ltv (x4 + (6 : Int32)) fun x4_526 => k_23 x4_526 M_522)) else (none)))))))))))
set_option maxHeartbeats 4000000 in
set_option maxRecDepth 100000 in
theorem gb_L_law_2123 {b xL n cl sl : Nat} {xs : Nat → Int32} {k_23 : Int32 → Mm → Option Unit} {x4 : Int32} {M : Mm} (hE : Has shA (eH E)) (hl : l.stackTraces = false) (C : Cx RL cL_law 8 p room_1 s m #[Value.ref b] meth c E) (hr : meth.sig.returnType = ret) (hes : eS E = s.heap.size) (hX : va_X b xL xs s s.heap) (hbl : b < s.heap.size) (hbA : ¬ eF E b) (hb : cl + (n + 1) ≤ 1000) (hsb : sl + 6 * (n + 1) ≤ 10000) (hk : ∀ (x4 : Int32) (M : Mm) (cl sl : Nat), cl + n ≤ 1000 → sl + 6 * n ≤ 10000 → k_23 x4 M = some () → G p l e room_1 s m #[Value.ref b] below meth c E 8 cl sl (lw_Z below #[Value.ref b] s) 23 [(0, .ref b), (1, .ref (eA E 0)), (2, .ref (eA E 67)), (3, .ref (eA E 120)), (4, .int x4)] [] M) (h : bb_L_law_2123 xL xs k_23 x4 M = some ()) : G p l e room_1 s m #[Value.ref b] below meth c E 8 cl sl (lw_Z below #[Value.ref b] s) 2123 [(0, .ref b), (1, .ref (eA E 0)), (2, .ref (eA E 67)), (3, .ref (eA E 120)), (4, .int x4)] [] M := by
  unfold bb_L_law_2123 at h
  refine G.aload_n C 1 dL_law_2123 rfl rfl ?_
  refine G.aload_n C 0 dL_law_2124 rfl rfl ?_
  refine G.iload C 4 dL_law_2125 rfl ?_
  refine G.iconst (v := (1 : Int32)) C dL_law_2127 (by decide) ?_
  refine G.iadd C dL_law_2128 ?_
  obtain ⟨hg_479, h⟩ := gd_ex h
  refine G.sld C hX hbl hbA hg_479 dL_law_2129 ?_
  refine G.aload_n C 0 dL_law_2130 rfl rfl ?_
  refine G.iload C 4 dL_law_2131 rfl ?_
  refine G.iconst (v := (2 : Int32)) C dL_law_2133 (by decide) ?_
  refine G.iadd C dL_law_2134 ?_
  obtain ⟨hg_480, h⟩ := gd_ex h
  refine G.sld C hX hbl hbA hg_480 dL_law_2135 ?_
  refine G.aload_n C 0 dL_law_2136 rfl rfl ?_
  refine G.iload C 4 dL_law_2137 rfl ?_
  refine G.iconst (v := (3 : Int32)) C dL_law_2139 (by decide) ?_
  refine G.iadd C dL_law_2140 ?_
  obtain ⟨hg_481, h⟩ := gd_ex h
  refine G.sld C hX hbl hbA hg_481 dL_law_2141 ?_
  refine G.aload_n C 0 dL_law_2142 rfl rfl ?_
  refine G.iload C 4 dL_law_2143 rfl ?_
  refine G.iconst (v := (4 : Int32)) C dL_law_2145 (by decide) ?_
  refine G.iadd C dL_law_2146 ?_
  obtain ⟨hg_482, h⟩ := gd_ex h
  refine G.sld C hX hbl hbA hg_482 dL_law_2147 ?_
  refine G.if_eq (tgt := 2155) C dL_law_2148 (by decide) (fun hc => ?_) (fun hc => ?_)
  · have h := it_t h hc
    refine G.iconst (v := (0 : Int32)) C dL_law_2155 (by decide) ?_
    refine G.aload_n C 3 dL_law_2156 rfl rfl ?_
    obtain ⟨v_483, M_484, hv_485, h⟩ := bd2_ex h
    refine G.callSB (rest := []) C (sw_L_kin_0_120 hl hE hv_485) ⟨tg_1308, tg_89, ok_L_kin, Nat.le_of_ble_eq_true rfl, Nat.le_of_ble_eq_true rfl⟩ tg_1306 tg_1307 rfl (Nat.le_of_ble_eq_true rfl) dL_law_2157 ⟨show cl + 1 ≤ 600128 by omega, show sl + 6 ≤ 7301098 by omega⟩ ?_
    refine G.istore (L' := [(5, .int v_483), (0, .ref b), (1, .ref (eA E 0)), (2, .ref (eA E 67)), (3, .ref (eA E 120)), (4, .int x4)]) C dL_law_2160 rfl (by decide) rfl ?_
    refine G.aload_n C 3 dL_law_2162 rfl rfl ?_
    refine G.aload_n C 1 dL_law_2163 rfl rfl ?_
    refine G.iload C 5 dL_law_2164 rfl ?_
    refine G.iconst (v := (1 : Int32)) C dL_law_2166 (by decide) ?_
    refine G.iadd C dL_law_2167 ?_
    obtain ⟨hg_486, h⟩ := gd_ex h
    refine G.sld C hX hbl hbA hg_486 dL_law_2168 ?_
    refine G.aload_n C 1 dL_law_2169 rfl rfl ?_
    refine G.iload C 5 dL_law_2170 rfl ?_
    refine G.iconst (v := (2 : Int32)) C dL_law_2172 (by decide) ?_
    refine G.iadd C dL_law_2173 ?_
    obtain ⟨hg_487, h⟩ := gd_ex h
    refine G.sld C hX hbl hbA hg_487 dL_law_2174 ?_
    refine G.aload_n C 1 dL_law_2175 rfl rfl ?_
    refine G.iload C 5 dL_law_2176 rfl ?_
    refine G.iconst (v := (3 : Int32)) C dL_law_2178 (by decide) ?_
    refine G.iadd C dL_law_2179 ?_
    obtain ⟨hg_488, h⟩ := gd_ex h
    refine G.sld C hX hbl hbA hg_488 dL_law_2180 ?_
    refine G.aload_n C 1 dL_law_2181 rfl rfl ?_
    refine G.iload C 5 dL_law_2182 rfl ?_
    refine G.iconst (v := (4 : Int32)) C dL_law_2184 (by decide) ?_
    refine G.iadd C dL_law_2185 ?_
    obtain ⟨hg_489, h⟩ := gd_ex h
    refine G.sld C hX hbl hbA hg_489 dL_law_2186 ?_
    refine G.if_eq (tgt := 2194) C dL_law_2187 (by decide) (fun hc => ?_) (fun hc => ?_)
    · have h := it_t h hc
      refine G.iconst (v := (0 : Int32)) C dL_law_2194 (by decide) ?_
      obtain ⟨v_492, M_491, hv_490, h⟩ := bd2_ex h
      refine G.callV (rest := []) C (s_X10_kin_67 (hasM hE)  hv_490) ⟨tg_1929, tg_103, ok_X10_kin, Nat.le_of_ble_eq_true rfl, Nat.le_of_ble_eq_true rfl⟩ tg_1926 tg_1927 tg_1928 (sm_67 (hasM hE)) rfl rfl (Nat.le_of_ble_eq_true rfl) dL_law_2195 ⟨by show _ ≤ 600128; omega, by show _ ≤ 7301098; omega⟩ ?_
      refine G.istore (L' := [(6, .int v_492), (5, .int v_483), (0, .ref b), (1, .ref (eA E 0)), (2, .ref (eA E 67)), (3, .ref (eA E 120)), (4, .int x4)]) C dL_law_2198 rfl (by decide) rfl ?_
      refine G.aload_n C 4 dL_law_2200 rfl rfl ?_
      obtain ⟨v_494, hv_493, h⟩ := bd_ex h
      refine G.callV (rest := []) C (s_X10_thrown_67 (hasM hE)  hv_493) ⟨tg_1585, tg_103, ok_X10_thrown, Nat.le_of_ble_eq_true rfl, Nat.le_of_ble_eq_true rfl⟩ tg_1582 tg_1583 tg_1584 (sm_67 (hasM hE)) rfl rfl (Nat.le_of_ble_eq_true rfl) dL_law_2201 ⟨by show _ ≤ 600128; omega, by show _ ≤ 7301098; omega⟩ ?_
      refine G.iload C 1 dL_law_2204 rfl ?_
      refine G.icmp_eq (tgt := 2211) C dL_law_2206 (by decide) (fun hc => ?_) (fun hc => ?_)
      · have h := it_t h hc
        refine G.iload C 1 dL_law_2211 rfl ?_
        refine G.if_ne (tgt := 2235) C dL_law_2213 (by decide) (fun hc => ?_) (fun hc => ?_)
        · have h := it_f h hc
          refine G.goto (tgt := 2798) C dL_law_2235 (by decide) ?_
          obtain ⟨x4_495, ex4_495, h⟩ := ltv_ex h
          refine G.iinc (L' := [(4, .int x4_495), (6, .int v_492), (5, .int v_483), (0, .ref b), (1, .ref (eA E 0)), (2, .ref (eA E 67)), (3, .ref (eA E 120))]) C 6 dL_law_2798 rfl (ex4_495.trans rfl) (by decide) rfl ?_
          refine G.goto (tgt := 23) C dL_law_2801 (by decide) ?_
          exact G.sub [3, 4, 5, 6, 0] rfl (hk _ _ _ _ (by omega) (by omega) h)
        · have h := it_t h hc
          refine G.aload_n C 5 dL_law_2216 rfl rfl ?_
          refine G.iconst (v := (0 : Int32)) C dL_law_2217 (by decide) ?_
          refine G.aJ (j := 0) C (sa_120 hE) (by decide) (by decide) dL_law_2218 ?_
          refine G.iload C 0 dL_law_2219 rfl ?_
          refine G.if_eq (tgt := 2228) C dL_law_2221 (by decide) (fun hc => ?_) (fun hc => ?_)
          · have h := it_t h hc
            refine G.lconst (v := (0 : Int64)) C dL_law_2228 (by decide) ?_
            refine G.lcmp C dL_law_2229 (G.if_eq (tgt := 2235) C dL_law_2230 (by decide) (fun hc => ?_) (fun hc => ?_))
            · have h := it_t h (lgc_eq.mp hc)
              refine G.goto (tgt := 2798) C dL_law_2235 (by decide) ?_
              obtain ⟨x4_496, ex4_496, h⟩ := ltv_ex h
              refine G.iinc (L' := [(4, .int x4_496), (6, .int v_492), (5, .int v_483), (0, .ref b), (1, .ref (eA E 0)), (2, .ref (eA E 67)), (3, .ref (eA E 120))]) C 6 dL_law_2798 rfl (ex4_496.trans rfl) (by decide) rfl ?_
              refine G.goto (tgt := 23) C dL_law_2801 (by decide) ?_
              exact G.sub [3, 4, 5, 6, 0] rfl (hk _ _ _ _ (by omega) (by omega) h)
            · have h := it_f h ((not_congr lgc_eq).mp hc)
              refine G.iconst (v := (0 : Int32)) C dL_law_2233 (by decide) ?_
              cases h
          · have h := it_f h hc
            refine G.lconst (v := (1 : Int64)) C dL_law_2224 (by decide) ?_
            refine G.goto (tgt := 2229) C dL_law_2225 (by decide) ?_
            refine G.lcmp C dL_law_2229 (G.if_eq (tgt := 2235) C dL_law_2230 (by decide) (fun hc => ?_) (fun hc => ?_))
            · have h := it_t h (lgc_eq.mp hc)
              refine G.goto (tgt := 2798) C dL_law_2235 (by decide) ?_
              obtain ⟨x4_497, ex4_497, h⟩ := ltv_ex h
              refine G.iinc (L' := [(4, .int x4_497), (6, .int v_492), (5, .int v_483), (0, .ref b), (1, .ref (eA E 0)), (2, .ref (eA E 67)), (3, .ref (eA E 120))]) C 6 dL_law_2798 rfl (ex4_497.trans rfl) (by decide) rfl ?_
              refine G.goto (tgt := 23) C dL_law_2801 (by decide) ?_
              exact G.sub [3, 4, 5, 6, 0] rfl (hk _ _ _ _ (by omega) (by omega) h)
            · have h := it_f h ((not_congr lgc_eq).mp hc)
              refine G.iconst (v := (0 : Int32)) C dL_law_2233 (by decide) ?_
              cases h
      · have h := it_f h hc
        refine G.iconst (v := (0 : Int32)) C dL_law_2209 (by decide) ?_
        cases h
    · have h := it_f h hc
      refine G.iconst (v := (1 : Int32)) C dL_law_2190 (by decide) ?_
      refine G.goto (tgt := 2195) C dL_law_2191 (by decide) ?_
      obtain ⟨v_500, M_499, hv_498, h⟩ := bd2_ex h
      refine G.callV (rest := []) C (s_X10_kin_67 (hasM hE)  hv_498) ⟨tg_1929, tg_103, ok_X10_kin, Nat.le_of_ble_eq_true rfl, Nat.le_of_ble_eq_true rfl⟩ tg_1926 tg_1927 tg_1928 (sm_67 (hasM hE)) rfl rfl (Nat.le_of_ble_eq_true rfl) dL_law_2195 ⟨by show _ ≤ 600128; omega, by show _ ≤ 7301098; omega⟩ ?_
      refine G.istore (L' := [(6, .int v_500), (5, .int v_483), (0, .ref b), (1, .ref (eA E 0)), (2, .ref (eA E 67)), (3, .ref (eA E 120)), (4, .int x4)]) C dL_law_2198 rfl (by decide) rfl ?_
      refine G.aload_n C 4 dL_law_2200 rfl rfl ?_
      obtain ⟨v_502, hv_501, h⟩ := bd_ex h
      refine G.callV (rest := []) C (s_X10_thrown_67 (hasM hE)  hv_501) ⟨tg_1585, tg_103, ok_X10_thrown, Nat.le_of_ble_eq_true rfl, Nat.le_of_ble_eq_true rfl⟩ tg_1582 tg_1583 tg_1584 (sm_67 (hasM hE)) rfl rfl (Nat.le_of_ble_eq_true rfl) dL_law_2201 ⟨by show _ ≤ 600128; omega, by show _ ≤ 7301098; omega⟩ ?_
      refine G.iload C 1 dL_law_2204 rfl ?_
      refine G.icmp_eq (tgt := 2211) C dL_law_2206 (by decide) (fun hc => ?_) (fun hc => ?_)
      · have h := it_t h hc
        refine G.iload C 1 dL_law_2211 rfl ?_
        refine G.if_ne (tgt := 2235) C dL_law_2213 (by decide) (fun hc => ?_) (fun hc => ?_)
        · have h := it_f h hc
          refine G.goto (tgt := 2798) C dL_law_2235 (by decide) ?_
          obtain ⟨x4_503, ex4_503, h⟩ := ltv_ex h
          refine G.iinc (L' := [(4, .int x4_503), (6, .int v_500), (5, .int v_483), (0, .ref b), (1, .ref (eA E 0)), (2, .ref (eA E 67)), (3, .ref (eA E 120))]) C 6 dL_law_2798 rfl (ex4_503.trans rfl) (by decide) rfl ?_
          refine G.goto (tgt := 23) C dL_law_2801 (by decide) ?_
          exact G.sub [3, 4, 5, 6, 0] rfl (hk _ _ _ _ (by omega) (by omega) h)
        · have h := it_t h hc
          refine G.aload_n C 5 dL_law_2216 rfl rfl ?_
          refine G.iconst (v := (0 : Int32)) C dL_law_2217 (by decide) ?_
          refine G.aJ (j := 0) C (sa_120 hE) (by decide) (by decide) dL_law_2218 ?_
          refine G.iload C 0 dL_law_2219 rfl ?_
          refine G.if_eq (tgt := 2228) C dL_law_2221 (by decide) (fun hc => ?_) (fun hc => ?_)
          · have h := it_t h hc
            refine G.lconst (v := (0 : Int64)) C dL_law_2228 (by decide) ?_
            refine G.lcmp C dL_law_2229 (G.if_eq (tgt := 2235) C dL_law_2230 (by decide) (fun hc => ?_) (fun hc => ?_))
            · have h := it_t h (lgc_eq.mp hc)
              refine G.goto (tgt := 2798) C dL_law_2235 (by decide) ?_
              obtain ⟨x4_504, ex4_504, h⟩ := ltv_ex h
              refine G.iinc (L' := [(4, .int x4_504), (6, .int v_500), (5, .int v_483), (0, .ref b), (1, .ref (eA E 0)), (2, .ref (eA E 67)), (3, .ref (eA E 120))]) C 6 dL_law_2798 rfl (ex4_504.trans rfl) (by decide) rfl ?_
              refine G.goto (tgt := 23) C dL_law_2801 (by decide) ?_
              exact G.sub [3, 4, 5, 6, 0] rfl (hk _ _ _ _ (by omega) (by omega) h)
            · have h := it_f h ((not_congr lgc_eq).mp hc)
              refine G.iconst (v := (0 : Int32)) C dL_law_2233 (by decide) ?_
              cases h
          · have h := it_f h hc
            refine G.lconst (v := (1 : Int64)) C dL_law_2224 (by decide) ?_
            refine G.goto (tgt := 2229) C dL_law_2225 (by decide) ?_
            refine G.lcmp C dL_law_2229 (G.if_eq (tgt := 2235) C dL_law_2230 (by decide) (fun hc => ?_) (fun hc => ?_))
            · have h := it_t h (lgc_eq.mp hc)
              refine G.goto (tgt := 2798) C dL_law_2235 (by decide) ?_
              obtain ⟨x4_505, ex4_505, h⟩ := ltv_ex h
              refine G.iinc (L' := [(4, .int x4_505), (6, .int v_500), (5, .int v_483), (0, .ref b), (1, .ref (eA E 0)), (2, .ref (eA E 67)), (3, .ref (eA E 120))]) C 6 dL_law_2798 rfl (ex4_505.trans rfl) (by decide) rfl ?_
              refine G.goto (tgt := 23) C dL_law_2801 (by decide) ?_
              exact G.sub [3, 4, 5, 6, 0] rfl (hk _ _ _ _ (by omega) (by omega) h)
            · have h := it_f h ((not_congr lgc_eq).mp hc)
              refine G.iconst (v := (0 : Int32)) C dL_law_2233 (by decide) ?_
              cases h
      · have h := it_f h hc
        refine G.iconst (v := (0 : Int32)) C dL_law_2209 (by decide) ?_
        cases h
  · have h := it_f h hc
    refine G.iconst (v := (1 : Int32)) C dL_law_2151 (by decide) ?_
    refine G.goto (tgt := 2156) C dL_law_2152 (by decide) ?_
    refine G.aload_n C 3 dL_law_2156 rfl rfl ?_
    obtain ⟨v_506, M_507, hv_508, h⟩ := bd2_ex h
    refine G.callSB (rest := []) C (sw_L_kin_0_120 hl hE hv_508) ⟨tg_1308, tg_89, ok_L_kin, Nat.le_of_ble_eq_true rfl, Nat.le_of_ble_eq_true rfl⟩ tg_1306 tg_1307 rfl (Nat.le_of_ble_eq_true rfl) dL_law_2157 ⟨show cl + 1 ≤ 600128 by omega, show sl + 6 ≤ 7301098 by omega⟩ ?_
    refine G.istore (L' := [(5, .int v_506), (0, .ref b), (1, .ref (eA E 0)), (2, .ref (eA E 67)), (3, .ref (eA E 120)), (4, .int x4)]) C dL_law_2160 rfl (by decide) rfl ?_
    refine G.aload_n C 3 dL_law_2162 rfl rfl ?_
    refine G.aload_n C 1 dL_law_2163 rfl rfl ?_
    refine G.iload C 5 dL_law_2164 rfl ?_
    refine G.iconst (v := (1 : Int32)) C dL_law_2166 (by decide) ?_
    refine G.iadd C dL_law_2167 ?_
    obtain ⟨hg_509, h⟩ := gd_ex h
    refine G.sld C hX hbl hbA hg_509 dL_law_2168 ?_
    refine G.aload_n C 1 dL_law_2169 rfl rfl ?_
    refine G.iload C 5 dL_law_2170 rfl ?_
    refine G.iconst (v := (2 : Int32)) C dL_law_2172 (by decide) ?_
    refine G.iadd C dL_law_2173 ?_
    obtain ⟨hg_510, h⟩ := gd_ex h
    refine G.sld C hX hbl hbA hg_510 dL_law_2174 ?_
    refine G.aload_n C 1 dL_law_2175 rfl rfl ?_
    refine G.iload C 5 dL_law_2176 rfl ?_
    refine G.iconst (v := (3 : Int32)) C dL_law_2178 (by decide) ?_
    refine G.iadd C dL_law_2179 ?_
    obtain ⟨hg_511, h⟩ := gd_ex h
    refine G.sld C hX hbl hbA hg_511 dL_law_2180 ?_
    refine G.aload_n C 1 dL_law_2181 rfl rfl ?_
    refine G.iload C 5 dL_law_2182 rfl ?_
    refine G.iconst (v := (4 : Int32)) C dL_law_2184 (by decide) ?_
    refine G.iadd C dL_law_2185 ?_
    obtain ⟨hg_512, h⟩ := gd_ex h
    refine G.sld C hX hbl hbA hg_512 dL_law_2186 ?_
    refine G.if_eq (tgt := 2194) C dL_law_2187 (by decide) (fun hc => ?_) (fun hc => ?_)
    · have h := it_t h hc
      refine G.iconst (v := (0 : Int32)) C dL_law_2194 (by decide) ?_
      obtain ⟨v_515, M_514, hv_513, h⟩ := bd2_ex h
      refine G.callV (rest := []) C (s_X10_kin_67 (hasM hE)  hv_513) ⟨tg_1929, tg_103, ok_X10_kin, Nat.le_of_ble_eq_true rfl, Nat.le_of_ble_eq_true rfl⟩ tg_1926 tg_1927 tg_1928 (sm_67 (hasM hE)) rfl rfl (Nat.le_of_ble_eq_true rfl) dL_law_2195 ⟨by show _ ≤ 600128; omega, by show _ ≤ 7301098; omega⟩ ?_
      refine G.istore (L' := [(6, .int v_515), (5, .int v_506), (0, .ref b), (1, .ref (eA E 0)), (2, .ref (eA E 67)), (3, .ref (eA E 120)), (4, .int x4)]) C dL_law_2198 rfl (by decide) rfl ?_
      refine G.aload_n C 4 dL_law_2200 rfl rfl ?_
      obtain ⟨v_517, hv_516, h⟩ := bd_ex h
      refine G.callV (rest := []) C (s_X10_thrown_67 (hasM hE)  hv_516) ⟨tg_1585, tg_103, ok_X10_thrown, Nat.le_of_ble_eq_true rfl, Nat.le_of_ble_eq_true rfl⟩ tg_1582 tg_1583 tg_1584 (sm_67 (hasM hE)) rfl rfl (Nat.le_of_ble_eq_true rfl) dL_law_2201 ⟨by show _ ≤ 600128; omega, by show _ ≤ 7301098; omega⟩ ?_
      refine G.iload C 1 dL_law_2204 rfl ?_
      refine G.icmp_eq (tgt := 2211) C dL_law_2206 (by decide) (fun hc => ?_) (fun hc => ?_)
      · have h := it_t h hc
        refine G.iload C 1 dL_law_2211 rfl ?_
        refine G.if_ne (tgt := 2235) C dL_law_2213 (by decide) (fun hc => ?_) (fun hc => ?_)
        · have h := it_f h hc
          refine G.goto (tgt := 2798) C dL_law_2235 (by decide) ?_
          obtain ⟨x4_518, ex4_518, h⟩ := ltv_ex h
          refine G.iinc (L' := [(4, .int x4_518), (6, .int v_515), (5, .int v_506), (0, .ref b), (1, .ref (eA E 0)), (2, .ref (eA E 67)), (3, .ref (eA E 120))]) C 6 dL_law_2798 rfl (ex4_518.trans rfl) (by decide) rfl ?_
          refine G.goto (tgt := 23) C dL_law_2801 (by decide) ?_
          exact G.sub [3, 4, 5, 6, 0] rfl (hk _ _ _ _ (by omega) (by omega) h)
        · have h := it_t h hc
          refine G.aload_n C 5 dL_law_2216 rfl rfl ?_
          refine G.iconst (v := (0 : Int32)) C dL_law_2217 (by decide) ?_
          refine G.aJ (j := 0) C (sa_120 hE) (by decide) (by decide) dL_law_2218 ?_
          refine G.iload C 0 dL_law_2219 rfl ?_
          refine G.if_eq (tgt := 2228) C dL_law_2221 (by decide) (fun hc => ?_) (fun hc => ?_)
          · have h := it_t h hc
            refine G.lconst (v := (0 : Int64)) C dL_law_2228 (by decide) ?_
            refine G.lcmp C dL_law_2229 (G.if_eq (tgt := 2235) C dL_law_2230 (by decide) (fun hc => ?_) (fun hc => ?_))
            · have h := it_t h (lgc_eq.mp hc)
              refine G.goto (tgt := 2798) C dL_law_2235 (by decide) ?_
              obtain ⟨x4_519, ex4_519, h⟩ := ltv_ex h
              refine G.iinc (L' := [(4, .int x4_519), (6, .int v_515), (5, .int v_506), (0, .ref b), (1, .ref (eA E 0)), (2, .ref (eA E 67)), (3, .ref (eA E 120))]) C 6 dL_law_2798 rfl (ex4_519.trans rfl) (by decide) rfl ?_
              refine G.goto (tgt := 23) C dL_law_2801 (by decide) ?_
              exact G.sub [3, 4, 5, 6, 0] rfl (hk _ _ _ _ (by omega) (by omega) h)
            · have h := it_f h ((not_congr lgc_eq).mp hc)
              refine G.iconst (v := (0 : Int32)) C dL_law_2233 (by decide) ?_
              cases h
          · have h := it_f h hc
            refine G.lconst (v := (1 : Int64)) C dL_law_2224 (by decide) ?_
            refine G.goto (tgt := 2229) C dL_law_2225 (by decide) ?_
            refine G.lcmp C dL_law_2229 (G.if_eq (tgt := 2235) C dL_law_2230 (by decide) (fun hc => ?_) (fun hc => ?_))
            · have h := it_t h (lgc_eq.mp hc)
              refine G.goto (tgt := 2798) C dL_law_2235 (by decide) ?_
              obtain ⟨x4_520, ex4_520, h⟩ := ltv_ex h
              refine G.iinc (L' := [(4, .int x4_520), (6, .int v_515), (5, .int v_506), (0, .ref b), (1, .ref (eA E 0)), (2, .ref (eA E 67)), (3, .ref (eA E 120))]) C 6 dL_law_2798 rfl (ex4_520.trans rfl) (by decide) rfl ?_
              refine G.goto (tgt := 23) C dL_law_2801 (by decide) ?_
              exact G.sub [3, 4, 5, 6, 0] rfl (hk _ _ _ _ (by omega) (by omega) h)
            · have h := it_f h ((not_congr lgc_eq).mp hc)
              refine G.iconst (v := (0 : Int32)) C dL_law_2233 (by decide) ?_
              cases h
      · have h := it_f h hc
        refine G.iconst (v := (0 : Int32)) C dL_law_2209 (by decide) ?_
        cases h
    · have h := it_f h hc
      refine G.iconst (v := (1 : Int32)) C dL_law_2190 (by decide) ?_
      refine G.goto (tgt := 2195) C dL_law_2191 (by decide) ?_
      obtain ⟨v_523, M_522, hv_521, h⟩ := bd2_ex h
      refine G.callV (rest := []) C (s_X10_kin_67 (hasM hE)  hv_521) ⟨tg_1929, tg_103, ok_X10_kin, Nat.le_of_ble_eq_true rfl, Nat.le_of_ble_eq_true rfl⟩ tg_1926 tg_1927 tg_1928 (sm_67 (hasM hE)) rfl rfl (Nat.le_of_ble_eq_true rfl) dL_law_2195 ⟨by show _ ≤ 600128; omega, by show _ ≤ 7301098; omega⟩ ?_
      refine G.istore (L' := [(6, .int v_523), (5, .int v_506), (0, .ref b), (1, .ref (eA E 0)), (2, .ref (eA E 67)), (3, .ref (eA E 120)), (4, .int x4)]) C dL_law_2198 rfl (by decide) rfl ?_
      refine G.aload_n C 4 dL_law_2200 rfl rfl ?_
      obtain ⟨v_525, hv_524, h⟩ := bd_ex h
      refine G.callV (rest := []) C (s_X10_thrown_67 (hasM hE)  hv_524) ⟨tg_1585, tg_103, ok_X10_thrown, Nat.le_of_ble_eq_true rfl, Nat.le_of_ble_eq_true rfl⟩ tg_1582 tg_1583 tg_1584 (sm_67 (hasM hE)) rfl rfl (Nat.le_of_ble_eq_true rfl) dL_law_2201 ⟨by show _ ≤ 600128; omega, by show _ ≤ 7301098; omega⟩ ?_
      refine G.iload C 1 dL_law_2204 rfl ?_
      refine G.icmp_eq (tgt := 2211) C dL_law_2206 (by decide) (fun hc => ?_) (fun hc => ?_)
      · have h := it_t h hc
        refine G.iload C 1 dL_law_2211 rfl ?_
        refine G.if_ne (tgt := 2235) C dL_law_2213 (by decide) (fun hc => ?_) (fun hc => ?_)
        · have h := it_f h hc
          refine G.goto (tgt := 2798) C dL_law_2235 (by decide) ?_
          obtain ⟨x4_526, ex4_526, h⟩ := ltv_ex h
          refine G.iinc (L' := [(4, .int x4_526), (6, .int v_523), (5, .int v_506), (0, .ref b), (1, .ref (eA E 0)), (2, .ref (eA E 67)), (3, .ref (eA E 120))]) C 6 dL_law_2798 rfl (ex4_526.trans rfl) (by decide) rfl ?_
          refine G.goto (tgt := 23) C dL_law_2801 (by decide) ?_
          exact G.sub [3, 4, 5, 6, 0] rfl (hk _ _ _ _ (by omega) (by omega) h)
        · have h := it_t h hc
          refine G.aload_n C 5 dL_law_2216 rfl rfl ?_
          refine G.iconst (v := (0 : Int32)) C dL_law_2217 (by decide) ?_
          refine G.aJ (j := 0) C (sa_120 hE) (by decide) (by decide) dL_law_2218 ?_
          refine G.iload C 0 dL_law_2219 rfl ?_
          refine G.if_eq (tgt := 2228) C dL_law_2221 (by decide) (fun hc => ?_) (fun hc => ?_)
          · have h := it_t h hc
            refine G.lconst (v := (0 : Int64)) C dL_law_2228 (by decide) ?_
            refine G.lcmp C dL_law_2229 (G.if_eq (tgt := 2235) C dL_law_2230 (by decide) (fun hc => ?_) (fun hc => ?_))
            · have h := it_t h (lgc_eq.mp hc)
              refine G.goto (tgt := 2798) C dL_law_2235 (by decide) ?_
              obtain ⟨x4_527, ex4_527, h⟩ := ltv_ex h
              refine G.iinc (L' := [(4, .int x4_527), (6, .int v_523), (5, .int v_506), (0, .ref b), (1, .ref (eA E 0)), (2, .ref (eA E 67)), (3, .ref (eA E 120))]) C 6 dL_law_2798 rfl (ex4_527.trans rfl) (by decide) rfl ?_
              refine G.goto (tgt := 23) C dL_law_2801 (by decide) ?_
              exact G.sub [3, 4, 5, 6, 0] rfl (hk _ _ _ _ (by omega) (by omega) h)
            · have h := it_f h ((not_congr lgc_eq).mp hc)
              refine G.iconst (v := (0 : Int32)) C dL_law_2233 (by decide) ?_
              cases h
          · have h := it_f h hc
            refine G.lconst (v := (1 : Int64)) C dL_law_2224 (by decide) ?_
            refine G.goto (tgt := 2229) C dL_law_2225 (by decide) ?_
            refine G.lcmp C dL_law_2229 (G.if_eq (tgt := 2235) C dL_law_2230 (by decide) (fun hc => ?_) (fun hc => ?_))
            · have h := it_t h (lgc_eq.mp hc)
              refine G.goto (tgt := 2798) C dL_law_2235 (by decide) ?_
              obtain ⟨x4_528, ex4_528, h⟩ := ltv_ex h
              refine G.iinc (L' := [(4, .int x4_528), (6, .int v_523), (5, .int v_506), (0, .ref b), (1, .ref (eA E 0)), (2, .ref (eA E 67)), (3, .ref (eA E 120))]) C 6 dL_law_2798 rfl (ex4_528.trans rfl) (by decide) rfl ?_
              refine G.goto (tgt := 23) C dL_law_2801 (by decide) ?_
              exact G.sub [3, 4, 5, 6, 0] rfl (hk _ _ _ _ (by omega) (by omega) h)
            · have h := it_f h ((not_congr lgc_eq).mp hc)
              refine G.iconst (v := (0 : Int32)) C dL_law_2233 (by decide) ?_
              cases h
      · have h := it_f h hc
        refine G.iconst (v := (0 : Int32)) C dL_law_2209 (by decide) ?_
        cases h
def bb_L_law_2238 (xL : Nat) (xs : Nat → Int32) (k_23 : Int32 → Mm → Option Unit) (x4 : Int32) (M : Mm) : Option Unit := gd (inb (x4 + (1 : Int32)) xL) (gd (inb (x4 + (2 : Int32)) xL) (if (xs (ix (x4 + (2 : Int32)))) = 0 then (gd (inb (x4 + (3 : Int32)) xL) (bd2 (fw_L_partings_0_120 (xs (ix (x4 + (1 : Int32)))) (0 : Int32) (xs (ix (x4 + (3 : Int32)))) M) fun v_532 M_533 => gd (inb (x4 + (1 : Int32)) xL) (gd (inb (x4 + (2 : Int32)) xL) (if (xs (ix (x4 + (2 : Int32)))) = 0 then (gd (inb (x4 + (3 : Int32)) xL) (bd2 (f_X10_partings_67 (xs (ix (x4 + (1 : Int32)))) (0 : Int32) (xs (ix (x4 + (3 : Int32)))) M_533) fun v_540 M_539 => bd (f_X10_thrown_67 M_539) fun v_542 => if v_542 = v_532 then (if v_532 = 0 then (if (M_539.2 120 0) = (v_540.toInt64) then (ltv (x4 + (6 : Int32)) fun x4_544 => k_23 x4_544 M_539) else (none)) else (ltv (x4 + (6 : Int32)) fun x4_543 => k_23 x4_543 M_539)) else (none))) else (gd (inb (x4 + (3 : Int32)) xL) (bd2 (f_X10_partings_67 (xs (ix (x4 + (1 : Int32)))) (1 : Int32) (xs (ix (x4 + (3 : Int32)))) M_533) fun v_548 M_547 => bd (f_X10_thrown_67 M_547) fun v_550 => if v_550 = v_532 then (if v_532 = 0 then (if (M_547.2 120 0) = (v_548.toInt64) then (ltv (x4 + (6 : Int32)) fun x4_552 => k_23 x4_552 M_547) else (none)) else (ltv (x4 + (6 : Int32)) fun x4_551 => k_23 x4_551 M_547)) else (none))))))) else (gd (inb (x4 + (3 : Int32)) xL) (bd2 (fw_L_partings_0_120 (xs (ix (x4 + (1 : Int32)))) (1 : Int32) (xs (ix (x4 + (3 : Int32)))) M) fun v_554 M_555 => gd (inb (x4 + (1 : Int32)) xL) (gd (inb (x4 + (2 : Int32)) xL) (if (xs (ix (x4 + (2 : Int32)))) = 0 then (gd (inb (x4 + (3 : Int32)) xL) (bd2 (f_X10_partings_67 (xs (ix (x4 + (1 : Int32)))) (0 : Int32) (xs (ix (x4 + (3 : Int32)))) M_555) fun v_562 M_561 => bd (f_X10_thrown_67 M_561) fun v_564 => if v_564 = v_554 then (if v_554 = 0 then (if (M_561.2 120 0) = (v_562.toInt64) then (ltv (x4 + (6 : Int32)) fun x4_566 => k_23 x4_566 M_561) else (none)) else (ltv (x4 + (6 : Int32)) fun x4_565 => k_23 x4_565 M_561)) else (none))) else (gd (inb (x4 + (3 : Int32)) xL) (bd2 (f_X10_partings_67 (xs (ix (x4 + (1 : Int32)))) (1 : Int32) (xs (ix (x4 + (3 : Int32)))) M_555) fun v_570 M_569 => bd (f_X10_thrown_67 M_569) fun v_572 => if v_572 = v_554 then (if v_554 = 0 then (if (M_569.2 120 0) = (v_570.toInt64) then (ltv (x4 + (6 : Int32)) fun x4_574 => k_23 x4_574 M_569) else (none)) else (ltv (x4 + (6 : Int32)) fun x4_573 => k_23 x4_573 M_569)) else (none)))))))))
set_option maxHeartbeats 4000000 in
set_option maxRecDepth 100000 in
theorem gb_L_law_2238 {b xL n cl sl : Nat} {xs : Nat → Int32} {k_23 : Int32 → Mm → Option Unit} {x4 : Int32} {M : Mm} (hE : Has shA (eH E)) (hl : l.stackTraces = false) (C : Cx RL cL_law 8 p room_1 s m #[Value.ref b] meth c E) (hr : meth.sig.returnType = ret) (hes : eS E = s.heap.size) (hX : va_X b xL xs s s.heap) (hbl : b < s.heap.size) (hbA : ¬ eF E b) (hb : cl + (n + 1) ≤ 1000) (hsb : sl + 6 * (n + 1) ≤ 10000) (hk : ∀ (x4 : Int32) (M : Mm) (cl sl : Nat), cl + n ≤ 1000 → sl + 6 * n ≤ 10000 → k_23 x4 M = some () → G p l e room_1 s m #[Value.ref b] below meth c E 8 cl sl (lw_Z below #[Value.ref b] s) 23 [(0, .ref b), (1, .ref (eA E 0)), (2, .ref (eA E 67)), (3, .ref (eA E 120)), (4, .int x4)] [] M) (h : bb_L_law_2238 xL xs k_23 x4 M = some ()) : G p l e room_1 s m #[Value.ref b] below meth c E 8 cl sl (lw_Z below #[Value.ref b] s) 2238 [(0, .ref b), (1, .ref (eA E 0)), (2, .ref (eA E 67)), (3, .ref (eA E 120)), (4, .int x4)] [] M := by
  unfold bb_L_law_2238 at h
  refine G.aload_n C 1 dL_law_2238 rfl rfl ?_
  refine G.aload_n C 0 dL_law_2239 rfl rfl ?_
  refine G.iload C 4 dL_law_2240 rfl ?_
  refine G.iconst (v := (1 : Int32)) C dL_law_2242 (by decide) ?_
  refine G.iadd C dL_law_2243 ?_
  obtain ⟨hg_529, h⟩ := gd_ex h
  refine G.sld C hX hbl hbA hg_529 dL_law_2244 ?_
  refine G.aload_n C 0 dL_law_2245 rfl rfl ?_
  refine G.iload C 4 dL_law_2246 rfl ?_
  refine G.iconst (v := (2 : Int32)) C dL_law_2248 (by decide) ?_
  refine G.iadd C dL_law_2249 ?_
  obtain ⟨hg_530, h⟩ := gd_ex h
  refine G.sld C hX hbl hbA hg_530 dL_law_2250 ?_
  refine G.if_eq (tgt := 2258) C dL_law_2251 (by decide) (fun hc => ?_) (fun hc => ?_)
  · have h := it_t h hc
    refine G.iconst (v := (0 : Int32)) C dL_law_2258 (by decide) ?_
    refine G.aload_n C 0 dL_law_2259 rfl rfl ?_
    refine G.iload C 4 dL_law_2260 rfl ?_
    refine G.iconst (v := (3 : Int32)) C dL_law_2262 (by decide) ?_
    refine G.iadd C dL_law_2263 ?_
    obtain ⟨hg_531, h⟩ := gd_ex h
    refine G.sld C hX hbl hbA hg_531 dL_law_2264 ?_
    refine G.aload_n C 3 dL_law_2265 rfl rfl ?_
    obtain ⟨v_532, M_533, hv_534, h⟩ := bd2_ex h
    refine G.callSB (rest := []) C (sw_L_partings_0_120 hl hE hv_534) ⟨tg_1335, tg_89, ok_L_partings, Nat.le_of_ble_eq_true rfl, Nat.le_of_ble_eq_true rfl⟩ tg_1333 tg_1334 rfl (Nat.le_of_ble_eq_true rfl) dL_law_2266 ⟨show cl + 1 ≤ 600128 by omega, show sl + 6 ≤ 7301098 by omega⟩ ?_
    refine G.istore (L' := [(5, .int v_532), (0, .ref b), (1, .ref (eA E 0)), (2, .ref (eA E 67)), (3, .ref (eA E 120)), (4, .int x4)]) C dL_law_2269 rfl (by decide) rfl ?_
    refine G.aload_n C 3 dL_law_2271 rfl rfl ?_
    refine G.aload_n C 1 dL_law_2272 rfl rfl ?_
    refine G.iload C 5 dL_law_2273 rfl ?_
    refine G.iconst (v := (1 : Int32)) C dL_law_2275 (by decide) ?_
    refine G.iadd C dL_law_2276 ?_
    obtain ⟨hg_535, h⟩ := gd_ex h
    refine G.sld C hX hbl hbA hg_535 dL_law_2277 ?_
    refine G.aload_n C 1 dL_law_2278 rfl rfl ?_
    refine G.iload C 5 dL_law_2279 rfl ?_
    refine G.iconst (v := (2 : Int32)) C dL_law_2281 (by decide) ?_
    refine G.iadd C dL_law_2282 ?_
    obtain ⟨hg_536, h⟩ := gd_ex h
    refine G.sld C hX hbl hbA hg_536 dL_law_2283 ?_
    refine G.if_eq (tgt := 2291) C dL_law_2284 (by decide) (fun hc => ?_) (fun hc => ?_)
    · have h := it_t h hc
      refine G.iconst (v := (0 : Int32)) C dL_law_2291 (by decide) ?_
      refine G.aload_n C 1 dL_law_2292 rfl rfl ?_
      refine G.iload C 5 dL_law_2293 rfl ?_
      refine G.iconst (v := (3 : Int32)) C dL_law_2295 (by decide) ?_
      refine G.iadd C dL_law_2296 ?_
      obtain ⟨hg_537, h⟩ := gd_ex h
      refine G.sld C hX hbl hbA hg_537 dL_law_2297 ?_
      obtain ⟨v_540, M_539, hv_538, h⟩ := bd2_ex h
      refine G.callV (rest := []) C (s_X10_partings_67 (hasM hE)  hv_538) ⟨tg_1937, tg_103, ok_X10_partings, Nat.le_of_ble_eq_true rfl, Nat.le_of_ble_eq_true rfl⟩ tg_1934 tg_1935 tg_1936 (sm_67 (hasM hE)) rfl rfl (Nat.le_of_ble_eq_true rfl) dL_law_2298 ⟨by show _ ≤ 600128; omega, by show _ ≤ 7301098; omega⟩ ?_
      refine G.istore (L' := [(6, .int v_540), (5, .int v_532), (0, .ref b), (1, .ref (eA E 0)), (2, .ref (eA E 67)), (3, .ref (eA E 120)), (4, .int x4)]) C dL_law_2301 rfl (by decide) rfl ?_
      refine G.aload_n C 4 dL_law_2303 rfl rfl ?_
      obtain ⟨v_542, hv_541, h⟩ := bd_ex h
      refine G.callV (rest := []) C (s_X10_thrown_67 (hasM hE)  hv_541) ⟨tg_1585, tg_103, ok_X10_thrown, Nat.le_of_ble_eq_true rfl, Nat.le_of_ble_eq_true rfl⟩ tg_1582 tg_1583 tg_1584 (sm_67 (hasM hE)) rfl rfl (Nat.le_of_ble_eq_true rfl) dL_law_2304 ⟨by show _ ≤ 600128; omega, by show _ ≤ 7301098; omega⟩ ?_
      refine G.iload C 1 dL_law_2307 rfl ?_
      refine G.icmp_eq (tgt := 2314) C dL_law_2309 (by decide) (fun hc => ?_) (fun hc => ?_)
      · have h := it_t h hc
        refine G.iload C 1 dL_law_2314 rfl ?_
        refine G.if_ne (tgt := 2331) C dL_law_2316 (by decide) (fun hc => ?_) (fun hc => ?_)
        · have h := it_f h hc
          refine G.goto (tgt := 2798) C dL_law_2331 (by decide) ?_
          obtain ⟨x4_543, ex4_543, h⟩ := ltv_ex h
          refine G.iinc (L' := [(4, .int x4_543), (6, .int v_540), (5, .int v_532), (0, .ref b), (1, .ref (eA E 0)), (2, .ref (eA E 67)), (3, .ref (eA E 120))]) C 6 dL_law_2798 rfl (ex4_543.trans rfl) (by decide) rfl ?_
          refine G.goto (tgt := 23) C dL_law_2801 (by decide) ?_
          exact G.sub [3, 4, 5, 6, 0] rfl (hk _ _ _ _ (by omega) (by omega) h)
        · have h := it_t h hc
          refine G.aload_n C 5 dL_law_2319 rfl rfl ?_
          refine G.iconst (v := (0 : Int32)) C dL_law_2320 (by decide) ?_
          refine G.aJ (j := 0) C (sa_120 hE) (by decide) (by decide) dL_law_2321 ?_
          refine G.iload C 0 dL_law_2322 rfl ?_
          refine G.i2l (v := v_540.toInt64) C dL_law_2324 rfl ?_
          refine G.lcmp C dL_law_2325 (G.if_eq (tgt := 2331) C dL_law_2326 (by decide) (fun hc => ?_) (fun hc => ?_))
          · have h := it_t h (lgc_eq.mp hc)
            refine G.goto (tgt := 2798) C dL_law_2331 (by decide) ?_
            obtain ⟨x4_544, ex4_544, h⟩ := ltv_ex h
            refine G.iinc (L' := [(4, .int x4_544), (6, .int v_540), (5, .int v_532), (0, .ref b), (1, .ref (eA E 0)), (2, .ref (eA E 67)), (3, .ref (eA E 120))]) C 6 dL_law_2798 rfl (ex4_544.trans rfl) (by decide) rfl ?_
            refine G.goto (tgt := 23) C dL_law_2801 (by decide) ?_
            exact G.sub [3, 4, 5, 6, 0] rfl (hk _ _ _ _ (by omega) (by omega) h)
          · have h := it_f h ((not_congr lgc_eq).mp hc)
            refine G.iconst (v := (0 : Int32)) C dL_law_2329 (by decide) ?_
            cases h
      · have h := it_f h hc
        refine G.iconst (v := (0 : Int32)) C dL_law_2312 (by decide) ?_
        cases h
    · have h := it_f h hc
      refine G.iconst (v := (1 : Int32)) C dL_law_2287 (by decide) ?_
      refine G.goto (tgt := 2292) C dL_law_2288 (by decide) ?_
      refine G.aload_n C 1 dL_law_2292 rfl rfl ?_
      refine G.iload C 5 dL_law_2293 rfl ?_
      refine G.iconst (v := (3 : Int32)) C dL_law_2295 (by decide) ?_
      refine G.iadd C dL_law_2296 ?_
      obtain ⟨hg_545, h⟩ := gd_ex h
      refine G.sld C hX hbl hbA hg_545 dL_law_2297 ?_
      obtain ⟨v_548, M_547, hv_546, h⟩ := bd2_ex h
      refine G.callV (rest := []) C (s_X10_partings_67 (hasM hE)  hv_546) ⟨tg_1937, tg_103, ok_X10_partings, Nat.le_of_ble_eq_true rfl, Nat.le_of_ble_eq_true rfl⟩ tg_1934 tg_1935 tg_1936 (sm_67 (hasM hE)) rfl rfl (Nat.le_of_ble_eq_true rfl) dL_law_2298 ⟨by show _ ≤ 600128; omega, by show _ ≤ 7301098; omega⟩ ?_
      refine G.istore (L' := [(6, .int v_548), (5, .int v_532), (0, .ref b), (1, .ref (eA E 0)), (2, .ref (eA E 67)), (3, .ref (eA E 120)), (4, .int x4)]) C dL_law_2301 rfl (by decide) rfl ?_
      refine G.aload_n C 4 dL_law_2303 rfl rfl ?_
      obtain ⟨v_550, hv_549, h⟩ := bd_ex h
      refine G.callV (rest := []) C (s_X10_thrown_67 (hasM hE)  hv_549) ⟨tg_1585, tg_103, ok_X10_thrown, Nat.le_of_ble_eq_true rfl, Nat.le_of_ble_eq_true rfl⟩ tg_1582 tg_1583 tg_1584 (sm_67 (hasM hE)) rfl rfl (Nat.le_of_ble_eq_true rfl) dL_law_2304 ⟨by show _ ≤ 600128; omega, by show _ ≤ 7301098; omega⟩ ?_
      refine G.iload C 1 dL_law_2307 rfl ?_
      refine G.icmp_eq (tgt := 2314) C dL_law_2309 (by decide) (fun hc => ?_) (fun hc => ?_)
      · have h := it_t h hc
        refine G.iload C 1 dL_law_2314 rfl ?_
        refine G.if_ne (tgt := 2331) C dL_law_2316 (by decide) (fun hc => ?_) (fun hc => ?_)
        · have h := it_f h hc
          refine G.goto (tgt := 2798) C dL_law_2331 (by decide) ?_
          obtain ⟨x4_551, ex4_551, h⟩ := ltv_ex h
          refine G.iinc (L' := [(4, .int x4_551), (6, .int v_548), (5, .int v_532), (0, .ref b), (1, .ref (eA E 0)), (2, .ref (eA E 67)), (3, .ref (eA E 120))]) C 6 dL_law_2798 rfl (ex4_551.trans rfl) (by decide) rfl ?_
          refine G.goto (tgt := 23) C dL_law_2801 (by decide) ?_
          exact G.sub [3, 4, 5, 6, 0] rfl (hk _ _ _ _ (by omega) (by omega) h)
        · have h := it_t h hc
          refine G.aload_n C 5 dL_law_2319 rfl rfl ?_
          refine G.iconst (v := (0 : Int32)) C dL_law_2320 (by decide) ?_
          refine G.aJ (j := 0) C (sa_120 hE) (by decide) (by decide) dL_law_2321 ?_
          refine G.iload C 0 dL_law_2322 rfl ?_
          refine G.i2l (v := v_548.toInt64) C dL_law_2324 rfl ?_
          refine G.lcmp C dL_law_2325 (G.if_eq (tgt := 2331) C dL_law_2326 (by decide) (fun hc => ?_) (fun hc => ?_))
          · have h := it_t h (lgc_eq.mp hc)
            refine G.goto (tgt := 2798) C dL_law_2331 (by decide) ?_
            obtain ⟨x4_552, ex4_552, h⟩ := ltv_ex h
            refine G.iinc (L' := [(4, .int x4_552), (6, .int v_548), (5, .int v_532), (0, .ref b), (1, .ref (eA E 0)), (2, .ref (eA E 67)), (3, .ref (eA E 120))]) C 6 dL_law_2798 rfl (ex4_552.trans rfl) (by decide) rfl ?_
            refine G.goto (tgt := 23) C dL_law_2801 (by decide) ?_
            exact G.sub [3, 4, 5, 6, 0] rfl (hk _ _ _ _ (by omega) (by omega) h)
          · have h := it_f h ((not_congr lgc_eq).mp hc)
            refine G.iconst (v := (0 : Int32)) C dL_law_2329 (by decide) ?_
            cases h
      · have h := it_f h hc
        refine G.iconst (v := (0 : Int32)) C dL_law_2312 (by decide) ?_
        cases h
  · have h := it_f h hc
    refine G.iconst (v := (1 : Int32)) C dL_law_2254 (by decide) ?_
    refine G.goto (tgt := 2259) C dL_law_2255 (by decide) ?_
    refine G.aload_n C 0 dL_law_2259 rfl rfl ?_
    refine G.iload C 4 dL_law_2260 rfl ?_
    refine G.iconst (v := (3 : Int32)) C dL_law_2262 (by decide) ?_
    refine G.iadd C dL_law_2263 ?_
    obtain ⟨hg_553, h⟩ := gd_ex h
    refine G.sld C hX hbl hbA hg_553 dL_law_2264 ?_
    refine G.aload_n C 3 dL_law_2265 rfl rfl ?_
    obtain ⟨v_554, M_555, hv_556, h⟩ := bd2_ex h
    refine G.callSB (rest := []) C (sw_L_partings_0_120 hl hE hv_556) ⟨tg_1335, tg_89, ok_L_partings, Nat.le_of_ble_eq_true rfl, Nat.le_of_ble_eq_true rfl⟩ tg_1333 tg_1334 rfl (Nat.le_of_ble_eq_true rfl) dL_law_2266 ⟨show cl + 1 ≤ 600128 by omega, show sl + 6 ≤ 7301098 by omega⟩ ?_
    refine G.istore (L' := [(5, .int v_554), (0, .ref b), (1, .ref (eA E 0)), (2, .ref (eA E 67)), (3, .ref (eA E 120)), (4, .int x4)]) C dL_law_2269 rfl (by decide) rfl ?_
    refine G.aload_n C 3 dL_law_2271 rfl rfl ?_
    refine G.aload_n C 1 dL_law_2272 rfl rfl ?_
    refine G.iload C 5 dL_law_2273 rfl ?_
    refine G.iconst (v := (1 : Int32)) C dL_law_2275 (by decide) ?_
    refine G.iadd C dL_law_2276 ?_
    obtain ⟨hg_557, h⟩ := gd_ex h
    refine G.sld C hX hbl hbA hg_557 dL_law_2277 ?_
    refine G.aload_n C 1 dL_law_2278 rfl rfl ?_
    refine G.iload C 5 dL_law_2279 rfl ?_
    refine G.iconst (v := (2 : Int32)) C dL_law_2281 (by decide) ?_
    refine G.iadd C dL_law_2282 ?_
    obtain ⟨hg_558, h⟩ := gd_ex h
    refine G.sld C hX hbl hbA hg_558 dL_law_2283 ?_
    refine G.if_eq (tgt := 2291) C dL_law_2284 (by decide) (fun hc => ?_) (fun hc => ?_)
    · have h := it_t h hc
      refine G.iconst (v := (0 : Int32)) C dL_law_2291 (by decide) ?_
      refine G.aload_n C 1 dL_law_2292 rfl rfl ?_
      refine G.iload C 5 dL_law_2293 rfl ?_
      refine G.iconst (v := (3 : Int32)) C dL_law_2295 (by decide) ?_
      refine G.iadd C dL_law_2296 ?_
      obtain ⟨hg_559, h⟩ := gd_ex h
      refine G.sld C hX hbl hbA hg_559 dL_law_2297 ?_
      obtain ⟨v_562, M_561, hv_560, h⟩ := bd2_ex h
      refine G.callV (rest := []) C (s_X10_partings_67 (hasM hE)  hv_560) ⟨tg_1937, tg_103, ok_X10_partings, Nat.le_of_ble_eq_true rfl, Nat.le_of_ble_eq_true rfl⟩ tg_1934 tg_1935 tg_1936 (sm_67 (hasM hE)) rfl rfl (Nat.le_of_ble_eq_true rfl) dL_law_2298 ⟨by show _ ≤ 600128; omega, by show _ ≤ 7301098; omega⟩ ?_
      refine G.istore (L' := [(6, .int v_562), (5, .int v_554), (0, .ref b), (1, .ref (eA E 0)), (2, .ref (eA E 67)), (3, .ref (eA E 120)), (4, .int x4)]) C dL_law_2301 rfl (by decide) rfl ?_
      refine G.aload_n C 4 dL_law_2303 rfl rfl ?_
      obtain ⟨v_564, hv_563, h⟩ := bd_ex h
      refine G.callV (rest := []) C (s_X10_thrown_67 (hasM hE)  hv_563) ⟨tg_1585, tg_103, ok_X10_thrown, Nat.le_of_ble_eq_true rfl, Nat.le_of_ble_eq_true rfl⟩ tg_1582 tg_1583 tg_1584 (sm_67 (hasM hE)) rfl rfl (Nat.le_of_ble_eq_true rfl) dL_law_2304 ⟨by show _ ≤ 600128; omega, by show _ ≤ 7301098; omega⟩ ?_
      refine G.iload C 1 dL_law_2307 rfl ?_
      refine G.icmp_eq (tgt := 2314) C dL_law_2309 (by decide) (fun hc => ?_) (fun hc => ?_)
      · have h := it_t h hc
        refine G.iload C 1 dL_law_2314 rfl ?_
        refine G.if_ne (tgt := 2331) C dL_law_2316 (by decide) (fun hc => ?_) (fun hc => ?_)
        · have h := it_f h hc
          refine G.goto (tgt := 2798) C dL_law_2331 (by decide) ?_
          obtain ⟨x4_565, ex4_565, h⟩ := ltv_ex h
          refine G.iinc (L' := [(4, .int x4_565), (6, .int v_562), (5, .int v_554), (0, .ref b), (1, .ref (eA E 0)), (2, .ref (eA E 67)), (3, .ref (eA E 120))]) C 6 dL_law_2798 rfl (ex4_565.trans rfl) (by decide) rfl ?_
          refine G.goto (tgt := 23) C dL_law_2801 (by decide) ?_
          exact G.sub [3, 4, 5, 6, 0] rfl (hk _ _ _ _ (by omega) (by omega) h)
        · have h := it_t h hc
          refine G.aload_n C 5 dL_law_2319 rfl rfl ?_
          refine G.iconst (v := (0 : Int32)) C dL_law_2320 (by decide) ?_
          refine G.aJ (j := 0) C (sa_120 hE) (by decide) (by decide) dL_law_2321 ?_
          refine G.iload C 0 dL_law_2322 rfl ?_
          refine G.i2l (v := v_562.toInt64) C dL_law_2324 rfl ?_
          refine G.lcmp C dL_law_2325 (G.if_eq (tgt := 2331) C dL_law_2326 (by decide) (fun hc => ?_) (fun hc => ?_))
          · have h := it_t h (lgc_eq.mp hc)
            refine G.goto (tgt := 2798) C dL_law_2331 (by decide) ?_
            obtain ⟨x4_566, ex4_566, h⟩ := ltv_ex h
            refine G.iinc (L' := [(4, .int x4_566), (6, .int v_562), (5, .int v_554), (0, .ref b), (1, .ref (eA E 0)), (2, .ref (eA E 67)), (3, .ref (eA E 120))]) C 6 dL_law_2798 rfl (ex4_566.trans rfl) (by decide) rfl ?_
            refine G.goto (tgt := 23) C dL_law_2801 (by decide) ?_
            exact G.sub [3, 4, 5, 6, 0] rfl (hk _ _ _ _ (by omega) (by omega) h)
          · have h := it_f h ((not_congr lgc_eq).mp hc)
            refine G.iconst (v := (0 : Int32)) C dL_law_2329 (by decide) ?_
            cases h
      · have h := it_f h hc
        refine G.iconst (v := (0 : Int32)) C dL_law_2312 (by decide) ?_
        cases h
    · have h := it_f h hc
      refine G.iconst (v := (1 : Int32)) C dL_law_2287 (by decide) ?_
      refine G.goto (tgt := 2292) C dL_law_2288 (by decide) ?_
      refine G.aload_n C 1 dL_law_2292 rfl rfl ?_
      refine G.iload C 5 dL_law_2293 rfl ?_
      refine G.iconst (v := (3 : Int32)) C dL_law_2295 (by decide) ?_
      refine G.iadd C dL_law_2296 ?_
      obtain ⟨hg_567, h⟩ := gd_ex h
      refine G.sld C hX hbl hbA hg_567 dL_law_2297 ?_
      obtain ⟨v_570, M_569, hv_568, h⟩ := bd2_ex h
      refine G.callV (rest := []) C (s_X10_partings_67 (hasM hE)  hv_568) ⟨tg_1937, tg_103, ok_X10_partings, Nat.le_of_ble_eq_true rfl, Nat.le_of_ble_eq_true rfl⟩ tg_1934 tg_1935 tg_1936 (sm_67 (hasM hE)) rfl rfl (Nat.le_of_ble_eq_true rfl) dL_law_2298 ⟨by show _ ≤ 600128; omega, by show _ ≤ 7301098; omega⟩ ?_
      refine G.istore (L' := [(6, .int v_570), (5, .int v_554), (0, .ref b), (1, .ref (eA E 0)), (2, .ref (eA E 67)), (3, .ref (eA E 120)), (4, .int x4)]) C dL_law_2301 rfl (by decide) rfl ?_
      refine G.aload_n C 4 dL_law_2303 rfl rfl ?_
      obtain ⟨v_572, hv_571, h⟩ := bd_ex h
      refine G.callV (rest := []) C (s_X10_thrown_67 (hasM hE)  hv_571) ⟨tg_1585, tg_103, ok_X10_thrown, Nat.le_of_ble_eq_true rfl, Nat.le_of_ble_eq_true rfl⟩ tg_1582 tg_1583 tg_1584 (sm_67 (hasM hE)) rfl rfl (Nat.le_of_ble_eq_true rfl) dL_law_2304 ⟨by show _ ≤ 600128; omega, by show _ ≤ 7301098; omega⟩ ?_
      refine G.iload C 1 dL_law_2307 rfl ?_
      refine G.icmp_eq (tgt := 2314) C dL_law_2309 (by decide) (fun hc => ?_) (fun hc => ?_)
      · have h := it_t h hc
        refine G.iload C 1 dL_law_2314 rfl ?_
        refine G.if_ne (tgt := 2331) C dL_law_2316 (by decide) (fun hc => ?_) (fun hc => ?_)
        · have h := it_f h hc
          refine G.goto (tgt := 2798) C dL_law_2331 (by decide) ?_
          obtain ⟨x4_573, ex4_573, h⟩ := ltv_ex h
          refine G.iinc (L' := [(4, .int x4_573), (6, .int v_570), (5, .int v_554), (0, .ref b), (1, .ref (eA E 0)), (2, .ref (eA E 67)), (3, .ref (eA E 120))]) C 6 dL_law_2798 rfl (ex4_573.trans rfl) (by decide) rfl ?_
          refine G.goto (tgt := 23) C dL_law_2801 (by decide) ?_
          exact G.sub [3, 4, 5, 6, 0] rfl (hk _ _ _ _ (by omega) (by omega) h)
        · have h := it_t h hc
          refine G.aload_n C 5 dL_law_2319 rfl rfl ?_
          refine G.iconst (v := (0 : Int32)) C dL_law_2320 (by decide) ?_
          refine G.aJ (j := 0) C (sa_120 hE) (by decide) (by decide) dL_law_2321 ?_
          refine G.iload C 0 dL_law_2322 rfl ?_
          refine G.i2l (v := v_570.toInt64) C dL_law_2324 rfl ?_
          refine G.lcmp C dL_law_2325 (G.if_eq (tgt := 2331) C dL_law_2326 (by decide) (fun hc => ?_) (fun hc => ?_))
          · have h := it_t h (lgc_eq.mp hc)
            refine G.goto (tgt := 2798) C dL_law_2331 (by decide) ?_
            obtain ⟨x4_574, ex4_574, h⟩ := ltv_ex h
            refine G.iinc (L' := [(4, .int x4_574), (6, .int v_570), (5, .int v_554), (0, .ref b), (1, .ref (eA E 0)), (2, .ref (eA E 67)), (3, .ref (eA E 120))]) C 6 dL_law_2798 rfl (ex4_574.trans rfl) (by decide) rfl ?_
            refine G.goto (tgt := 23) C dL_law_2801 (by decide) ?_
            exact G.sub [3, 4, 5, 6, 0] rfl (hk _ _ _ _ (by omega) (by omega) h)
          · have h := it_f h ((not_congr lgc_eq).mp hc)
            refine G.iconst (v := (0 : Int32)) C dL_law_2329 (by decide) ?_
            cases h
      · have h := it_f h hc
        refine G.iconst (v := (0 : Int32)) C dL_law_2312 (by decide) ?_
        cases h
def bb_L_law_2334 (xL : Nat) (xs : Nat → Int32) (k_23 : Int32 → Mm → Option Unit) (x4 : Int32) (M : Mm) : Option Unit := bd (f_X9_can_0 M) fun v_576 => bd2 (f_X10_can_67 M) fun v_579 M_578 => if v_576 = v_579 then (ltv (x4 + (6 : Int32)) fun x4_580 => k_23 x4_580 M_578) else (none)
set_option maxHeartbeats 4000000 in
set_option maxRecDepth 100000 in
theorem gb_L_law_2334 {b xL n cl sl : Nat} {xs : Nat → Int32} {k_23 : Int32 → Mm → Option Unit} {x4 : Int32} {M : Mm} (hE : Has shA (eH E)) (hl : l.stackTraces = false) (C : Cx RL cL_law 8 p room_1 s m #[Value.ref b] meth c E) (hr : meth.sig.returnType = ret) (hes : eS E = s.heap.size) (hX : va_X b xL xs s s.heap) (hbl : b < s.heap.size) (hbA : ¬ eF E b) (hb : cl + (n + 1) ≤ 1000) (hsb : sl + 6 * (n + 1) ≤ 10000) (hk : ∀ (x4 : Int32) (M : Mm) (cl sl : Nat), cl + n ≤ 1000 → sl + 6 * n ≤ 10000 → k_23 x4 M = some () → G p l e room_1 s m #[Value.ref b] below meth c E 8 cl sl (lw_Z below #[Value.ref b] s) 23 [(0, .ref b), (1, .ref (eA E 0)), (2, .ref (eA E 67)), (3, .ref (eA E 120)), (4, .int x4)] [] M) (h : bb_L_law_2334 xL xs k_23 x4 M = some ()) : G p l e room_1 s m #[Value.ref b] below meth c E 8 cl sl (lw_Z below #[Value.ref b] s) 2334 [(0, .ref b), (1, .ref (eA E 0)), (2, .ref (eA E 67)), (3, .ref (eA E 120)), (4, .int x4)] [] M := by
  unfold bb_L_law_2334 at h
  refine G.aload_n C 1 dL_law_2334 rfl rfl ?_
  obtain ⟨v_576, hv_575, h⟩ := bd_ex h
  refine G.callV (rest := []) C (s_X9_can_0 (hasC hE)  hv_575) ⟨tg_546, tg_90, ok_X9_can, Nat.le_of_ble_eq_true rfl, Nat.le_of_ble_eq_true rfl⟩ tg_543 tg_544 tg_545 (sc_0 (hasC hE)) rfl rfl (Nat.le_of_ble_eq_true rfl) dL_law_2335 ⟨by show _ ≤ 600128; omega, by show _ ≤ 7301098; omega⟩ ?_
  refine G.aload_n C 2 dL_law_2338 rfl rfl ?_
  obtain ⟨v_579, M_578, hv_577, h⟩ := bd2_ex h
  refine G.callV (rest := [.int v_576]) C (s_X10_can_67 (hasM hE)  hv_577) ⟨tg_1945, tg_103, ok_X10_can, Nat.le_of_ble_eq_true rfl, Nat.le_of_ble_eq_true rfl⟩ tg_1942 tg_1943 tg_1944 (sm_67 (hasM hE)) rfl rfl (Nat.le_of_ble_eq_true rfl) dL_law_2339 ⟨by show _ ≤ 600128; omega, by show _ ≤ 7301098; omega⟩ ?_
  refine G.icmp_eq (tgt := 2798) C dL_law_2342 (by decide) (fun hc => ?_) (fun hc => ?_)
  · have h := it_t h hc
    obtain ⟨x4_580, ex4_580, h⟩ := ltv_ex h
    refine G.iinc (L' := [(4, .int x4_580), (0, .ref b), (1, .ref (eA E 0)), (2, .ref (eA E 67)), (3, .ref (eA E 120))]) C 4 dL_law_2798 rfl (ex4_580.trans rfl) (by decide) rfl ?_
    refine G.goto (tgt := 23) C dL_law_2801 (by decide) ?_
    exact G.sub [1, 2, 3, 4, 0] rfl (hk _ _ _ _ (by omega) (by omega) h)
  · have h := it_f h hc
    refine G.iconst (v := (0 : Int32)) C dL_law_2345 (by decide) ?_
    cases h
def bb_L_law_2347 (xL : Nat) (xs : Nat → Int32) (k_23 : Int32 → Mm → Option Unit) (x4 : Int32) (M : Mm) : Option Unit := bd2 (f_X9_left_0 M) fun v_583 M_582 => bd2 (f_X10_left_67 M_582) fun v_586 M_585 => if v_583 = v_586 then (ltv (x4 + (6 : Int32)) fun x4_587 => k_23 x4_587 M_585) else (none)
set_option maxHeartbeats 4000000 in
set_option maxRecDepth 100000 in
theorem gb_L_law_2347 {b xL n cl sl : Nat} {xs : Nat → Int32} {k_23 : Int32 → Mm → Option Unit} {x4 : Int32} {M : Mm} (hE : Has shA (eH E)) (hl : l.stackTraces = false) (C : Cx RL cL_law 8 p room_1 s m #[Value.ref b] meth c E) (hr : meth.sig.returnType = ret) (hes : eS E = s.heap.size) (hX : va_X b xL xs s s.heap) (hbl : b < s.heap.size) (hbA : ¬ eF E b) (hb : cl + (n + 1) ≤ 1000) (hsb : sl + 6 * (n + 1) ≤ 10000) (hk : ∀ (x4 : Int32) (M : Mm) (cl sl : Nat), cl + n ≤ 1000 → sl + 6 * n ≤ 10000 → k_23 x4 M = some () → G p l e room_1 s m #[Value.ref b] below meth c E 8 cl sl (lw_Z below #[Value.ref b] s) 23 [(0, .ref b), (1, .ref (eA E 0)), (2, .ref (eA E 67)), (3, .ref (eA E 120)), (4, .int x4)] [] M) (h : bb_L_law_2347 xL xs k_23 x4 M = some ()) : G p l e room_1 s m #[Value.ref b] below meth c E 8 cl sl (lw_Z below #[Value.ref b] s) 2347 [(0, .ref b), (1, .ref (eA E 0)), (2, .ref (eA E 67)), (3, .ref (eA E 120)), (4, .int x4)] [] M := by
  unfold bb_L_law_2347 at h
  refine G.aload_n C 1 dL_law_2347 rfl rfl ?_
  obtain ⟨v_583, M_582, hv_581, h⟩ := bd2_ex h
  refine G.callV (rest := []) C (s_X9_left_0 (hasC hE)  hv_581) ⟨tg_564, tg_90, ok_X9_left, Nat.le_of_ble_eq_true rfl, Nat.le_of_ble_eq_true rfl⟩ tg_561 tg_562 tg_563 (sc_0 (hasC hE)) rfl rfl (Nat.le_of_ble_eq_true rfl) dL_law_2348 ⟨by show _ ≤ 600128; omega, by show _ ≤ 7301098; omega⟩ ?_
  refine G.aload_n C 2 dL_law_2351 rfl rfl ?_
  obtain ⟨v_586, M_585, hv_584, h⟩ := bd2_ex h
  refine G.callV (rest := [.int v_583]) C (s_X10_left_67 (hasM hE)  hv_584) ⟨tg_1953, tg_103, ok_X10_left, Nat.le_of_ble_eq_true rfl, Nat.le_of_ble_eq_true rfl⟩ tg_1950 tg_1951 tg_1952 (sm_67 (hasM hE)) rfl rfl (Nat.le_of_ble_eq_true rfl) dL_law_2352 ⟨by show _ ≤ 600128; omega, by show _ ≤ 7301098; omega⟩ ?_
  refine G.icmp_eq (tgt := 2798) C dL_law_2355 (by decide) (fun hc => ?_) (fun hc => ?_)
  · have h := it_t h hc
    obtain ⟨x4_587, ex4_587, h⟩ := ltv_ex h
    refine G.iinc (L' := [(4, .int x4_587), (0, .ref b), (1, .ref (eA E 0)), (2, .ref (eA E 67)), (3, .ref (eA E 120))]) C 4 dL_law_2798 rfl (ex4_587.trans rfl) (by decide) rfl ?_
    refine G.goto (tgt := 23) C dL_law_2801 (by decide) ?_
    exact G.sub [1, 2, 3, 4, 0] rfl (hk _ _ _ _ (by omega) (by omega) h)
  · have h := it_f h hc
    refine G.iconst (v := (0 : Int32)) C dL_law_2358 (by decide) ?_
    cases h
def bb_L_law_2360 (xL : Nat) (xs : Nat → Int32) (k_23 : Int32 → Mm → Option Unit) (x4 : Int32) (M : Mm) : Option Unit := gd (inb (x4 + (1 : Int32)) xL) (gd (inb (x4 + (2 : Int32)) xL) (gd (inb (x4 + (3 : Int32)) xL) (bd2 (fw_L_bars_0_120 (xs (ix (x4 + (1 : Int32)))) (xs (ix (x4 + (2 : Int32)))) (xs (ix (x4 + (3 : Int32)))) M) fun v_591 M_592 => gd (inb (x4 + (1 : Int32)) xL) (gd (inb (x4 + (2 : Int32)) xL) (gd (inb (x4 + (3 : Int32)) xL) (bd2 (f_X10_bars_67 (xs (ix (x4 + (1 : Int32)))) (xs (ix (x4 + (2 : Int32)))) (xs (ix (x4 + (3 : Int32)))) M_592) fun v_599 M_598 => bd (f_X10_thrown_67 M_598) fun v_601 => if v_601 = v_591 then (if v_591 = 0 then (if (M_598.2 120 0) = v_599 then (ltv (x4 + (6 : Int32)) fun x4_603 => k_23 x4_603 M_598) else (none)) else (ltv (x4 + (6 : Int32)) fun x4_602 => k_23 x4_602 M_598)) else (none)))))))
set_option maxHeartbeats 4000000 in
set_option maxRecDepth 100000 in
theorem gb_L_law_2360 {b xL n cl sl : Nat} {xs : Nat → Int32} {k_23 : Int32 → Mm → Option Unit} {x4 : Int32} {M : Mm} (hE : Has shA (eH E)) (hl : l.stackTraces = false) (C : Cx RL cL_law 8 p room_1 s m #[Value.ref b] meth c E) (hr : meth.sig.returnType = ret) (hes : eS E = s.heap.size) (hX : va_X b xL xs s s.heap) (hbl : b < s.heap.size) (hbA : ¬ eF E b) (hb : cl + (n + 1) ≤ 1000) (hsb : sl + 6 * (n + 1) ≤ 10000) (hk : ∀ (x4 : Int32) (M : Mm) (cl sl : Nat), cl + n ≤ 1000 → sl + 6 * n ≤ 10000 → k_23 x4 M = some () → G p l e room_1 s m #[Value.ref b] below meth c E 8 cl sl (lw_Z below #[Value.ref b] s) 23 [(0, .ref b), (1, .ref (eA E 0)), (2, .ref (eA E 67)), (3, .ref (eA E 120)), (4, .int x4)] [] M) (h : bb_L_law_2360 xL xs k_23 x4 M = some ()) : G p l e room_1 s m #[Value.ref b] below meth c E 8 cl sl (lw_Z below #[Value.ref b] s) 2360 [(0, .ref b), (1, .ref (eA E 0)), (2, .ref (eA E 67)), (3, .ref (eA E 120)), (4, .int x4)] [] M := by
  unfold bb_L_law_2360 at h
  refine G.aload_n C 1 dL_law_2360 rfl rfl ?_
  refine G.aload_n C 0 dL_law_2361 rfl rfl ?_
  refine G.iload C 4 dL_law_2362 rfl ?_
  refine G.iconst (v := (1 : Int32)) C dL_law_2364 (by decide) ?_
  refine G.iadd C dL_law_2365 ?_
  obtain ⟨hg_588, h⟩ := gd_ex h
  refine G.sld C hX hbl hbA hg_588 dL_law_2366 ?_
  refine G.aload_n C 0 dL_law_2367 rfl rfl ?_
  refine G.iload C 4 dL_law_2368 rfl ?_
  refine G.iconst (v := (2 : Int32)) C dL_law_2370 (by decide) ?_
  refine G.iadd C dL_law_2371 ?_
  obtain ⟨hg_589, h⟩ := gd_ex h
  refine G.sld C hX hbl hbA hg_589 dL_law_2372 ?_
  refine G.aload_n C 0 dL_law_2373 rfl rfl ?_
  refine G.iload C 4 dL_law_2374 rfl ?_
  refine G.iconst (v := (3 : Int32)) C dL_law_2376 (by decide) ?_
  refine G.iadd C dL_law_2377 ?_
  obtain ⟨hg_590, h⟩ := gd_ex h
  refine G.sld C hX hbl hbA hg_590 dL_law_2378 ?_
  refine G.aload_n C 3 dL_law_2379 rfl rfl ?_
  obtain ⟨v_591, M_592, hv_593, h⟩ := bd2_ex h
  refine G.callSB (rest := []) C (sw_L_bars_0_120 hl hE hv_593) ⟨tg_1367, tg_89, ok_L_bars, Nat.le_of_ble_eq_true rfl, Nat.le_of_ble_eq_true rfl⟩ tg_1365 tg_1366 rfl (Nat.le_of_ble_eq_true rfl) dL_law_2380 ⟨show cl + 1 ≤ 600128 by omega, show sl + 6 ≤ 7301098 by omega⟩ ?_
  refine G.istore (L' := [(5, .int v_591), (0, .ref b), (1, .ref (eA E 0)), (2, .ref (eA E 67)), (3, .ref (eA E 120)), (4, .int x4)]) C dL_law_2383 rfl (by decide) rfl ?_
  refine G.aload_n C 3 dL_law_2385 rfl rfl ?_
  refine G.aload_n C 1 dL_law_2386 rfl rfl ?_
  refine G.iload C 5 dL_law_2387 rfl ?_
  refine G.iconst (v := (1 : Int32)) C dL_law_2389 (by decide) ?_
  refine G.iadd C dL_law_2390 ?_
  obtain ⟨hg_594, h⟩ := gd_ex h
  refine G.sld C hX hbl hbA hg_594 dL_law_2391 ?_
  refine G.aload_n C 1 dL_law_2392 rfl rfl ?_
  refine G.iload C 5 dL_law_2393 rfl ?_
  refine G.iconst (v := (2 : Int32)) C dL_law_2395 (by decide) ?_
  refine G.iadd C dL_law_2396 ?_
  obtain ⟨hg_595, h⟩ := gd_ex h
  refine G.sld C hX hbl hbA hg_595 dL_law_2397 ?_
  refine G.aload_n C 1 dL_law_2398 rfl rfl ?_
  refine G.iload C 5 dL_law_2399 rfl ?_
  refine G.iconst (v := (3 : Int32)) C dL_law_2401 (by decide) ?_
  refine G.iadd C dL_law_2402 ?_
  obtain ⟨hg_596, h⟩ := gd_ex h
  refine G.sld C hX hbl hbA hg_596 dL_law_2403 ?_
  obtain ⟨v_599, M_598, hv_597, h⟩ := bd2_ex h
  refine G.callV (rest := []) C (s_X10_bars_67 (hasM hE)  hv_597) ⟨tg_1874, tg_103, ok_X10_bars, Nat.le_of_ble_eq_true rfl, Nat.le_of_ble_eq_true rfl⟩ tg_1871 tg_1872 tg_1873 (sm_67 (hasM hE)) rfl rfl (Nat.le_of_ble_eq_true rfl) dL_law_2404 ⟨by show _ ≤ 600128; omega, by show _ ≤ 7301098; omega⟩ ?_
  refine G.lstore (L' := [(6, .long v_599), (5, .int v_591), (0, .ref b), (1, .ref (eA E 0)), (2, .ref (eA E 67)), (3, .ref (eA E 120)), (4, .int x4)]) C dL_law_2407 rfl (by decide) rfl ?_
  refine G.aload_n C 4 dL_law_2409 rfl rfl ?_
  obtain ⟨v_601, hv_600, h⟩ := bd_ex h
  refine G.callV (rest := []) C (s_X10_thrown_67 (hasM hE)  hv_600) ⟨tg_1585, tg_103, ok_X10_thrown, Nat.le_of_ble_eq_true rfl, Nat.le_of_ble_eq_true rfl⟩ tg_1582 tg_1583 tg_1584 (sm_67 (hasM hE)) rfl rfl (Nat.le_of_ble_eq_true rfl) dL_law_2410 ⟨by show _ ≤ 600128; omega, by show _ ≤ 7301098; omega⟩ ?_
  refine G.iload C 1 dL_law_2413 rfl ?_
  refine G.icmp_eq (tgt := 2420) C dL_law_2415 (by decide) (fun hc => ?_) (fun hc => ?_)
  · have h := it_t h hc
    refine G.iload C 1 dL_law_2420 rfl ?_
    refine G.if_ne (tgt := 2436) C dL_law_2422 (by decide) (fun hc => ?_) (fun hc => ?_)
    · have h := it_f h hc
      refine G.goto (tgt := 2798) C dL_law_2436 (by decide) ?_
      obtain ⟨x4_602, ex4_602, h⟩ := ltv_ex h
      refine G.iinc (L' := [(4, .int x4_602), (6, .long v_599), (5, .int v_591), (0, .ref b), (1, .ref (eA E 0)), (2, .ref (eA E 67)), (3, .ref (eA E 120))]) C 6 dL_law_2798 rfl (ex4_602.trans rfl) (by decide) rfl ?_
      refine G.goto (tgt := 23) C dL_law_2801 (by decide) ?_
      exact G.sub [3, 4, 5, 6, 0] rfl (hk _ _ _ _ (by omega) (by omega) h)
    · have h := it_t h hc
      refine G.aload_n C 5 dL_law_2425 rfl rfl ?_
      refine G.iconst (v := (0 : Int32)) C dL_law_2426 (by decide) ?_
      refine G.aJ (j := 0) C (sa_120 hE) (by decide) (by decide) dL_law_2427 ?_
      refine G.lload C 0 dL_law_2428 rfl ?_
      refine G.lcmp C dL_law_2430 (G.if_eq (tgt := 2436) C dL_law_2431 (by decide) (fun hc => ?_) (fun hc => ?_))
      · have h := it_t h (lgc_eq.mp hc)
        refine G.goto (tgt := 2798) C dL_law_2436 (by decide) ?_
        obtain ⟨x4_603, ex4_603, h⟩ := ltv_ex h
        refine G.iinc (L' := [(4, .int x4_603), (6, .long v_599), (5, .int v_591), (0, .ref b), (1, .ref (eA E 0)), (2, .ref (eA E 67)), (3, .ref (eA E 120))]) C 6 dL_law_2798 rfl (ex4_603.trans rfl) (by decide) rfl ?_
        refine G.goto (tgt := 23) C dL_law_2801 (by decide) ?_
        exact G.sub [3, 4, 5, 6, 0] rfl (hk _ _ _ _ (by omega) (by omega) h)
      · have h := it_f h ((not_congr lgc_eq).mp hc)
        refine G.iconst (v := (0 : Int32)) C dL_law_2434 (by decide) ?_
        cases h
  · have h := it_f h hc
    refine G.iconst (v := (0 : Int32)) C dL_law_2418 (by decide) ?_
    cases h
def bb_L_law_2439 (xL : Nat) (xs : Nat → Int32) (k_23 : Int32 → Mm → Option Unit) (x4 : Int32) (M : Mm) : Option Unit := gd (inb (x4 + (1 : Int32)) xL) (gd (inb (x4 + (2 : Int32)) xL) (gd (inb (x4 + (3 : Int32)) xL) (if (xs (ix (x4 + (3 : Int32)))) = 0 then (gd (inb (x4 + (4 : Int32)) xL) (bd2 (fw_L_nearest_0_120 ((shL ((xs (ix (x4 + (1 : Int32)))).toInt64) (32 : Int32)) ||| (((xs (ix (x4 + (2 : Int32)))).toInt64) &&& (4294967295 : Int64))) (0 : Int32) (xs (ix (x4 + (4 : Int32)))) M) fun v_608 M_609 => gd (inb (x4 + (1 : Int32)) xL) (gd (inb (x4 + (2 : Int32)) xL) (gd (inb (x4 + (3 : Int32)) xL) (if (xs (ix (x4 + (3 : Int32)))) = 0 then (gd (inb (x4 + (4 : Int32)) xL) (bd2 (f_X10_nearest_67 ((shL ((xs (ix (x4 + (1 : Int32)))).toInt64) (32 : Int32)) ||| (((xs (ix (x4 + (2 : Int32)))).toInt64) &&& (4294967295 : Int64))) (0 : Int32) (xs (ix (x4 + (4 : Int32)))) M_609) fun v_617 M_616 => bd (f_X10_thrown_67 M_616) fun v_619 => if v_619 = v_608 then (if v_608 = 0 then (if (M_616.2 120 0) = (v_617.toInt64) then (ltv (x4 + (6 : Int32)) fun x4_621 => k_23 x4_621 M_616) else (none)) else (ltv (x4 + (6 : Int32)) fun x4_620 => k_23 x4_620 M_616)) else (none))) else (gd (inb (x4 + (4 : Int32)) xL) (bd2 (f_X10_nearest_67 ((shL ((xs (ix (x4 + (1 : Int32)))).toInt64) (32 : Int32)) ||| (((xs (ix (x4 + (2 : Int32)))).toInt64) &&& (4294967295 : Int64))) (1 : Int32) (xs (ix (x4 + (4 : Int32)))) M_609) fun v_625 M_624 => bd (f_X10_thrown_67 M_624) fun v_627 => if v_627 = v_608 then (if v_608 = 0 then (if (M_624.2 120 0) = (v_625.toInt64) then (ltv (x4 + (6 : Int32)) fun x4_629 => k_23 x4_629 M_624) else (none)) else (ltv (x4 + (6 : Int32)) fun x4_628 => k_23 x4_628 M_624)) else (none)))))))) else (gd (inb (x4 + (4 : Int32)) xL) (bd2 (fw_L_nearest_0_120 ((shL ((xs (ix (x4 + (1 : Int32)))).toInt64) (32 : Int32)) ||| (((xs (ix (x4 + (2 : Int32)))).toInt64) &&& (4294967295 : Int64))) (1 : Int32) (xs (ix (x4 + (4 : Int32)))) M) fun v_631 M_632 => gd (inb (x4 + (1 : Int32)) xL) (gd (inb (x4 + (2 : Int32)) xL) (gd (inb (x4 + (3 : Int32)) xL) (if (xs (ix (x4 + (3 : Int32)))) = 0 then (gd (inb (x4 + (4 : Int32)) xL) (bd2 (f_X10_nearest_67 ((shL ((xs (ix (x4 + (1 : Int32)))).toInt64) (32 : Int32)) ||| (((xs (ix (x4 + (2 : Int32)))).toInt64) &&& (4294967295 : Int64))) (0 : Int32) (xs (ix (x4 + (4 : Int32)))) M_632) fun v_640 M_639 => bd (f_X10_thrown_67 M_639) fun v_642 => if v_642 = v_631 then (if v_631 = 0 then (if (M_639.2 120 0) = (v_640.toInt64) then (ltv (x4 + (6 : Int32)) fun x4_644 => k_23 x4_644 M_639) else (none)) else (ltv (x4 + (6 : Int32)) fun x4_643 => k_23 x4_643 M_639)) else (none))) else (gd (inb (x4 + (4 : Int32)) xL) (bd2 (f_X10_nearest_67 ((shL ((xs (ix (x4 + (1 : Int32)))).toInt64) (32 : Int32)) ||| (((xs (ix (x4 + (2 : Int32)))).toInt64) &&& (4294967295 : Int64))) (1 : Int32) (xs (ix (x4 + (4 : Int32)))) M_632) fun v_648 M_647 => bd (f_X10_thrown_67 M_647) fun v_650 => if v_650 = v_631 then (if v_631 = 0 then (if (M_647.2 120 0) = (v_648.toInt64) then (ltv (x4 + (6 : Int32)) fun x4_652 => k_23 x4_652 M_647) else (none)) else (ltv (x4 + (6 : Int32)) fun x4_651 => k_23 x4_651 M_647)) else (none)))))))))))
set_option maxHeartbeats 4000000 in
set_option maxRecDepth 100000 in
theorem gb_L_law_2439 {b xL n cl sl : Nat} {xs : Nat → Int32} {k_23 : Int32 → Mm → Option Unit} {x4 : Int32} {M : Mm} (hE : Has shA (eH E)) (hl : l.stackTraces = false) (C : Cx RL cL_law 8 p room_1 s m #[Value.ref b] meth c E) (hr : meth.sig.returnType = ret) (hes : eS E = s.heap.size) (hX : va_X b xL xs s s.heap) (hbl : b < s.heap.size) (hbA : ¬ eF E b) (hb : cl + (n + 1) ≤ 1000) (hsb : sl + 6 * (n + 1) ≤ 10000) (hk : ∀ (x4 : Int32) (M : Mm) (cl sl : Nat), cl + n ≤ 1000 → sl + 6 * n ≤ 10000 → k_23 x4 M = some () → G p l e room_1 s m #[Value.ref b] below meth c E 8 cl sl (lw_Z below #[Value.ref b] s) 23 [(0, .ref b), (1, .ref (eA E 0)), (2, .ref (eA E 67)), (3, .ref (eA E 120)), (4, .int x4)] [] M) (h : bb_L_law_2439 xL xs k_23 x4 M = some ()) : G p l e room_1 s m #[Value.ref b] below meth c E 8 cl sl (lw_Z below #[Value.ref b] s) 2439 [(0, .ref b), (1, .ref (eA E 0)), (2, .ref (eA E 67)), (3, .ref (eA E 120)), (4, .int x4)] [] M := by
  unfold bb_L_law_2439 at h
  refine G.aload_n C 1 dL_law_2439 rfl rfl ?_
  refine G.aload_n C 0 dL_law_2440 rfl rfl ?_
  refine G.iload C 4 dL_law_2441 rfl ?_
  refine G.iconst (v := (1 : Int32)) C dL_law_2443 (by decide) ?_
  refine G.iadd C dL_law_2444 ?_
  obtain ⟨hg_604, h⟩ := gd_ex h
  refine G.sld C hX hbl hbA hg_604 dL_law_2445 ?_
  refine G.i2l (v := (xs (ix (x4 + (1 : Int32)))).toInt64) C dL_law_2446 rfl ?_
  refine G.bipush (v := (32 : Int32)) C dL_law_2447 (by decide) ?_
  refine G.lshl (v := shL ((xs (ix (x4 + (1 : Int32)))).toInt64) (32 : Int32)) C dL_law_2449 rfl ?_
  refine G.aload_n C 0 dL_law_2450 rfl rfl ?_
  refine G.iload C 4 dL_law_2451 rfl ?_
  refine G.iconst (v := (2 : Int32)) C dL_law_2453 (by decide) ?_
  refine G.iadd C dL_law_2454 ?_
  obtain ⟨hg_605, h⟩ := gd_ex h
  refine G.sld C hX hbl hbA hg_605 dL_law_2455 ?_
  refine G.i2l (v := (xs (ix (x4 + (2 : Int32)))).toInt64) C dL_law_2456 rfl ?_
  refine G.ldc2 C tg_1986 dL_law_2457 ?_
  refine G.land C dL_law_2460 ?_
  refine G.lor C dL_law_2461 ?_
  refine G.aload_n C 0 dL_law_2462 rfl rfl ?_
  refine G.iload C 4 dL_law_2463 rfl ?_
  refine G.iconst (v := (3 : Int32)) C dL_law_2465 (by decide) ?_
  refine G.iadd C dL_law_2466 ?_
  obtain ⟨hg_606, h⟩ := gd_ex h
  refine G.sld C hX hbl hbA hg_606 dL_law_2467 ?_
  refine G.if_eq (tgt := 2475) C dL_law_2468 (by decide) (fun hc => ?_) (fun hc => ?_)
  · have h := it_t h hc
    refine G.iconst (v := (0 : Int32)) C dL_law_2475 (by decide) ?_
    refine G.aload_n C 0 dL_law_2476 rfl rfl ?_
    refine G.iload C 4 dL_law_2477 rfl ?_
    refine G.iconst (v := (4 : Int32)) C dL_law_2479 (by decide) ?_
    refine G.iadd C dL_law_2480 ?_
    obtain ⟨hg_607, h⟩ := gd_ex h
    refine G.sld C hX hbl hbA hg_607 dL_law_2481 ?_
    refine G.aload_n C 3 dL_law_2482 rfl rfl ?_
    obtain ⟨v_608, M_609, hv_610, h⟩ := bd2_ex h
    refine G.callSB (rest := []) C (sw_L_nearest_0_120 hl hE hv_610) ⟨tg_1378, tg_89, ok_L_nearest, Nat.le_of_ble_eq_true rfl, Nat.le_of_ble_eq_true rfl⟩ tg_1376 tg_1377 rfl (Nat.le_of_ble_eq_true rfl) dL_law_2483 ⟨show cl + 1 ≤ 600128 by omega, show sl + 6 ≤ 7301098 by omega⟩ ?_
    refine G.istore (L' := [(5, .int v_608), (0, .ref b), (1, .ref (eA E 0)), (2, .ref (eA E 67)), (3, .ref (eA E 120)), (4, .int x4)]) C dL_law_2486 rfl (by decide) rfl ?_
    refine G.aload_n C 3 dL_law_2488 rfl rfl ?_
    refine G.aload_n C 1 dL_law_2489 rfl rfl ?_
    refine G.iload C 5 dL_law_2490 rfl ?_
    refine G.iconst (v := (1 : Int32)) C dL_law_2492 (by decide) ?_
    refine G.iadd C dL_law_2493 ?_
    obtain ⟨hg_611, h⟩ := gd_ex h
    refine G.sld C hX hbl hbA hg_611 dL_law_2494 ?_
    refine G.i2l (v := (xs (ix (x4 + (1 : Int32)))).toInt64) C dL_law_2495 rfl ?_
    refine G.bipush (v := (32 : Int32)) C dL_law_2496 (by decide) ?_
    refine G.lshl (v := shL ((xs (ix (x4 + (1 : Int32)))).toInt64) (32 : Int32)) C dL_law_2498 rfl ?_
    refine G.aload_n C 1 dL_law_2499 rfl rfl ?_
    refine G.iload C 5 dL_law_2500 rfl ?_
    refine G.iconst (v := (2 : Int32)) C dL_law_2502 (by decide) ?_
    refine G.iadd C dL_law_2503 ?_
    obtain ⟨hg_612, h⟩ := gd_ex h
    refine G.sld C hX hbl hbA hg_612 dL_law_2504 ?_
    refine G.i2l (v := (xs (ix (x4 + (2 : Int32)))).toInt64) C dL_law_2505 rfl ?_
    refine G.ldc2 C tg_1986 dL_law_2506 ?_
    refine G.land C dL_law_2509 ?_
    refine G.lor C dL_law_2510 ?_
    refine G.aload_n C 1 dL_law_2511 rfl rfl ?_
    refine G.iload C 5 dL_law_2512 rfl ?_
    refine G.iconst (v := (3 : Int32)) C dL_law_2514 (by decide) ?_
    refine G.iadd C dL_law_2515 ?_
    obtain ⟨hg_613, h⟩ := gd_ex h
    refine G.sld C hX hbl hbA hg_613 dL_law_2516 ?_
    refine G.if_eq (tgt := 2524) C dL_law_2517 (by decide) (fun hc => ?_) (fun hc => ?_)
    · have h := it_t h hc
      refine G.iconst (v := (0 : Int32)) C dL_law_2524 (by decide) ?_
      refine G.aload_n C 1 dL_law_2525 rfl rfl ?_
      refine G.iload C 5 dL_law_2526 rfl ?_
      refine G.iconst (v := (4 : Int32)) C dL_law_2528 (by decide) ?_
      refine G.iadd C dL_law_2529 ?_
      obtain ⟨hg_614, h⟩ := gd_ex h
      refine G.sld C hX hbl hbA hg_614 dL_law_2530 ?_
      obtain ⟨v_617, M_616, hv_615, h⟩ := bd2_ex h
      refine G.callV (rest := []) C (s_X10_nearest_67 (hasM hE)  hv_615) ⟨tg_1957, tg_103, ok_X10_nearest, Nat.le_of_ble_eq_true rfl, Nat.le_of_ble_eq_true rfl⟩ tg_1954 tg_1955 tg_1956 (sm_67 (hasM hE)) rfl rfl (Nat.le_of_ble_eq_true rfl) dL_law_2531 ⟨by show _ ≤ 600128; omega, by show _ ≤ 7301098; omega⟩ ?_
      refine G.istore (L' := [(6, .int v_617), (5, .int v_608), (0, .ref b), (1, .ref (eA E 0)), (2, .ref (eA E 67)), (3, .ref (eA E 120)), (4, .int x4)]) C dL_law_2534 rfl (by decide) rfl ?_
      refine G.aload_n C 4 dL_law_2536 rfl rfl ?_
      obtain ⟨v_619, hv_618, h⟩ := bd_ex h
      refine G.callV (rest := []) C (s_X10_thrown_67 (hasM hE)  hv_618) ⟨tg_1585, tg_103, ok_X10_thrown, Nat.le_of_ble_eq_true rfl, Nat.le_of_ble_eq_true rfl⟩ tg_1582 tg_1583 tg_1584 (sm_67 (hasM hE)) rfl rfl (Nat.le_of_ble_eq_true rfl) dL_law_2537 ⟨by show _ ≤ 600128; omega, by show _ ≤ 7301098; omega⟩ ?_
      refine G.iload C 1 dL_law_2540 rfl ?_
      refine G.icmp_eq (tgt := 2547) C dL_law_2542 (by decide) (fun hc => ?_) (fun hc => ?_)
      · have h := it_t h hc
        refine G.iload C 1 dL_law_2547 rfl ?_
        refine G.if_ne (tgt := 2564) C dL_law_2549 (by decide) (fun hc => ?_) (fun hc => ?_)
        · have h := it_f h hc
          refine G.goto (tgt := 2798) C dL_law_2564 (by decide) ?_
          obtain ⟨x4_620, ex4_620, h⟩ := ltv_ex h
          refine G.iinc (L' := [(4, .int x4_620), (6, .int v_617), (5, .int v_608), (0, .ref b), (1, .ref (eA E 0)), (2, .ref (eA E 67)), (3, .ref (eA E 120))]) C 6 dL_law_2798 rfl (ex4_620.trans rfl) (by decide) rfl ?_
          refine G.goto (tgt := 23) C dL_law_2801 (by decide) ?_
          exact G.sub [3, 4, 5, 6, 0] rfl (hk _ _ _ _ (by omega) (by omega) h)
        · have h := it_t h hc
          refine G.aload_n C 5 dL_law_2552 rfl rfl ?_
          refine G.iconst (v := (0 : Int32)) C dL_law_2553 (by decide) ?_
          refine G.aJ (j := 0) C (sa_120 hE) (by decide) (by decide) dL_law_2554 ?_
          refine G.iload C 0 dL_law_2555 rfl ?_
          refine G.i2l (v := v_617.toInt64) C dL_law_2557 rfl ?_
          refine G.lcmp C dL_law_2558 (G.if_eq (tgt := 2564) C dL_law_2559 (by decide) (fun hc => ?_) (fun hc => ?_))
          · have h := it_t h (lgc_eq.mp hc)
            refine G.goto (tgt := 2798) C dL_law_2564 (by decide) ?_
            obtain ⟨x4_621, ex4_621, h⟩ := ltv_ex h
            refine G.iinc (L' := [(4, .int x4_621), (6, .int v_617), (5, .int v_608), (0, .ref b), (1, .ref (eA E 0)), (2, .ref (eA E 67)), (3, .ref (eA E 120))]) C 6 dL_law_2798 rfl (ex4_621.trans rfl) (by decide) rfl ?_
            refine G.goto (tgt := 23) C dL_law_2801 (by decide) ?_
            exact G.sub [3, 4, 5, 6, 0] rfl (hk _ _ _ _ (by omega) (by omega) h)
          · have h := it_f h ((not_congr lgc_eq).mp hc)
            refine G.iconst (v := (0 : Int32)) C dL_law_2562 (by decide) ?_
            cases h
      · have h := it_f h hc
        refine G.iconst (v := (0 : Int32)) C dL_law_2545 (by decide) ?_
        cases h
    · have h := it_f h hc
      refine G.iconst (v := (1 : Int32)) C dL_law_2520 (by decide) ?_
      refine G.goto (tgt := 2525) C dL_law_2521 (by decide) ?_
      refine G.aload_n C 1 dL_law_2525 rfl rfl ?_
      refine G.iload C 5 dL_law_2526 rfl ?_
      refine G.iconst (v := (4 : Int32)) C dL_law_2528 (by decide) ?_
      refine G.iadd C dL_law_2529 ?_
      obtain ⟨hg_622, h⟩ := gd_ex h
      refine G.sld C hX hbl hbA hg_622 dL_law_2530 ?_
      obtain ⟨v_625, M_624, hv_623, h⟩ := bd2_ex h
      refine G.callV (rest := []) C (s_X10_nearest_67 (hasM hE)  hv_623) ⟨tg_1957, tg_103, ok_X10_nearest, Nat.le_of_ble_eq_true rfl, Nat.le_of_ble_eq_true rfl⟩ tg_1954 tg_1955 tg_1956 (sm_67 (hasM hE)) rfl rfl (Nat.le_of_ble_eq_true rfl) dL_law_2531 ⟨by show _ ≤ 600128; omega, by show _ ≤ 7301098; omega⟩ ?_
      refine G.istore (L' := [(6, .int v_625), (5, .int v_608), (0, .ref b), (1, .ref (eA E 0)), (2, .ref (eA E 67)), (3, .ref (eA E 120)), (4, .int x4)]) C dL_law_2534 rfl (by decide) rfl ?_
      refine G.aload_n C 4 dL_law_2536 rfl rfl ?_
      obtain ⟨v_627, hv_626, h⟩ := bd_ex h
      refine G.callV (rest := []) C (s_X10_thrown_67 (hasM hE)  hv_626) ⟨tg_1585, tg_103, ok_X10_thrown, Nat.le_of_ble_eq_true rfl, Nat.le_of_ble_eq_true rfl⟩ tg_1582 tg_1583 tg_1584 (sm_67 (hasM hE)) rfl rfl (Nat.le_of_ble_eq_true rfl) dL_law_2537 ⟨by show _ ≤ 600128; omega, by show _ ≤ 7301098; omega⟩ ?_
      refine G.iload C 1 dL_law_2540 rfl ?_
      refine G.icmp_eq (tgt := 2547) C dL_law_2542 (by decide) (fun hc => ?_) (fun hc => ?_)
      · have h := it_t h hc
        refine G.iload C 1 dL_law_2547 rfl ?_
        refine G.if_ne (tgt := 2564) C dL_law_2549 (by decide) (fun hc => ?_) (fun hc => ?_)
        · have h := it_f h hc
          refine G.goto (tgt := 2798) C dL_law_2564 (by decide) ?_
          obtain ⟨x4_628, ex4_628, h⟩ := ltv_ex h
          refine G.iinc (L' := [(4, .int x4_628), (6, .int v_625), (5, .int v_608), (0, .ref b), (1, .ref (eA E 0)), (2, .ref (eA E 67)), (3, .ref (eA E 120))]) C 6 dL_law_2798 rfl (ex4_628.trans rfl) (by decide) rfl ?_
          refine G.goto (tgt := 23) C dL_law_2801 (by decide) ?_
          exact G.sub [3, 4, 5, 6, 0] rfl (hk _ _ _ _ (by omega) (by omega) h)
        · have h := it_t h hc
          refine G.aload_n C 5 dL_law_2552 rfl rfl ?_
          refine G.iconst (v := (0 : Int32)) C dL_law_2553 (by decide) ?_
          refine G.aJ (j := 0) C (sa_120 hE) (by decide) (by decide) dL_law_2554 ?_
          refine G.iload C 0 dL_law_2555 rfl ?_
          refine G.i2l (v := v_625.toInt64) C dL_law_2557 rfl ?_
          refine G.lcmp C dL_law_2558 (G.if_eq (tgt := 2564) C dL_law_2559 (by decide) (fun hc => ?_) (fun hc => ?_))
          · have h := it_t h (lgc_eq.mp hc)
            refine G.goto (tgt := 2798) C dL_law_2564 (by decide) ?_
            obtain ⟨x4_629, ex4_629, h⟩ := ltv_ex h
            refine G.iinc (L' := [(4, .int x4_629), (6, .int v_625), (5, .int v_608), (0, .ref b), (1, .ref (eA E 0)), (2, .ref (eA E 67)), (3, .ref (eA E 120))]) C 6 dL_law_2798 rfl (ex4_629.trans rfl) (by decide) rfl ?_
            refine G.goto (tgt := 23) C dL_law_2801 (by decide) ?_
            exact G.sub [3, 4, 5, 6, 0] rfl (hk _ _ _ _ (by omega) (by omega) h)
          · have h := it_f h ((not_congr lgc_eq).mp hc)
            refine G.iconst (v := (0 : Int32)) C dL_law_2562 (by decide) ?_
            cases h
      · have h := it_f h hc
        refine G.iconst (v := (0 : Int32)) C dL_law_2545 (by decide) ?_
        cases h
  · have h := it_f h hc
    refine G.iconst (v := (1 : Int32)) C dL_law_2471 (by decide) ?_
    refine G.goto (tgt := 2476) C dL_law_2472 (by decide) ?_
    refine G.aload_n C 0 dL_law_2476 rfl rfl ?_
    refine G.iload C 4 dL_law_2477 rfl ?_
    refine G.iconst (v := (4 : Int32)) C dL_law_2479 (by decide) ?_
    refine G.iadd C dL_law_2480 ?_
    obtain ⟨hg_630, h⟩ := gd_ex h
    refine G.sld C hX hbl hbA hg_630 dL_law_2481 ?_
    refine G.aload_n C 3 dL_law_2482 rfl rfl ?_
    obtain ⟨v_631, M_632, hv_633, h⟩ := bd2_ex h
    refine G.callSB (rest := []) C (sw_L_nearest_0_120 hl hE hv_633) ⟨tg_1378, tg_89, ok_L_nearest, Nat.le_of_ble_eq_true rfl, Nat.le_of_ble_eq_true rfl⟩ tg_1376 tg_1377 rfl (Nat.le_of_ble_eq_true rfl) dL_law_2483 ⟨show cl + 1 ≤ 600128 by omega, show sl + 6 ≤ 7301098 by omega⟩ ?_
    refine G.istore (L' := [(5, .int v_631), (0, .ref b), (1, .ref (eA E 0)), (2, .ref (eA E 67)), (3, .ref (eA E 120)), (4, .int x4)]) C dL_law_2486 rfl (by decide) rfl ?_
    refine G.aload_n C 3 dL_law_2488 rfl rfl ?_
    refine G.aload_n C 1 dL_law_2489 rfl rfl ?_
    refine G.iload C 5 dL_law_2490 rfl ?_
    refine G.iconst (v := (1 : Int32)) C dL_law_2492 (by decide) ?_
    refine G.iadd C dL_law_2493 ?_
    obtain ⟨hg_634, h⟩ := gd_ex h
    refine G.sld C hX hbl hbA hg_634 dL_law_2494 ?_
    refine G.i2l (v := (xs (ix (x4 + (1 : Int32)))).toInt64) C dL_law_2495 rfl ?_
    refine G.bipush (v := (32 : Int32)) C dL_law_2496 (by decide) ?_
    refine G.lshl (v := shL ((xs (ix (x4 + (1 : Int32)))).toInt64) (32 : Int32)) C dL_law_2498 rfl ?_
    refine G.aload_n C 1 dL_law_2499 rfl rfl ?_
    refine G.iload C 5 dL_law_2500 rfl ?_
    refine G.iconst (v := (2 : Int32)) C dL_law_2502 (by decide) ?_
    refine G.iadd C dL_law_2503 ?_
    obtain ⟨hg_635, h⟩ := gd_ex h
    refine G.sld C hX hbl hbA hg_635 dL_law_2504 ?_
    refine G.i2l (v := (xs (ix (x4 + (2 : Int32)))).toInt64) C dL_law_2505 rfl ?_
    refine G.ldc2 C tg_1986 dL_law_2506 ?_
    refine G.land C dL_law_2509 ?_
    refine G.lor C dL_law_2510 ?_
    refine G.aload_n C 1 dL_law_2511 rfl rfl ?_
    refine G.iload C 5 dL_law_2512 rfl ?_
    refine G.iconst (v := (3 : Int32)) C dL_law_2514 (by decide) ?_
    refine G.iadd C dL_law_2515 ?_
    obtain ⟨hg_636, h⟩ := gd_ex h
    refine G.sld C hX hbl hbA hg_636 dL_law_2516 ?_
    refine G.if_eq (tgt := 2524) C dL_law_2517 (by decide) (fun hc => ?_) (fun hc => ?_)
    · have h := it_t h hc
      refine G.iconst (v := (0 : Int32)) C dL_law_2524 (by decide) ?_
      refine G.aload_n C 1 dL_law_2525 rfl rfl ?_
      refine G.iload C 5 dL_law_2526 rfl ?_
      refine G.iconst (v := (4 : Int32)) C dL_law_2528 (by decide) ?_
      refine G.iadd C dL_law_2529 ?_
      obtain ⟨hg_637, h⟩ := gd_ex h
      refine G.sld C hX hbl hbA hg_637 dL_law_2530 ?_
      obtain ⟨v_640, M_639, hv_638, h⟩ := bd2_ex h
      refine G.callV (rest := []) C (s_X10_nearest_67 (hasM hE)  hv_638) ⟨tg_1957, tg_103, ok_X10_nearest, Nat.le_of_ble_eq_true rfl, Nat.le_of_ble_eq_true rfl⟩ tg_1954 tg_1955 tg_1956 (sm_67 (hasM hE)) rfl rfl (Nat.le_of_ble_eq_true rfl) dL_law_2531 ⟨by show _ ≤ 600128; omega, by show _ ≤ 7301098; omega⟩ ?_
      refine G.istore (L' := [(6, .int v_640), (5, .int v_631), (0, .ref b), (1, .ref (eA E 0)), (2, .ref (eA E 67)), (3, .ref (eA E 120)), (4, .int x4)]) C dL_law_2534 rfl (by decide) rfl ?_
      refine G.aload_n C 4 dL_law_2536 rfl rfl ?_
      obtain ⟨v_642, hv_641, h⟩ := bd_ex h
      refine G.callV (rest := []) C (s_X10_thrown_67 (hasM hE)  hv_641) ⟨tg_1585, tg_103, ok_X10_thrown, Nat.le_of_ble_eq_true rfl, Nat.le_of_ble_eq_true rfl⟩ tg_1582 tg_1583 tg_1584 (sm_67 (hasM hE)) rfl rfl (Nat.le_of_ble_eq_true rfl) dL_law_2537 ⟨by show _ ≤ 600128; omega, by show _ ≤ 7301098; omega⟩ ?_
      refine G.iload C 1 dL_law_2540 rfl ?_
      refine G.icmp_eq (tgt := 2547) C dL_law_2542 (by decide) (fun hc => ?_) (fun hc => ?_)
      · have h := it_t h hc
        refine G.iload C 1 dL_law_2547 rfl ?_
        refine G.if_ne (tgt := 2564) C dL_law_2549 (by decide) (fun hc => ?_) (fun hc => ?_)
        · have h := it_f h hc
          refine G.goto (tgt := 2798) C dL_law_2564 (by decide) ?_
          obtain ⟨x4_643, ex4_643, h⟩ := ltv_ex h
          refine G.iinc (L' := [(4, .int x4_643), (6, .int v_640), (5, .int v_631), (0, .ref b), (1, .ref (eA E 0)), (2, .ref (eA E 67)), (3, .ref (eA E 120))]) C 6 dL_law_2798 rfl (ex4_643.trans rfl) (by decide) rfl ?_
          refine G.goto (tgt := 23) C dL_law_2801 (by decide) ?_
          exact G.sub [3, 4, 5, 6, 0] rfl (hk _ _ _ _ (by omega) (by omega) h)
        · have h := it_t h hc
          refine G.aload_n C 5 dL_law_2552 rfl rfl ?_
          refine G.iconst (v := (0 : Int32)) C dL_law_2553 (by decide) ?_
          refine G.aJ (j := 0) C (sa_120 hE) (by decide) (by decide) dL_law_2554 ?_
          refine G.iload C 0 dL_law_2555 rfl ?_
          refine G.i2l (v := v_640.toInt64) C dL_law_2557 rfl ?_
          refine G.lcmp C dL_law_2558 (G.if_eq (tgt := 2564) C dL_law_2559 (by decide) (fun hc => ?_) (fun hc => ?_))
          · have h := it_t h (lgc_eq.mp hc)
            refine G.goto (tgt := 2798) C dL_law_2564 (by decide) ?_
            obtain ⟨x4_644, ex4_644, h⟩ := ltv_ex h
            refine G.iinc (L' := [(4, .int x4_644), (6, .int v_640), (5, .int v_631), (0, .ref b), (1, .ref (eA E 0)), (2, .ref (eA E 67)), (3, .ref (eA E 120))]) C 6 dL_law_2798 rfl (ex4_644.trans rfl) (by decide) rfl ?_
            refine G.goto (tgt := 23) C dL_law_2801 (by decide) ?_
            exact G.sub [3, 4, 5, 6, 0] rfl (hk _ _ _ _ (by omega) (by omega) h)
          · have h := it_f h ((not_congr lgc_eq).mp hc)
            refine G.iconst (v := (0 : Int32)) C dL_law_2562 (by decide) ?_
            cases h
      · have h := it_f h hc
        refine G.iconst (v := (0 : Int32)) C dL_law_2545 (by decide) ?_
        cases h
    · have h := it_f h hc
      refine G.iconst (v := (1 : Int32)) C dL_law_2520 (by decide) ?_
      refine G.goto (tgt := 2525) C dL_law_2521 (by decide) ?_
      refine G.aload_n C 1 dL_law_2525 rfl rfl ?_
      refine G.iload C 5 dL_law_2526 rfl ?_
      refine G.iconst (v := (4 : Int32)) C dL_law_2528 (by decide) ?_
      refine G.iadd C dL_law_2529 ?_
      obtain ⟨hg_645, h⟩ := gd_ex h
      refine G.sld C hX hbl hbA hg_645 dL_law_2530 ?_
      obtain ⟨v_648, M_647, hv_646, h⟩ := bd2_ex h
      refine G.callV (rest := []) C (s_X10_nearest_67 (hasM hE)  hv_646) ⟨tg_1957, tg_103, ok_X10_nearest, Nat.le_of_ble_eq_true rfl, Nat.le_of_ble_eq_true rfl⟩ tg_1954 tg_1955 tg_1956 (sm_67 (hasM hE)) rfl rfl (Nat.le_of_ble_eq_true rfl) dL_law_2531 ⟨by show _ ≤ 600128; omega, by show _ ≤ 7301098; omega⟩ ?_
      refine G.istore (L' := [(6, .int v_648), (5, .int v_631), (0, .ref b), (1, .ref (eA E 0)), (2, .ref (eA E 67)), (3, .ref (eA E 120)), (4, .int x4)]) C dL_law_2534 rfl (by decide) rfl ?_
      refine G.aload_n C 4 dL_law_2536 rfl rfl ?_
      obtain ⟨v_650, hv_649, h⟩ := bd_ex h
      refine G.callV (rest := []) C (s_X10_thrown_67 (hasM hE)  hv_649) ⟨tg_1585, tg_103, ok_X10_thrown, Nat.le_of_ble_eq_true rfl, Nat.le_of_ble_eq_true rfl⟩ tg_1582 tg_1583 tg_1584 (sm_67 (hasM hE)) rfl rfl (Nat.le_of_ble_eq_true rfl) dL_law_2537 ⟨by show _ ≤ 600128; omega, by show _ ≤ 7301098; omega⟩ ?_
      refine G.iload C 1 dL_law_2540 rfl ?_
      refine G.icmp_eq (tgt := 2547) C dL_law_2542 (by decide) (fun hc => ?_) (fun hc => ?_)
      · have h := it_t h hc
        refine G.iload C 1 dL_law_2547 rfl ?_
        refine G.if_ne (tgt := 2564) C dL_law_2549 (by decide) (fun hc => ?_) (fun hc => ?_)
        · have h := it_f h hc
          refine G.goto (tgt := 2798) C dL_law_2564 (by decide) ?_
          obtain ⟨x4_651, ex4_651, h⟩ := ltv_ex h
          refine G.iinc (L' := [(4, .int x4_651), (6, .int v_648), (5, .int v_631), (0, .ref b), (1, .ref (eA E 0)), (2, .ref (eA E 67)), (3, .ref (eA E 120))]) C 6 dL_law_2798 rfl (ex4_651.trans rfl) (by decide) rfl ?_
          refine G.goto (tgt := 23) C dL_law_2801 (by decide) ?_
          exact G.sub [3, 4, 5, 6, 0] rfl (hk _ _ _ _ (by omega) (by omega) h)
        · have h := it_t h hc
          refine G.aload_n C 5 dL_law_2552 rfl rfl ?_
          refine G.iconst (v := (0 : Int32)) C dL_law_2553 (by decide) ?_
          refine G.aJ (j := 0) C (sa_120 hE) (by decide) (by decide) dL_law_2554 ?_
          refine G.iload C 0 dL_law_2555 rfl ?_
          refine G.i2l (v := v_648.toInt64) C dL_law_2557 rfl ?_
          refine G.lcmp C dL_law_2558 (G.if_eq (tgt := 2564) C dL_law_2559 (by decide) (fun hc => ?_) (fun hc => ?_))
          · have h := it_t h (lgc_eq.mp hc)
            refine G.goto (tgt := 2798) C dL_law_2564 (by decide) ?_
            obtain ⟨x4_652, ex4_652, h⟩ := ltv_ex h
            refine G.iinc (L' := [(4, .int x4_652), (6, .int v_648), (5, .int v_631), (0, .ref b), (1, .ref (eA E 0)), (2, .ref (eA E 67)), (3, .ref (eA E 120))]) C 6 dL_law_2798 rfl (ex4_652.trans rfl) (by decide) rfl ?_
            refine G.goto (tgt := 23) C dL_law_2801 (by decide) ?_
            exact G.sub [3, 4, 5, 6, 0] rfl (hk _ _ _ _ (by omega) (by omega) h)
          · have h := it_f h ((not_congr lgc_eq).mp hc)
            refine G.iconst (v := (0 : Int32)) C dL_law_2562 (by decide) ?_
            cases h
      · have h := it_f h hc
        refine G.iconst (v := (0 : Int32)) C dL_law_2545 (by decide) ?_
        cases h
def bb_L_law_2567 (xL : Nat) (xs : Nat → Int32) (k_23 : Int32 → Mm → Option Unit) (x4 : Int32) (M : Mm) : Option Unit := gd (inb (x4 + (1 : Int32)) xL) (if (xs (ix (x4 + (1 : Int32)))) = 0 then (gd (inb (x4 + (2 : Int32)) xL) (bd2 (fw_L_originals_0_120 (0 : Int32) (xs (ix (x4 + (2 : Int32)))) M) fun v_655 M_656 => gd (inb (x4 + (1 : Int32)) xL) (if (xs (ix (x4 + (1 : Int32)))) = 0 then (gd (inb (x4 + (2 : Int32)) xL) (bd2 (f_X10_originals_67 (0 : Int32) (xs (ix (x4 + (2 : Int32)))) M_656) fun v_662 M_661 => bd (f_X10_thrown_67 M_661) fun v_664 => if v_664 = v_655 then (if v_655 = 0 then (if (M_661.2 120 0) = (v_662.toInt64) then (ltv (x4 + (6 : Int32)) fun x4_666 => k_23 x4_666 M_661) else (none)) else (ltv (x4 + (6 : Int32)) fun x4_665 => k_23 x4_665 M_661)) else (none))) else (gd (inb (x4 + (2 : Int32)) xL) (bd2 (f_X10_originals_67 (1 : Int32) (xs (ix (x4 + (2 : Int32)))) M_656) fun v_670 M_669 => bd (f_X10_thrown_67 M_669) fun v_672 => if v_672 = v_655 then (if v_655 = 0 then (if (M_669.2 120 0) = (v_670.toInt64) then (ltv (x4 + (6 : Int32)) fun x4_674 => k_23 x4_674 M_669) else (none)) else (ltv (x4 + (6 : Int32)) fun x4_673 => k_23 x4_673 M_669)) else (none)))))) else (gd (inb (x4 + (2 : Int32)) xL) (bd2 (fw_L_originals_0_120 (1 : Int32) (xs (ix (x4 + (2 : Int32)))) M) fun v_676 M_677 => gd (inb (x4 + (1 : Int32)) xL) (if (xs (ix (x4 + (1 : Int32)))) = 0 then (gd (inb (x4 + (2 : Int32)) xL) (bd2 (f_X10_originals_67 (0 : Int32) (xs (ix (x4 + (2 : Int32)))) M_677) fun v_683 M_682 => bd (f_X10_thrown_67 M_682) fun v_685 => if v_685 = v_676 then (if v_676 = 0 then (if (M_682.2 120 0) = (v_683.toInt64) then (ltv (x4 + (6 : Int32)) fun x4_687 => k_23 x4_687 M_682) else (none)) else (ltv (x4 + (6 : Int32)) fun x4_686 => k_23 x4_686 M_682)) else (none))) else (gd (inb (x4 + (2 : Int32)) xL) (bd2 (f_X10_originals_67 (1 : Int32) (xs (ix (x4 + (2 : Int32)))) M_677) fun v_691 M_690 => bd (f_X10_thrown_67 M_690) fun v_693 => if v_693 = v_676 then (if v_676 = 0 then (if (M_690.2 120 0) = (v_691.toInt64) then (ltv (x4 + (6 : Int32)) fun x4_695 => k_23 x4_695 M_690) else (none)) else (ltv (x4 + (6 : Int32)) fun x4_694 => k_23 x4_694 M_690)) else (none)))))))
set_option maxHeartbeats 4000000 in
set_option maxRecDepth 100000 in
theorem gb_L_law_2567 {b xL n cl sl : Nat} {xs : Nat → Int32} {k_23 : Int32 → Mm → Option Unit} {x4 : Int32} {M : Mm} (hE : Has shA (eH E)) (hl : l.stackTraces = false) (C : Cx RL cL_law 8 p room_1 s m #[Value.ref b] meth c E) (hr : meth.sig.returnType = ret) (hes : eS E = s.heap.size) (hX : va_X b xL xs s s.heap) (hbl : b < s.heap.size) (hbA : ¬ eF E b) (hb : cl + (n + 1) ≤ 1000) (hsb : sl + 6 * (n + 1) ≤ 10000) (hk : ∀ (x4 : Int32) (M : Mm) (cl sl : Nat), cl + n ≤ 1000 → sl + 6 * n ≤ 10000 → k_23 x4 M = some () → G p l e room_1 s m #[Value.ref b] below meth c E 8 cl sl (lw_Z below #[Value.ref b] s) 23 [(0, .ref b), (1, .ref (eA E 0)), (2, .ref (eA E 67)), (3, .ref (eA E 120)), (4, .int x4)] [] M) (h : bb_L_law_2567 xL xs k_23 x4 M = some ()) : G p l e room_1 s m #[Value.ref b] below meth c E 8 cl sl (lw_Z below #[Value.ref b] s) 2567 [(0, .ref b), (1, .ref (eA E 0)), (2, .ref (eA E 67)), (3, .ref (eA E 120)), (4, .int x4)] [] M := by
  unfold bb_L_law_2567 at h
  refine G.aload_n C 1 dL_law_2567 rfl rfl ?_
  refine G.aload_n C 0 dL_law_2568 rfl rfl ?_
  refine G.iload C 4 dL_law_2569 rfl ?_
  refine G.iconst (v := (1 : Int32)) C dL_law_2571 (by decide) ?_
  refine G.iadd C dL_law_2572 ?_
  obtain ⟨hg_653, h⟩ := gd_ex h
  refine G.sld C hX hbl hbA hg_653 dL_law_2573 ?_
  refine G.if_eq (tgt := 2581) C dL_law_2574 (by decide) (fun hc => ?_) (fun hc => ?_)
  · have h := it_t h hc
    refine G.iconst (v := (0 : Int32)) C dL_law_2581 (by decide) ?_
    refine G.aload_n C 0 dL_law_2582 rfl rfl ?_
    refine G.iload C 4 dL_law_2583 rfl ?_
    refine G.iconst (v := (2 : Int32)) C dL_law_2585 (by decide) ?_
    refine G.iadd C dL_law_2586 ?_
    obtain ⟨hg_654, h⟩ := gd_ex h
    refine G.sld C hX hbl hbA hg_654 dL_law_2587 ?_
    refine G.aload_n C 3 dL_law_2588 rfl rfl ?_
    obtain ⟨v_655, M_656, hv_657, h⟩ := bd2_ex h
    refine G.callSB (rest := []) C (sw_L_originals_0_120 hl hE hv_657) ⟨tg_1395, tg_89, ok_L_originals, Nat.le_of_ble_eq_true rfl, Nat.le_of_ble_eq_true rfl⟩ tg_1393 tg_1394 rfl (Nat.le_of_ble_eq_true rfl) dL_law_2589 ⟨show cl + 1 ≤ 600128 by omega, show sl + 6 ≤ 7301098 by omega⟩ ?_
    refine G.istore (L' := [(5, .int v_655), (0, .ref b), (1, .ref (eA E 0)), (2, .ref (eA E 67)), (3, .ref (eA E 120)), (4, .int x4)]) C dL_law_2592 rfl (by decide) rfl ?_
    refine G.aload_n C 3 dL_law_2594 rfl rfl ?_
    refine G.aload_n C 1 dL_law_2595 rfl rfl ?_
    refine G.iload C 5 dL_law_2596 rfl ?_
    refine G.iconst (v := (1 : Int32)) C dL_law_2598 (by decide) ?_
    refine G.iadd C dL_law_2599 ?_
    obtain ⟨hg_658, h⟩ := gd_ex h
    refine G.sld C hX hbl hbA hg_658 dL_law_2600 ?_
    refine G.if_eq (tgt := 2608) C dL_law_2601 (by decide) (fun hc => ?_) (fun hc => ?_)
    · have h := it_t h hc
      refine G.iconst (v := (0 : Int32)) C dL_law_2608 (by decide) ?_
      refine G.aload_n C 1 dL_law_2609 rfl rfl ?_
      refine G.iload C 5 dL_law_2610 rfl ?_
      refine G.iconst (v := (2 : Int32)) C dL_law_2612 (by decide) ?_
      refine G.iadd C dL_law_2613 ?_
      obtain ⟨hg_659, h⟩ := gd_ex h
      refine G.sld C hX hbl hbA hg_659 dL_law_2614 ?_
      obtain ⟨v_662, M_661, hv_660, h⟩ := bd2_ex h
      refine G.callV (rest := []) C (s_X10_originals_67 (hasM hE)  hv_660) ⟨tg_1961, tg_103, ok_X10_originals, Nat.le_of_ble_eq_true rfl, Nat.le_of_ble_eq_true rfl⟩ tg_1958 tg_1959 tg_1960 (sm_67 (hasM hE)) rfl rfl (Nat.le_of_ble_eq_true rfl) dL_law_2615 ⟨by show _ ≤ 600128; omega, by show _ ≤ 7301098; omega⟩ ?_
      refine G.istore (L' := [(6, .int v_662), (5, .int v_655), (0, .ref b), (1, .ref (eA E 0)), (2, .ref (eA E 67)), (3, .ref (eA E 120)), (4, .int x4)]) C dL_law_2618 rfl (by decide) rfl ?_
      refine G.aload_n C 4 dL_law_2620 rfl rfl ?_
      obtain ⟨v_664, hv_663, h⟩ := bd_ex h
      refine G.callV (rest := []) C (s_X10_thrown_67 (hasM hE)  hv_663) ⟨tg_1585, tg_103, ok_X10_thrown, Nat.le_of_ble_eq_true rfl, Nat.le_of_ble_eq_true rfl⟩ tg_1582 tg_1583 tg_1584 (sm_67 (hasM hE)) rfl rfl (Nat.le_of_ble_eq_true rfl) dL_law_2621 ⟨by show _ ≤ 600128; omega, by show _ ≤ 7301098; omega⟩ ?_
      refine G.iload C 1 dL_law_2624 rfl ?_
      refine G.icmp_eq (tgt := 2631) C dL_law_2626 (by decide) (fun hc => ?_) (fun hc => ?_)
      · have h := it_t h hc
        refine G.iload C 1 dL_law_2631 rfl ?_
        refine G.if_ne (tgt := 2648) C dL_law_2633 (by decide) (fun hc => ?_) (fun hc => ?_)
        · have h := it_f h hc
          refine G.goto (tgt := 2798) C dL_law_2648 (by decide) ?_
          obtain ⟨x4_665, ex4_665, h⟩ := ltv_ex h
          refine G.iinc (L' := [(4, .int x4_665), (6, .int v_662), (5, .int v_655), (0, .ref b), (1, .ref (eA E 0)), (2, .ref (eA E 67)), (3, .ref (eA E 120))]) C 6 dL_law_2798 rfl (ex4_665.trans rfl) (by decide) rfl ?_
          refine G.goto (tgt := 23) C dL_law_2801 (by decide) ?_
          exact G.sub [3, 4, 5, 6, 0] rfl (hk _ _ _ _ (by omega) (by omega) h)
        · have h := it_t h hc
          refine G.aload_n C 5 dL_law_2636 rfl rfl ?_
          refine G.iconst (v := (0 : Int32)) C dL_law_2637 (by decide) ?_
          refine G.aJ (j := 0) C (sa_120 hE) (by decide) (by decide) dL_law_2638 ?_
          refine G.iload C 0 dL_law_2639 rfl ?_
          refine G.i2l (v := v_662.toInt64) C dL_law_2641 rfl ?_
          refine G.lcmp C dL_law_2642 (G.if_eq (tgt := 2648) C dL_law_2643 (by decide) (fun hc => ?_) (fun hc => ?_))
          · have h := it_t h (lgc_eq.mp hc)
            refine G.goto (tgt := 2798) C dL_law_2648 (by decide) ?_
            obtain ⟨x4_666, ex4_666, h⟩ := ltv_ex h
            refine G.iinc (L' := [(4, .int x4_666), (6, .int v_662), (5, .int v_655), (0, .ref b), (1, .ref (eA E 0)), (2, .ref (eA E 67)), (3, .ref (eA E 120))]) C 6 dL_law_2798 rfl (ex4_666.trans rfl) (by decide) rfl ?_
            refine G.goto (tgt := 23) C dL_law_2801 (by decide) ?_
            exact G.sub [3, 4, 5, 6, 0] rfl (hk _ _ _ _ (by omega) (by omega) h)
          · have h := it_f h ((not_congr lgc_eq).mp hc)
            refine G.iconst (v := (0 : Int32)) C dL_law_2646 (by decide) ?_
            cases h
      · have h := it_f h hc
        refine G.iconst (v := (0 : Int32)) C dL_law_2629 (by decide) ?_
        cases h
    · have h := it_f h hc
      refine G.iconst (v := (1 : Int32)) C dL_law_2604 (by decide) ?_
      refine G.goto (tgt := 2609) C dL_law_2605 (by decide) ?_
      refine G.aload_n C 1 dL_law_2609 rfl rfl ?_
      refine G.iload C 5 dL_law_2610 rfl ?_
      refine G.iconst (v := (2 : Int32)) C dL_law_2612 (by decide) ?_
      refine G.iadd C dL_law_2613 ?_
      obtain ⟨hg_667, h⟩ := gd_ex h
      refine G.sld C hX hbl hbA hg_667 dL_law_2614 ?_
      obtain ⟨v_670, M_669, hv_668, h⟩ := bd2_ex h
      refine G.callV (rest := []) C (s_X10_originals_67 (hasM hE)  hv_668) ⟨tg_1961, tg_103, ok_X10_originals, Nat.le_of_ble_eq_true rfl, Nat.le_of_ble_eq_true rfl⟩ tg_1958 tg_1959 tg_1960 (sm_67 (hasM hE)) rfl rfl (Nat.le_of_ble_eq_true rfl) dL_law_2615 ⟨by show _ ≤ 600128; omega, by show _ ≤ 7301098; omega⟩ ?_
      refine G.istore (L' := [(6, .int v_670), (5, .int v_655), (0, .ref b), (1, .ref (eA E 0)), (2, .ref (eA E 67)), (3, .ref (eA E 120)), (4, .int x4)]) C dL_law_2618 rfl (by decide) rfl ?_
      refine G.aload_n C 4 dL_law_2620 rfl rfl ?_
      obtain ⟨v_672, hv_671, h⟩ := bd_ex h
      refine G.callV (rest := []) C (s_X10_thrown_67 (hasM hE)  hv_671) ⟨tg_1585, tg_103, ok_X10_thrown, Nat.le_of_ble_eq_true rfl, Nat.le_of_ble_eq_true rfl⟩ tg_1582 tg_1583 tg_1584 (sm_67 (hasM hE)) rfl rfl (Nat.le_of_ble_eq_true rfl) dL_law_2621 ⟨by show _ ≤ 600128; omega, by show _ ≤ 7301098; omega⟩ ?_
      refine G.iload C 1 dL_law_2624 rfl ?_
      refine G.icmp_eq (tgt := 2631) C dL_law_2626 (by decide) (fun hc => ?_) (fun hc => ?_)
      · have h := it_t h hc
        refine G.iload C 1 dL_law_2631 rfl ?_
        refine G.if_ne (tgt := 2648) C dL_law_2633 (by decide) (fun hc => ?_) (fun hc => ?_)
        · have h := it_f h hc
          refine G.goto (tgt := 2798) C dL_law_2648 (by decide) ?_
          obtain ⟨x4_673, ex4_673, h⟩ := ltv_ex h
          refine G.iinc (L' := [(4, .int x4_673), (6, .int v_670), (5, .int v_655), (0, .ref b), (1, .ref (eA E 0)), (2, .ref (eA E 67)), (3, .ref (eA E 120))]) C 6 dL_law_2798 rfl (ex4_673.trans rfl) (by decide) rfl ?_
          refine G.goto (tgt := 23) C dL_law_2801 (by decide) ?_
          exact G.sub [3, 4, 5, 6, 0] rfl (hk _ _ _ _ (by omega) (by omega) h)
        · have h := it_t h hc
          refine G.aload_n C 5 dL_law_2636 rfl rfl ?_
          refine G.iconst (v := (0 : Int32)) C dL_law_2637 (by decide) ?_
          refine G.aJ (j := 0) C (sa_120 hE) (by decide) (by decide) dL_law_2638 ?_
          refine G.iload C 0 dL_law_2639 rfl ?_
          refine G.i2l (v := v_670.toInt64) C dL_law_2641 rfl ?_
          refine G.lcmp C dL_law_2642 (G.if_eq (tgt := 2648) C dL_law_2643 (by decide) (fun hc => ?_) (fun hc => ?_))
          · have h := it_t h (lgc_eq.mp hc)
            refine G.goto (tgt := 2798) C dL_law_2648 (by decide) ?_
            obtain ⟨x4_674, ex4_674, h⟩ := ltv_ex h
            refine G.iinc (L' := [(4, .int x4_674), (6, .int v_670), (5, .int v_655), (0, .ref b), (1, .ref (eA E 0)), (2, .ref (eA E 67)), (3, .ref (eA E 120))]) C 6 dL_law_2798 rfl (ex4_674.trans rfl) (by decide) rfl ?_
            refine G.goto (tgt := 23) C dL_law_2801 (by decide) ?_
            exact G.sub [3, 4, 5, 6, 0] rfl (hk _ _ _ _ (by omega) (by omega) h)
          · have h := it_f h ((not_congr lgc_eq).mp hc)
            refine G.iconst (v := (0 : Int32)) C dL_law_2646 (by decide) ?_
            cases h
      · have h := it_f h hc
        refine G.iconst (v := (0 : Int32)) C dL_law_2629 (by decide) ?_
        cases h
  · have h := it_f h hc
    refine G.iconst (v := (1 : Int32)) C dL_law_2577 (by decide) ?_
    refine G.goto (tgt := 2582) C dL_law_2578 (by decide) ?_
    refine G.aload_n C 0 dL_law_2582 rfl rfl ?_
    refine G.iload C 4 dL_law_2583 rfl ?_
    refine G.iconst (v := (2 : Int32)) C dL_law_2585 (by decide) ?_
    refine G.iadd C dL_law_2586 ?_
    obtain ⟨hg_675, h⟩ := gd_ex h
    refine G.sld C hX hbl hbA hg_675 dL_law_2587 ?_
    refine G.aload_n C 3 dL_law_2588 rfl rfl ?_
    obtain ⟨v_676, M_677, hv_678, h⟩ := bd2_ex h
    refine G.callSB (rest := []) C (sw_L_originals_0_120 hl hE hv_678) ⟨tg_1395, tg_89, ok_L_originals, Nat.le_of_ble_eq_true rfl, Nat.le_of_ble_eq_true rfl⟩ tg_1393 tg_1394 rfl (Nat.le_of_ble_eq_true rfl) dL_law_2589 ⟨show cl + 1 ≤ 600128 by omega, show sl + 6 ≤ 7301098 by omega⟩ ?_
    refine G.istore (L' := [(5, .int v_676), (0, .ref b), (1, .ref (eA E 0)), (2, .ref (eA E 67)), (3, .ref (eA E 120)), (4, .int x4)]) C dL_law_2592 rfl (by decide) rfl ?_
    refine G.aload_n C 3 dL_law_2594 rfl rfl ?_
    refine G.aload_n C 1 dL_law_2595 rfl rfl ?_
    refine G.iload C 5 dL_law_2596 rfl ?_
    refine G.iconst (v := (1 : Int32)) C dL_law_2598 (by decide) ?_
    refine G.iadd C dL_law_2599 ?_
    obtain ⟨hg_679, h⟩ := gd_ex h
    refine G.sld C hX hbl hbA hg_679 dL_law_2600 ?_
    refine G.if_eq (tgt := 2608) C dL_law_2601 (by decide) (fun hc => ?_) (fun hc => ?_)
    · have h := it_t h hc
      refine G.iconst (v := (0 : Int32)) C dL_law_2608 (by decide) ?_
      refine G.aload_n C 1 dL_law_2609 rfl rfl ?_
      refine G.iload C 5 dL_law_2610 rfl ?_
      refine G.iconst (v := (2 : Int32)) C dL_law_2612 (by decide) ?_
      refine G.iadd C dL_law_2613 ?_
      obtain ⟨hg_680, h⟩ := gd_ex h
      refine G.sld C hX hbl hbA hg_680 dL_law_2614 ?_
      obtain ⟨v_683, M_682, hv_681, h⟩ := bd2_ex h
      refine G.callV (rest := []) C (s_X10_originals_67 (hasM hE)  hv_681) ⟨tg_1961, tg_103, ok_X10_originals, Nat.le_of_ble_eq_true rfl, Nat.le_of_ble_eq_true rfl⟩ tg_1958 tg_1959 tg_1960 (sm_67 (hasM hE)) rfl rfl (Nat.le_of_ble_eq_true rfl) dL_law_2615 ⟨by show _ ≤ 600128; omega, by show _ ≤ 7301098; omega⟩ ?_
      refine G.istore (L' := [(6, .int v_683), (5, .int v_676), (0, .ref b), (1, .ref (eA E 0)), (2, .ref (eA E 67)), (3, .ref (eA E 120)), (4, .int x4)]) C dL_law_2618 rfl (by decide) rfl ?_
      refine G.aload_n C 4 dL_law_2620 rfl rfl ?_
      obtain ⟨v_685, hv_684, h⟩ := bd_ex h
      refine G.callV (rest := []) C (s_X10_thrown_67 (hasM hE)  hv_684) ⟨tg_1585, tg_103, ok_X10_thrown, Nat.le_of_ble_eq_true rfl, Nat.le_of_ble_eq_true rfl⟩ tg_1582 tg_1583 tg_1584 (sm_67 (hasM hE)) rfl rfl (Nat.le_of_ble_eq_true rfl) dL_law_2621 ⟨by show _ ≤ 600128; omega, by show _ ≤ 7301098; omega⟩ ?_
      refine G.iload C 1 dL_law_2624 rfl ?_
      refine G.icmp_eq (tgt := 2631) C dL_law_2626 (by decide) (fun hc => ?_) (fun hc => ?_)
      · have h := it_t h hc
        refine G.iload C 1 dL_law_2631 rfl ?_
        refine G.if_ne (tgt := 2648) C dL_law_2633 (by decide) (fun hc => ?_) (fun hc => ?_)
        · have h := it_f h hc
          refine G.goto (tgt := 2798) C dL_law_2648 (by decide) ?_
          obtain ⟨x4_686, ex4_686, h⟩ := ltv_ex h
          refine G.iinc (L' := [(4, .int x4_686), (6, .int v_683), (5, .int v_676), (0, .ref b), (1, .ref (eA E 0)), (2, .ref (eA E 67)), (3, .ref (eA E 120))]) C 6 dL_law_2798 rfl (ex4_686.trans rfl) (by decide) rfl ?_
          refine G.goto (tgt := 23) C dL_law_2801 (by decide) ?_
          exact G.sub [3, 4, 5, 6, 0] rfl (hk _ _ _ _ (by omega) (by omega) h)
        · have h := it_t h hc
          refine G.aload_n C 5 dL_law_2636 rfl rfl ?_
          refine G.iconst (v := (0 : Int32)) C dL_law_2637 (by decide) ?_
          refine G.aJ (j := 0) C (sa_120 hE) (by decide) (by decide) dL_law_2638 ?_
          refine G.iload C 0 dL_law_2639 rfl ?_
          refine G.i2l (v := v_683.toInt64) C dL_law_2641 rfl ?_
          refine G.lcmp C dL_law_2642 (G.if_eq (tgt := 2648) C dL_law_2643 (by decide) (fun hc => ?_) (fun hc => ?_))
          · have h := it_t h (lgc_eq.mp hc)
            refine G.goto (tgt := 2798) C dL_law_2648 (by decide) ?_
            obtain ⟨x4_687, ex4_687, h⟩ := ltv_ex h
            refine G.iinc (L' := [(4, .int x4_687), (6, .int v_683), (5, .int v_676), (0, .ref b), (1, .ref (eA E 0)), (2, .ref (eA E 67)), (3, .ref (eA E 120))]) C 6 dL_law_2798 rfl (ex4_687.trans rfl) (by decide) rfl ?_
            refine G.goto (tgt := 23) C dL_law_2801 (by decide) ?_
            exact G.sub [3, 4, 5, 6, 0] rfl (hk _ _ _ _ (by omega) (by omega) h)
          · have h := it_f h ((not_congr lgc_eq).mp hc)
            refine G.iconst (v := (0 : Int32)) C dL_law_2646 (by decide) ?_
            cases h
      · have h := it_f h hc
        refine G.iconst (v := (0 : Int32)) C dL_law_2629 (by decide) ?_
        cases h
    · have h := it_f h hc
      refine G.iconst (v := (1 : Int32)) C dL_law_2604 (by decide) ?_
      refine G.goto (tgt := 2609) C dL_law_2605 (by decide) ?_
      refine G.aload_n C 1 dL_law_2609 rfl rfl ?_
      refine G.iload C 5 dL_law_2610 rfl ?_
      refine G.iconst (v := (2 : Int32)) C dL_law_2612 (by decide) ?_
      refine G.iadd C dL_law_2613 ?_
      obtain ⟨hg_688, h⟩ := gd_ex h
      refine G.sld C hX hbl hbA hg_688 dL_law_2614 ?_
      obtain ⟨v_691, M_690, hv_689, h⟩ := bd2_ex h
      refine G.callV (rest := []) C (s_X10_originals_67 (hasM hE)  hv_689) ⟨tg_1961, tg_103, ok_X10_originals, Nat.le_of_ble_eq_true rfl, Nat.le_of_ble_eq_true rfl⟩ tg_1958 tg_1959 tg_1960 (sm_67 (hasM hE)) rfl rfl (Nat.le_of_ble_eq_true rfl) dL_law_2615 ⟨by show _ ≤ 600128; omega, by show _ ≤ 7301098; omega⟩ ?_
      refine G.istore (L' := [(6, .int v_691), (5, .int v_676), (0, .ref b), (1, .ref (eA E 0)), (2, .ref (eA E 67)), (3, .ref (eA E 120)), (4, .int x4)]) C dL_law_2618 rfl (by decide) rfl ?_
      refine G.aload_n C 4 dL_law_2620 rfl rfl ?_
      obtain ⟨v_693, hv_692, h⟩ := bd_ex h
      refine G.callV (rest := []) C (s_X10_thrown_67 (hasM hE)  hv_692) ⟨tg_1585, tg_103, ok_X10_thrown, Nat.le_of_ble_eq_true rfl, Nat.le_of_ble_eq_true rfl⟩ tg_1582 tg_1583 tg_1584 (sm_67 (hasM hE)) rfl rfl (Nat.le_of_ble_eq_true rfl) dL_law_2621 ⟨by show _ ≤ 600128; omega, by show _ ≤ 7301098; omega⟩ ?_
      refine G.iload C 1 dL_law_2624 rfl ?_
      refine G.icmp_eq (tgt := 2631) C dL_law_2626 (by decide) (fun hc => ?_) (fun hc => ?_)
      · have h := it_t h hc
        refine G.iload C 1 dL_law_2631 rfl ?_
        refine G.if_ne (tgt := 2648) C dL_law_2633 (by decide) (fun hc => ?_) (fun hc => ?_)
        · have h := it_f h hc
          refine G.goto (tgt := 2798) C dL_law_2648 (by decide) ?_
          obtain ⟨x4_694, ex4_694, h⟩ := ltv_ex h
          refine G.iinc (L' := [(4, .int x4_694), (6, .int v_691), (5, .int v_676), (0, .ref b), (1, .ref (eA E 0)), (2, .ref (eA E 67)), (3, .ref (eA E 120))]) C 6 dL_law_2798 rfl (ex4_694.trans rfl) (by decide) rfl ?_
          refine G.goto (tgt := 23) C dL_law_2801 (by decide) ?_
          exact G.sub [3, 4, 5, 6, 0] rfl (hk _ _ _ _ (by omega) (by omega) h)
        · have h := it_t h hc
          refine G.aload_n C 5 dL_law_2636 rfl rfl ?_
          refine G.iconst (v := (0 : Int32)) C dL_law_2637 (by decide) ?_
          refine G.aJ (j := 0) C (sa_120 hE) (by decide) (by decide) dL_law_2638 ?_
          refine G.iload C 0 dL_law_2639 rfl ?_
          refine G.i2l (v := v_691.toInt64) C dL_law_2641 rfl ?_
          refine G.lcmp C dL_law_2642 (G.if_eq (tgt := 2648) C dL_law_2643 (by decide) (fun hc => ?_) (fun hc => ?_))
          · have h := it_t h (lgc_eq.mp hc)
            refine G.goto (tgt := 2798) C dL_law_2648 (by decide) ?_
            obtain ⟨x4_695, ex4_695, h⟩ := ltv_ex h
            refine G.iinc (L' := [(4, .int x4_695), (6, .int v_691), (5, .int v_676), (0, .ref b), (1, .ref (eA E 0)), (2, .ref (eA E 67)), (3, .ref (eA E 120))]) C 6 dL_law_2798 rfl (ex4_695.trans rfl) (by decide) rfl ?_
            refine G.goto (tgt := 23) C dL_law_2801 (by decide) ?_
            exact G.sub [3, 4, 5, 6, 0] rfl (hk _ _ _ _ (by omega) (by omega) h)
          · have h := it_f h ((not_congr lgc_eq).mp hc)
            refine G.iconst (v := (0 : Int32)) C dL_law_2646 (by decide) ?_
            cases h
      · have h := it_f h hc
        refine G.iconst (v := (0 : Int32)) C dL_law_2629 (by decide) ?_
        cases h
def bb_L_law_2651 (xL : Nat) (xs : Nat → Int32) (k_23 : Int32 → Mm → Option Unit) (x4 : Int32) (M : Mm) : Option Unit := gd (inb (x4 + (1 : Int32)) xL) (gd (inb (x4 + (2 : Int32)) xL) (gd (inb (x4 + (3 : Int32)) xL) (if (xs (ix (x4 + (3 : Int32)))) = 0 then (bd2 (fw_L_fount_0_120 (xs (ix (x4 + (1 : Int32)))) (xs (ix (x4 + (2 : Int32)))) (0 : Int32) M) fun v_699 M_700 => gd (inb (x4 + (1 : Int32)) xL) (gd (inb (x4 + (2 : Int32)) xL) (gd (inb (x4 + (3 : Int32)) xL) (if (xs (ix (x4 + (3 : Int32)))) = 0 then (bd2 (f_X10_fount_67 (xs (ix (x4 + (1 : Int32)))) (xs (ix (x4 + (2 : Int32)))) (0 : Int32) M_700) fun v_707 M_706 => bd (f_X10_thrown_67 M_706) fun v_709 => if v_709 = v_699 then (if v_699 = 0 then (if (M_706.2 120 0) = (v_707.toInt64) then (ltv (x4 + (6 : Int32)) fun x4_711 => k_23 x4_711 M_706) else (none)) else (ltv (x4 + (6 : Int32)) fun x4_710 => k_23 x4_710 M_706)) else (none)) else (bd2 (f_X10_fount_67 (xs (ix (x4 + (1 : Int32)))) (xs (ix (x4 + (2 : Int32)))) (1 : Int32) M_700) fun v_714 M_713 => bd (f_X10_thrown_67 M_713) fun v_716 => if v_716 = v_699 then (if v_699 = 0 then (if (M_713.2 120 0) = (v_714.toInt64) then (ltv (x4 + (6 : Int32)) fun x4_718 => k_23 x4_718 M_713) else (none)) else (ltv (x4 + (6 : Int32)) fun x4_717 => k_23 x4_717 M_713)) else (none)))))) else (bd2 (fw_L_fount_0_120 (xs (ix (x4 + (1 : Int32)))) (xs (ix (x4 + (2 : Int32)))) (1 : Int32) M) fun v_719 M_720 => gd (inb (x4 + (1 : Int32)) xL) (gd (inb (x4 + (2 : Int32)) xL) (gd (inb (x4 + (3 : Int32)) xL) (if (xs (ix (x4 + (3 : Int32)))) = 0 then (bd2 (f_X10_fount_67 (xs (ix (x4 + (1 : Int32)))) (xs (ix (x4 + (2 : Int32)))) (0 : Int32) M_720) fun v_727 M_726 => bd (f_X10_thrown_67 M_726) fun v_729 => if v_729 = v_719 then (if v_719 = 0 then (if (M_726.2 120 0) = (v_727.toInt64) then (ltv (x4 + (6 : Int32)) fun x4_731 => k_23 x4_731 M_726) else (none)) else (ltv (x4 + (6 : Int32)) fun x4_730 => k_23 x4_730 M_726)) else (none)) else (bd2 (f_X10_fount_67 (xs (ix (x4 + (1 : Int32)))) (xs (ix (x4 + (2 : Int32)))) (1 : Int32) M_720) fun v_734 M_733 => bd (f_X10_thrown_67 M_733) fun v_736 => if v_736 = v_719 then (if v_719 = 0 then (if (M_733.2 120 0) = (v_734.toInt64) then (ltv (x4 + (6 : Int32)) fun x4_738 => k_23 x4_738 M_733) else (none)) else (ltv (x4 + (6 : Int32)) fun x4_737 => k_23 x4_737 M_733)) else (none)))))))))
set_option maxHeartbeats 4000000 in
set_option maxRecDepth 100000 in
theorem gb_L_law_2651 {b xL n cl sl : Nat} {xs : Nat → Int32} {k_23 : Int32 → Mm → Option Unit} {x4 : Int32} {M : Mm} (hE : Has shA (eH E)) (hl : l.stackTraces = false) (C : Cx RL cL_law 8 p room_1 s m #[Value.ref b] meth c E) (hr : meth.sig.returnType = ret) (hes : eS E = s.heap.size) (hX : va_X b xL xs s s.heap) (hbl : b < s.heap.size) (hbA : ¬ eF E b) (hb : cl + (n + 1) ≤ 1000) (hsb : sl + 6 * (n + 1) ≤ 10000) (hk : ∀ (x4 : Int32) (M : Mm) (cl sl : Nat), cl + n ≤ 1000 → sl + 6 * n ≤ 10000 → k_23 x4 M = some () → G p l e room_1 s m #[Value.ref b] below meth c E 8 cl sl (lw_Z below #[Value.ref b] s) 23 [(0, .ref b), (1, .ref (eA E 0)), (2, .ref (eA E 67)), (3, .ref (eA E 120)), (4, .int x4)] [] M) (h : bb_L_law_2651 xL xs k_23 x4 M = some ()) : G p l e room_1 s m #[Value.ref b] below meth c E 8 cl sl (lw_Z below #[Value.ref b] s) 2651 [(0, .ref b), (1, .ref (eA E 0)), (2, .ref (eA E 67)), (3, .ref (eA E 120)), (4, .int x4)] [] M := by
  unfold bb_L_law_2651 at h
  refine G.aload_n C 1 dL_law_2651 rfl rfl ?_
  refine G.aload_n C 0 dL_law_2652 rfl rfl ?_
  refine G.iload C 4 dL_law_2653 rfl ?_
  refine G.iconst (v := (1 : Int32)) C dL_law_2655 (by decide) ?_
  refine G.iadd C dL_law_2656 ?_
  obtain ⟨hg_696, h⟩ := gd_ex h
  refine G.sld C hX hbl hbA hg_696 dL_law_2657 ?_
  refine G.aload_n C 0 dL_law_2658 rfl rfl ?_
  refine G.iload C 4 dL_law_2659 rfl ?_
  refine G.iconst (v := (2 : Int32)) C dL_law_2661 (by decide) ?_
  refine G.iadd C dL_law_2662 ?_
  obtain ⟨hg_697, h⟩ := gd_ex h
  refine G.sld C hX hbl hbA hg_697 dL_law_2663 ?_
  refine G.aload_n C 0 dL_law_2664 rfl rfl ?_
  refine G.iload C 4 dL_law_2665 rfl ?_
  refine G.iconst (v := (3 : Int32)) C dL_law_2667 (by decide) ?_
  refine G.iadd C dL_law_2668 ?_
  obtain ⟨hg_698, h⟩ := gd_ex h
  refine G.sld C hX hbl hbA hg_698 dL_law_2669 ?_
  refine G.if_eq (tgt := 2677) C dL_law_2670 (by decide) (fun hc => ?_) (fun hc => ?_)
  · have h := it_t h hc
    refine G.iconst (v := (0 : Int32)) C dL_law_2677 (by decide) ?_
    refine G.aload_n C 3 dL_law_2678 rfl rfl ?_
    obtain ⟨v_699, M_700, hv_701, h⟩ := bd2_ex h
    refine G.callSB (rest := []) C (sw_L_fount_0_120 hl hE hv_701) ⟨tg_1411, tg_89, ok_L_fount, Nat.le_of_ble_eq_true rfl, Nat.le_of_ble_eq_true rfl⟩ tg_1409 tg_1410 rfl (Nat.le_of_ble_eq_true rfl) dL_law_2679 ⟨show cl + 1 ≤ 600128 by omega, show sl + 6 ≤ 7301098 by omega⟩ ?_
    refine G.istore (L' := [(5, .int v_699), (0, .ref b), (1, .ref (eA E 0)), (2, .ref (eA E 67)), (3, .ref (eA E 120)), (4, .int x4)]) C dL_law_2682 rfl (by decide) rfl ?_
    refine G.aload_n C 3 dL_law_2684 rfl rfl ?_
    refine G.aload_n C 1 dL_law_2685 rfl rfl ?_
    refine G.iload C 5 dL_law_2686 rfl ?_
    refine G.iconst (v := (1 : Int32)) C dL_law_2688 (by decide) ?_
    refine G.iadd C dL_law_2689 ?_
    obtain ⟨hg_702, h⟩ := gd_ex h
    refine G.sld C hX hbl hbA hg_702 dL_law_2690 ?_
    refine G.aload_n C 1 dL_law_2691 rfl rfl ?_
    refine G.iload C 5 dL_law_2692 rfl ?_
    refine G.iconst (v := (2 : Int32)) C dL_law_2694 (by decide) ?_
    refine G.iadd C dL_law_2695 ?_
    obtain ⟨hg_703, h⟩ := gd_ex h
    refine G.sld C hX hbl hbA hg_703 dL_law_2696 ?_
    refine G.aload_n C 1 dL_law_2697 rfl rfl ?_
    refine G.iload C 5 dL_law_2698 rfl ?_
    refine G.iconst (v := (3 : Int32)) C dL_law_2700 (by decide) ?_
    refine G.iadd C dL_law_2701 ?_
    obtain ⟨hg_704, h⟩ := gd_ex h
    refine G.sld C hX hbl hbA hg_704 dL_law_2702 ?_
    refine G.if_eq (tgt := 2710) C dL_law_2703 (by decide) (fun hc => ?_) (fun hc => ?_)
    · have h := it_t h hc
      refine G.iconst (v := (0 : Int32)) C dL_law_2710 (by decide) ?_
      obtain ⟨v_707, M_706, hv_705, h⟩ := bd2_ex h
      refine G.callV (rest := []) C (s_X10_fount_67 (hasM hE)  hv_705) ⟨tg_1965, tg_103, ok_X10_fount, Nat.le_of_ble_eq_true rfl, Nat.le_of_ble_eq_true rfl⟩ tg_1962 tg_1963 tg_1964 (sm_67 (hasM hE)) rfl rfl (Nat.le_of_ble_eq_true rfl) dL_law_2711 ⟨by show _ ≤ 600128; omega, by show _ ≤ 7301098; omega⟩ ?_
      refine G.istore (L' := [(6, .int v_707), (5, .int v_699), (0, .ref b), (1, .ref (eA E 0)), (2, .ref (eA E 67)), (3, .ref (eA E 120)), (4, .int x4)]) C dL_law_2714 rfl (by decide) rfl ?_
      refine G.aload_n C 4 dL_law_2716 rfl rfl ?_
      obtain ⟨v_709, hv_708, h⟩ := bd_ex h
      refine G.callV (rest := []) C (s_X10_thrown_67 (hasM hE)  hv_708) ⟨tg_1585, tg_103, ok_X10_thrown, Nat.le_of_ble_eq_true rfl, Nat.le_of_ble_eq_true rfl⟩ tg_1582 tg_1583 tg_1584 (sm_67 (hasM hE)) rfl rfl (Nat.le_of_ble_eq_true rfl) dL_law_2717 ⟨by show _ ≤ 600128; omega, by show _ ≤ 7301098; omega⟩ ?_
      refine G.iload C 1 dL_law_2720 rfl ?_
      refine G.icmp_eq (tgt := 2727) C dL_law_2722 (by decide) (fun hc => ?_) (fun hc => ?_)
      · have h := it_t h hc
        refine G.iload C 1 dL_law_2727 rfl ?_
        refine G.if_ne (tgt := 2744) C dL_law_2729 (by decide) (fun hc => ?_) (fun hc => ?_)
        · have h := it_f h hc
          refine G.goto (tgt := 2798) C dL_law_2744 (by decide) ?_
          obtain ⟨x4_710, ex4_710, h⟩ := ltv_ex h
          refine G.iinc (L' := [(4, .int x4_710), (6, .int v_707), (5, .int v_699), (0, .ref b), (1, .ref (eA E 0)), (2, .ref (eA E 67)), (3, .ref (eA E 120))]) C 6 dL_law_2798 rfl (ex4_710.trans rfl) (by decide) rfl ?_
          refine G.goto (tgt := 23) C dL_law_2801 (by decide) ?_
          exact G.sub [3, 4, 5, 6, 0] rfl (hk _ _ _ _ (by omega) (by omega) h)
        · have h := it_t h hc
          refine G.aload_n C 5 dL_law_2732 rfl rfl ?_
          refine G.iconst (v := (0 : Int32)) C dL_law_2733 (by decide) ?_
          refine G.aJ (j := 0) C (sa_120 hE) (by decide) (by decide) dL_law_2734 ?_
          refine G.iload C 0 dL_law_2735 rfl ?_
          refine G.i2l (v := v_707.toInt64) C dL_law_2737 rfl ?_
          refine G.lcmp C dL_law_2738 (G.if_eq (tgt := 2744) C dL_law_2739 (by decide) (fun hc => ?_) (fun hc => ?_))
          · have h := it_t h (lgc_eq.mp hc)
            refine G.goto (tgt := 2798) C dL_law_2744 (by decide) ?_
            obtain ⟨x4_711, ex4_711, h⟩ := ltv_ex h
            refine G.iinc (L' := [(4, .int x4_711), (6, .int v_707), (5, .int v_699), (0, .ref b), (1, .ref (eA E 0)), (2, .ref (eA E 67)), (3, .ref (eA E 120))]) C 6 dL_law_2798 rfl (ex4_711.trans rfl) (by decide) rfl ?_
            refine G.goto (tgt := 23) C dL_law_2801 (by decide) ?_
            exact G.sub [3, 4, 5, 6, 0] rfl (hk _ _ _ _ (by omega) (by omega) h)
          · have h := it_f h ((not_congr lgc_eq).mp hc)
            refine G.iconst (v := (0 : Int32)) C dL_law_2742 (by decide) ?_
            cases h
      · have h := it_f h hc
        refine G.iconst (v := (0 : Int32)) C dL_law_2725 (by decide) ?_
        cases h
    · have h := it_f h hc
      refine G.iconst (v := (1 : Int32)) C dL_law_2706 (by decide) ?_
      refine G.goto (tgt := 2711) C dL_law_2707 (by decide) ?_
      obtain ⟨v_714, M_713, hv_712, h⟩ := bd2_ex h
      refine G.callV (rest := []) C (s_X10_fount_67 (hasM hE)  hv_712) ⟨tg_1965, tg_103, ok_X10_fount, Nat.le_of_ble_eq_true rfl, Nat.le_of_ble_eq_true rfl⟩ tg_1962 tg_1963 tg_1964 (sm_67 (hasM hE)) rfl rfl (Nat.le_of_ble_eq_true rfl) dL_law_2711 ⟨by show _ ≤ 600128; omega, by show _ ≤ 7301098; omega⟩ ?_
      refine G.istore (L' := [(6, .int v_714), (5, .int v_699), (0, .ref b), (1, .ref (eA E 0)), (2, .ref (eA E 67)), (3, .ref (eA E 120)), (4, .int x4)]) C dL_law_2714 rfl (by decide) rfl ?_
      refine G.aload_n C 4 dL_law_2716 rfl rfl ?_
      obtain ⟨v_716, hv_715, h⟩ := bd_ex h
      refine G.callV (rest := []) C (s_X10_thrown_67 (hasM hE)  hv_715) ⟨tg_1585, tg_103, ok_X10_thrown, Nat.le_of_ble_eq_true rfl, Nat.le_of_ble_eq_true rfl⟩ tg_1582 tg_1583 tg_1584 (sm_67 (hasM hE)) rfl rfl (Nat.le_of_ble_eq_true rfl) dL_law_2717 ⟨by show _ ≤ 600128; omega, by show _ ≤ 7301098; omega⟩ ?_
      refine G.iload C 1 dL_law_2720 rfl ?_
      refine G.icmp_eq (tgt := 2727) C dL_law_2722 (by decide) (fun hc => ?_) (fun hc => ?_)
      · have h := it_t h hc
        refine G.iload C 1 dL_law_2727 rfl ?_
        refine G.if_ne (tgt := 2744) C dL_law_2729 (by decide) (fun hc => ?_) (fun hc => ?_)
        · have h := it_f h hc
          refine G.goto (tgt := 2798) C dL_law_2744 (by decide) ?_
          obtain ⟨x4_717, ex4_717, h⟩ := ltv_ex h
          refine G.iinc (L' := [(4, .int x4_717), (6, .int v_714), (5, .int v_699), (0, .ref b), (1, .ref (eA E 0)), (2, .ref (eA E 67)), (3, .ref (eA E 120))]) C 6 dL_law_2798 rfl (ex4_717.trans rfl) (by decide) rfl ?_
          refine G.goto (tgt := 23) C dL_law_2801 (by decide) ?_
          exact G.sub [3, 4, 5, 6, 0] rfl (hk _ _ _ _ (by omega) (by omega) h)
        · have h := it_t h hc
          refine G.aload_n C 5 dL_law_2732 rfl rfl ?_
          refine G.iconst (v := (0 : Int32)) C dL_law_2733 (by decide) ?_
          refine G.aJ (j := 0) C (sa_120 hE) (by decide) (by decide) dL_law_2734 ?_
          refine G.iload C 0 dL_law_2735 rfl ?_
          refine G.i2l (v := v_714.toInt64) C dL_law_2737 rfl ?_
          refine G.lcmp C dL_law_2738 (G.if_eq (tgt := 2744) C dL_law_2739 (by decide) (fun hc => ?_) (fun hc => ?_))
          · have h := it_t h (lgc_eq.mp hc)
            refine G.goto (tgt := 2798) C dL_law_2744 (by decide) ?_
            obtain ⟨x4_718, ex4_718, h⟩ := ltv_ex h
            refine G.iinc (L' := [(4, .int x4_718), (6, .int v_714), (5, .int v_699), (0, .ref b), (1, .ref (eA E 0)), (2, .ref (eA E 67)), (3, .ref (eA E 120))]) C 6 dL_law_2798 rfl (ex4_718.trans rfl) (by decide) rfl ?_
            refine G.goto (tgt := 23) C dL_law_2801 (by decide) ?_
            exact G.sub [3, 4, 5, 6, 0] rfl (hk _ _ _ _ (by omega) (by omega) h)
          · have h := it_f h ((not_congr lgc_eq).mp hc)
            refine G.iconst (v := (0 : Int32)) C dL_law_2742 (by decide) ?_
            cases h
      · have h := it_f h hc
        refine G.iconst (v := (0 : Int32)) C dL_law_2725 (by decide) ?_
        cases h
  · have h := it_f h hc
    refine G.iconst (v := (1 : Int32)) C dL_law_2673 (by decide) ?_
    refine G.goto (tgt := 2678) C dL_law_2674 (by decide) ?_
    refine G.aload_n C 3 dL_law_2678 rfl rfl ?_
    obtain ⟨v_719, M_720, hv_721, h⟩ := bd2_ex h
    refine G.callSB (rest := []) C (sw_L_fount_0_120 hl hE hv_721) ⟨tg_1411, tg_89, ok_L_fount, Nat.le_of_ble_eq_true rfl, Nat.le_of_ble_eq_true rfl⟩ tg_1409 tg_1410 rfl (Nat.le_of_ble_eq_true rfl) dL_law_2679 ⟨show cl + 1 ≤ 600128 by omega, show sl + 6 ≤ 7301098 by omega⟩ ?_
    refine G.istore (L' := [(5, .int v_719), (0, .ref b), (1, .ref (eA E 0)), (2, .ref (eA E 67)), (3, .ref (eA E 120)), (4, .int x4)]) C dL_law_2682 rfl (by decide) rfl ?_
    refine G.aload_n C 3 dL_law_2684 rfl rfl ?_
    refine G.aload_n C 1 dL_law_2685 rfl rfl ?_
    refine G.iload C 5 dL_law_2686 rfl ?_
    refine G.iconst (v := (1 : Int32)) C dL_law_2688 (by decide) ?_
    refine G.iadd C dL_law_2689 ?_
    obtain ⟨hg_722, h⟩ := gd_ex h
    refine G.sld C hX hbl hbA hg_722 dL_law_2690 ?_
    refine G.aload_n C 1 dL_law_2691 rfl rfl ?_
    refine G.iload C 5 dL_law_2692 rfl ?_
    refine G.iconst (v := (2 : Int32)) C dL_law_2694 (by decide) ?_
    refine G.iadd C dL_law_2695 ?_
    obtain ⟨hg_723, h⟩ := gd_ex h
    refine G.sld C hX hbl hbA hg_723 dL_law_2696 ?_
    refine G.aload_n C 1 dL_law_2697 rfl rfl ?_
    refine G.iload C 5 dL_law_2698 rfl ?_
    refine G.iconst (v := (3 : Int32)) C dL_law_2700 (by decide) ?_
    refine G.iadd C dL_law_2701 ?_
    obtain ⟨hg_724, h⟩ := gd_ex h
    refine G.sld C hX hbl hbA hg_724 dL_law_2702 ?_
    refine G.if_eq (tgt := 2710) C dL_law_2703 (by decide) (fun hc => ?_) (fun hc => ?_)
    · have h := it_t h hc
      refine G.iconst (v := (0 : Int32)) C dL_law_2710 (by decide) ?_
      obtain ⟨v_727, M_726, hv_725, h⟩ := bd2_ex h
      refine G.callV (rest := []) C (s_X10_fount_67 (hasM hE)  hv_725) ⟨tg_1965, tg_103, ok_X10_fount, Nat.le_of_ble_eq_true rfl, Nat.le_of_ble_eq_true rfl⟩ tg_1962 tg_1963 tg_1964 (sm_67 (hasM hE)) rfl rfl (Nat.le_of_ble_eq_true rfl) dL_law_2711 ⟨by show _ ≤ 600128; omega, by show _ ≤ 7301098; omega⟩ ?_
      refine G.istore (L' := [(6, .int v_727), (5, .int v_719), (0, .ref b), (1, .ref (eA E 0)), (2, .ref (eA E 67)), (3, .ref (eA E 120)), (4, .int x4)]) C dL_law_2714 rfl (by decide) rfl ?_
      refine G.aload_n C 4 dL_law_2716 rfl rfl ?_
      obtain ⟨v_729, hv_728, h⟩ := bd_ex h
      refine G.callV (rest := []) C (s_X10_thrown_67 (hasM hE)  hv_728) ⟨tg_1585, tg_103, ok_X10_thrown, Nat.le_of_ble_eq_true rfl, Nat.le_of_ble_eq_true rfl⟩ tg_1582 tg_1583 tg_1584 (sm_67 (hasM hE)) rfl rfl (Nat.le_of_ble_eq_true rfl) dL_law_2717 ⟨by show _ ≤ 600128; omega, by show _ ≤ 7301098; omega⟩ ?_
      refine G.iload C 1 dL_law_2720 rfl ?_
      refine G.icmp_eq (tgt := 2727) C dL_law_2722 (by decide) (fun hc => ?_) (fun hc => ?_)
      · have h := it_t h hc
        refine G.iload C 1 dL_law_2727 rfl ?_
        refine G.if_ne (tgt := 2744) C dL_law_2729 (by decide) (fun hc => ?_) (fun hc => ?_)
        · have h := it_f h hc
          refine G.goto (tgt := 2798) C dL_law_2744 (by decide) ?_
          obtain ⟨x4_730, ex4_730, h⟩ := ltv_ex h
          refine G.iinc (L' := [(4, .int x4_730), (6, .int v_727), (5, .int v_719), (0, .ref b), (1, .ref (eA E 0)), (2, .ref (eA E 67)), (3, .ref (eA E 120))]) C 6 dL_law_2798 rfl (ex4_730.trans rfl) (by decide) rfl ?_
          refine G.goto (tgt := 23) C dL_law_2801 (by decide) ?_
          exact G.sub [3, 4, 5, 6, 0] rfl (hk _ _ _ _ (by omega) (by omega) h)
        · have h := it_t h hc
          refine G.aload_n C 5 dL_law_2732 rfl rfl ?_
          refine G.iconst (v := (0 : Int32)) C dL_law_2733 (by decide) ?_
          refine G.aJ (j := 0) C (sa_120 hE) (by decide) (by decide) dL_law_2734 ?_
          refine G.iload C 0 dL_law_2735 rfl ?_
          refine G.i2l (v := v_727.toInt64) C dL_law_2737 rfl ?_
          refine G.lcmp C dL_law_2738 (G.if_eq (tgt := 2744) C dL_law_2739 (by decide) (fun hc => ?_) (fun hc => ?_))
          · have h := it_t h (lgc_eq.mp hc)
            refine G.goto (tgt := 2798) C dL_law_2744 (by decide) ?_
            obtain ⟨x4_731, ex4_731, h⟩ := ltv_ex h
            refine G.iinc (L' := [(4, .int x4_731), (6, .int v_727), (5, .int v_719), (0, .ref b), (1, .ref (eA E 0)), (2, .ref (eA E 67)), (3, .ref (eA E 120))]) C 6 dL_law_2798 rfl (ex4_731.trans rfl) (by decide) rfl ?_
            refine G.goto (tgt := 23) C dL_law_2801 (by decide) ?_
            exact G.sub [3, 4, 5, 6, 0] rfl (hk _ _ _ _ (by omega) (by omega) h)
          · have h := it_f h ((not_congr lgc_eq).mp hc)
            refine G.iconst (v := (0 : Int32)) C dL_law_2742 (by decide) ?_
            cases h
      · have h := it_f h hc
        refine G.iconst (v := (0 : Int32)) C dL_law_2725 (by decide) ?_
        cases h
    · have h := it_f h hc
      refine G.iconst (v := (1 : Int32)) C dL_law_2706 (by decide) ?_
      refine G.goto (tgt := 2711) C dL_law_2707 (by decide) ?_
      obtain ⟨v_734, M_733, hv_732, h⟩ := bd2_ex h
      refine G.callV (rest := []) C (s_X10_fount_67 (hasM hE)  hv_732) ⟨tg_1965, tg_103, ok_X10_fount, Nat.le_of_ble_eq_true rfl, Nat.le_of_ble_eq_true rfl⟩ tg_1962 tg_1963 tg_1964 (sm_67 (hasM hE)) rfl rfl (Nat.le_of_ble_eq_true rfl) dL_law_2711 ⟨by show _ ≤ 600128; omega, by show _ ≤ 7301098; omega⟩ ?_
      refine G.istore (L' := [(6, .int v_734), (5, .int v_719), (0, .ref b), (1, .ref (eA E 0)), (2, .ref (eA E 67)), (3, .ref (eA E 120)), (4, .int x4)]) C dL_law_2714 rfl (by decide) rfl ?_
      refine G.aload_n C 4 dL_law_2716 rfl rfl ?_
      obtain ⟨v_736, hv_735, h⟩ := bd_ex h
      refine G.callV (rest := []) C (s_X10_thrown_67 (hasM hE)  hv_735) ⟨tg_1585, tg_103, ok_X10_thrown, Nat.le_of_ble_eq_true rfl, Nat.le_of_ble_eq_true rfl⟩ tg_1582 tg_1583 tg_1584 (sm_67 (hasM hE)) rfl rfl (Nat.le_of_ble_eq_true rfl) dL_law_2717 ⟨by show _ ≤ 600128; omega, by show _ ≤ 7301098; omega⟩ ?_
      refine G.iload C 1 dL_law_2720 rfl ?_
      refine G.icmp_eq (tgt := 2727) C dL_law_2722 (by decide) (fun hc => ?_) (fun hc => ?_)
      · have h := it_t h hc
        refine G.iload C 1 dL_law_2727 rfl ?_
        refine G.if_ne (tgt := 2744) C dL_law_2729 (by decide) (fun hc => ?_) (fun hc => ?_)
        · have h := it_f h hc
          refine G.goto (tgt := 2798) C dL_law_2744 (by decide) ?_
          obtain ⟨x4_737, ex4_737, h⟩ := ltv_ex h
          refine G.iinc (L' := [(4, .int x4_737), (6, .int v_734), (5, .int v_719), (0, .ref b), (1, .ref (eA E 0)), (2, .ref (eA E 67)), (3, .ref (eA E 120))]) C 6 dL_law_2798 rfl (ex4_737.trans rfl) (by decide) rfl ?_
          refine G.goto (tgt := 23) C dL_law_2801 (by decide) ?_
          exact G.sub [3, 4, 5, 6, 0] rfl (hk _ _ _ _ (by omega) (by omega) h)
        · have h := it_t h hc
          refine G.aload_n C 5 dL_law_2732 rfl rfl ?_
          refine G.iconst (v := (0 : Int32)) C dL_law_2733 (by decide) ?_
          refine G.aJ (j := 0) C (sa_120 hE) (by decide) (by decide) dL_law_2734 ?_
          refine G.iload C 0 dL_law_2735 rfl ?_
          refine G.i2l (v := v_734.toInt64) C dL_law_2737 rfl ?_
          refine G.lcmp C dL_law_2738 (G.if_eq (tgt := 2744) C dL_law_2739 (by decide) (fun hc => ?_) (fun hc => ?_))
          · have h := it_t h (lgc_eq.mp hc)
            refine G.goto (tgt := 2798) C dL_law_2744 (by decide) ?_
            obtain ⟨x4_738, ex4_738, h⟩ := ltv_ex h
            refine G.iinc (L' := [(4, .int x4_738), (6, .int v_734), (5, .int v_719), (0, .ref b), (1, .ref (eA E 0)), (2, .ref (eA E 67)), (3, .ref (eA E 120))]) C 6 dL_law_2798 rfl (ex4_738.trans rfl) (by decide) rfl ?_
            refine G.goto (tgt := 23) C dL_law_2801 (by decide) ?_
            exact G.sub [3, 4, 5, 6, 0] rfl (hk _ _ _ _ (by omega) (by omega) h)
          · have h := it_f h ((not_congr lgc_eq).mp hc)
            refine G.iconst (v := (0 : Int32)) C dL_law_2742 (by decide) ?_
            cases h
      · have h := it_f h hc
        refine G.iconst (v := (0 : Int32)) C dL_law_2725 (by decide) ?_
        cases h
def bb_L_law_2747 (xL : Nat) (xs : Nat → Int32) (k_23 : Int32 → Mm → Option Unit) (x4 : Int32) (M : Mm) : Option Unit := bd2 (f_X9_image_0 M) fun v_741 M_740 => bd2 (f_X10_image_67 M_740) fun v_744 M_743 => if v_741 = v_744 then (ltv (x4 + (6 : Int32)) fun x4_745 => k_23 x4_745 M_743) else (none)
set_option maxHeartbeats 4000000 in
set_option maxRecDepth 100000 in
theorem gb_L_law_2747 {b xL n cl sl : Nat} {xs : Nat → Int32} {k_23 : Int32 → Mm → Option Unit} {x4 : Int32} {M : Mm} (hE : Has shA (eH E)) (hl : l.stackTraces = false) (C : Cx RL cL_law 8 p room_1 s m #[Value.ref b] meth c E) (hr : meth.sig.returnType = ret) (hes : eS E = s.heap.size) (hX : va_X b xL xs s s.heap) (hbl : b < s.heap.size) (hbA : ¬ eF E b) (hb : cl + (n + 1) ≤ 1000) (hsb : sl + 6 * (n + 1) ≤ 10000) (hk : ∀ (x4 : Int32) (M : Mm) (cl sl : Nat), cl + n ≤ 1000 → sl + 6 * n ≤ 10000 → k_23 x4 M = some () → G p l e room_1 s m #[Value.ref b] below meth c E 8 cl sl (lw_Z below #[Value.ref b] s) 23 [(0, .ref b), (1, .ref (eA E 0)), (2, .ref (eA E 67)), (3, .ref (eA E 120)), (4, .int x4)] [] M) (h : bb_L_law_2747 xL xs k_23 x4 M = some ()) : G p l e room_1 s m #[Value.ref b] below meth c E 8 cl sl (lw_Z below #[Value.ref b] s) 2747 [(0, .ref b), (1, .ref (eA E 0)), (2, .ref (eA E 67)), (3, .ref (eA E 120)), (4, .int x4)] [] M := by
  unfold bb_L_law_2747 at h
  refine G.aload_n C 1 dL_law_2747 rfl rfl ?_
  obtain ⟨v_741, M_740, hv_739, h⟩ := bd2_ex h
  refine G.callV (rest := []) C (s_X9_image_0 (hasC hE)  hv_739) ⟨tg_615, tg_90, ok_X9_image, Nat.le_of_ble_eq_true rfl, Nat.le_of_ble_eq_true rfl⟩ tg_612 tg_613 tg_614 (sc_0 (hasC hE)) rfl rfl (Nat.le_of_ble_eq_true rfl) dL_law_2748 ⟨by show _ ≤ 600128; omega, by show _ ≤ 7301098; omega⟩ ?_
  refine G.aload_n C 2 dL_law_2751 rfl rfl ?_
  obtain ⟨v_744, M_743, hv_742, h⟩ := bd2_ex h
  refine G.callV (rest := [.int v_741]) C (s_X10_image_67 (hasM hE)  hv_742) ⟨tg_1969, tg_103, ok_X10_image, Nat.le_of_ble_eq_true rfl, Nat.le_of_ble_eq_true rfl⟩ tg_1966 tg_1967 tg_1968 (sm_67 (hasM hE)) rfl rfl (Nat.le_of_ble_eq_true rfl) dL_law_2752 ⟨by show _ ≤ 600128; omega, by show _ ≤ 7301098; omega⟩ ?_
  refine G.icmp_eq (tgt := 2798) C dL_law_2755 (by decide) (fun hc => ?_) (fun hc => ?_)
  · have h := it_t h hc
    obtain ⟨x4_745, ex4_745, h⟩ := ltv_ex h
    refine G.iinc (L' := [(4, .int x4_745), (0, .ref b), (1, .ref (eA E 0)), (2, .ref (eA E 67)), (3, .ref (eA E 120))]) C 4 dL_law_2798 rfl (ex4_745.trans rfl) (by decide) rfl ?_
    refine G.goto (tgt := 23) C dL_law_2801 (by decide) ?_
    exact G.sub [1, 2, 3, 4, 0] rfl (hk _ _ _ _ (by omega) (by omega) h)
  · have h := it_f h hc
    refine G.iconst (v := (0 : Int32)) C dL_law_2758 (by decide) ?_
    cases h
def bb_L_law_2760 (xL : Nat) (xs : Nat → Int32) (k_23 : Int32 → Mm → Option Unit) (x4 : Int32) (M : Mm) : Option Unit := bd2 (f_X9_restore_0 M) fun v_748 M_747 => bd2 (f_X10_restore_67 M_747) fun v_751 M_750 => if v_748 = v_751 then (ltv (x4 + (6 : Int32)) fun x4_752 => k_23 x4_752 M_750) else (none)
set_option maxHeartbeats 4000000 in
set_option maxRecDepth 100000 in
theorem gb_L_law_2760 {b xL n cl sl : Nat} {xs : Nat → Int32} {k_23 : Int32 → Mm → Option Unit} {x4 : Int32} {M : Mm} (hE : Has shA (eH E)) (hl : l.stackTraces = false) (C : Cx RL cL_law 8 p room_1 s m #[Value.ref b] meth c E) (hr : meth.sig.returnType = ret) (hes : eS E = s.heap.size) (hX : va_X b xL xs s s.heap) (hbl : b < s.heap.size) (hbA : ¬ eF E b) (hb : cl + (n + 1) ≤ 1000) (hsb : sl + 6 * (n + 1) ≤ 10000) (hk : ∀ (x4 : Int32) (M : Mm) (cl sl : Nat), cl + n ≤ 1000 → sl + 6 * n ≤ 10000 → k_23 x4 M = some () → G p l e room_1 s m #[Value.ref b] below meth c E 8 cl sl (lw_Z below #[Value.ref b] s) 23 [(0, .ref b), (1, .ref (eA E 0)), (2, .ref (eA E 67)), (3, .ref (eA E 120)), (4, .int x4)] [] M) (h : bb_L_law_2760 xL xs k_23 x4 M = some ()) : G p l e room_1 s m #[Value.ref b] below meth c E 8 cl sl (lw_Z below #[Value.ref b] s) 2760 [(0, .ref b), (1, .ref (eA E 0)), (2, .ref (eA E 67)), (3, .ref (eA E 120)), (4, .int x4)] [] M := by
  unfold bb_L_law_2760 at h
  refine G.aload_n C 1 dL_law_2760 rfl rfl ?_
  obtain ⟨v_748, M_747, hv_746, h⟩ := bd2_ex h
  refine G.callV (rest := []) C (s_X9_restore_0 (hasC hE)  hv_746) ⟨tg_626, tg_90, ok_X9_restore, Nat.le_of_ble_eq_true rfl, Nat.le_of_ble_eq_true rfl⟩ tg_623 tg_624 tg_625 (sc_0 (hasC hE)) rfl rfl (Nat.le_of_ble_eq_true rfl) dL_law_2761 ⟨by show _ ≤ 600128; omega, by show _ ≤ 7301098; omega⟩ ?_
  refine G.aload_n C 2 dL_law_2764 rfl rfl ?_
  obtain ⟨v_751, M_750, hv_749, h⟩ := bd2_ex h
  refine G.callV (rest := [.int v_748]) C (s_X10_restore_67 (hasM hE)  hv_749) ⟨tg_1981, tg_103, ok_X10_restore, Nat.le_of_ble_eq_true rfl, Nat.le_of_ble_eq_true rfl⟩ tg_1978 tg_1979 tg_1980 (sm_67 (hasM hE)) rfl rfl (Nat.le_of_ble_eq_true rfl) dL_law_2765 ⟨by show _ ≤ 600128; omega, by show _ ≤ 7301098; omega⟩ ?_
  refine G.icmp_eq (tgt := 2798) C dL_law_2768 (by decide) (fun hc => ?_) (fun hc => ?_)
  · have h := it_t h hc
    obtain ⟨x4_752, ex4_752, h⟩ := ltv_ex h
    refine G.iinc (L' := [(4, .int x4_752), (0, .ref b), (1, .ref (eA E 0)), (2, .ref (eA E 67)), (3, .ref (eA E 120))]) C 4 dL_law_2798 rfl (ex4_752.trans rfl) (by decide) rfl ?_
    refine G.goto (tgt := 23) C dL_law_2801 (by decide) ?_
    exact G.sub [1, 2, 3, 4, 0] rfl (hk _ _ _ _ (by omega) (by omega) h)
  · have h := it_f h hc
    refine G.iconst (v := (0 : Int32)) C dL_law_2771 (by decide) ?_
    cases h
def bb_L_law_2773 (xL : Nat) (xs : Nat → Int32) (k_23 : Int32 → Mm → Option Unit) (x4 : Int32) (M : Mm) : Option Unit := gd (inb (x4 + (1 : Int32)) xL) (bd (f_X9_count_0 (xs (ix (x4 + (1 : Int32)))) M) fun v_755 => gd (inb (x4 + (1 : Int32)) xL) (bd2 (f_X10_count_67 (xs (ix (x4 + (1 : Int32)))) M) fun v_759 M_758 => if v_755 = v_759 then (ltv (x4 + (6 : Int32)) fun x4_760 => k_23 x4_760 M_758) else (none)))
set_option maxHeartbeats 4000000 in
set_option maxRecDepth 100000 in
theorem gb_L_law_2773 {b xL n cl sl : Nat} {xs : Nat → Int32} {k_23 : Int32 → Mm → Option Unit} {x4 : Int32} {M : Mm} (hE : Has shA (eH E)) (hl : l.stackTraces = false) (C : Cx RL cL_law 8 p room_1 s m #[Value.ref b] meth c E) (hr : meth.sig.returnType = ret) (hes : eS E = s.heap.size) (hX : va_X b xL xs s s.heap) (hbl : b < s.heap.size) (hbA : ¬ eF E b) (hb : cl + (n + 1) ≤ 1000) (hsb : sl + 6 * (n + 1) ≤ 10000) (hk : ∀ (x4 : Int32) (M : Mm) (cl sl : Nat), cl + n ≤ 1000 → sl + 6 * n ≤ 10000 → k_23 x4 M = some () → G p l e room_1 s m #[Value.ref b] below meth c E 8 cl sl (lw_Z below #[Value.ref b] s) 23 [(0, .ref b), (1, .ref (eA E 0)), (2, .ref (eA E 67)), (3, .ref (eA E 120)), (4, .int x4)] [] M) (h : bb_L_law_2773 xL xs k_23 x4 M = some ()) : G p l e room_1 s m #[Value.ref b] below meth c E 8 cl sl (lw_Z below #[Value.ref b] s) 2773 [(0, .ref b), (1, .ref (eA E 0)), (2, .ref (eA E 67)), (3, .ref (eA E 120)), (4, .int x4)] [] M := by
  unfold bb_L_law_2773 at h
  refine G.aload_n C 1 dL_law_2773 rfl rfl ?_
  refine G.aload_n C 0 dL_law_2774 rfl rfl ?_
  refine G.iload C 4 dL_law_2775 rfl ?_
  refine G.iconst (v := (1 : Int32)) C dL_law_2777 (by decide) ?_
  refine G.iadd C dL_law_2778 ?_
  obtain ⟨hg_753, h⟩ := gd_ex h
  refine G.sld C hX hbl hbA hg_753 dL_law_2779 ?_
  obtain ⟨v_755, hv_754, h⟩ := bd_ex h
  refine G.callV (rest := []) C (s_X9_count_0 (hasC hE)  hv_754) ⟨tg_630, tg_90, ok_X9_count, Nat.le_of_ble_eq_true rfl, Nat.le_of_ble_eq_true rfl⟩ tg_627 tg_628 tg_629 (sc_0 (hasC hE)) rfl rfl (Nat.le_of_ble_eq_true rfl) dL_law_2780 ⟨by show _ ≤ 600128; omega, by show _ ≤ 7301098; omega⟩ ?_
  refine G.aload_n C 2 dL_law_2783 rfl rfl ?_
  refine G.aload_n C 0 dL_law_2784 rfl rfl ?_
  refine G.iload C 4 dL_law_2785 rfl ?_
  refine G.iconst (v := (1 : Int32)) C dL_law_2787 (by decide) ?_
  refine G.iadd C dL_law_2788 ?_
  obtain ⟨hg_756, h⟩ := gd_ex h
  refine G.sld C hX hbl hbA hg_756 dL_law_2789 ?_
  obtain ⟨v_759, M_758, hv_757, h⟩ := bd2_ex h
  refine G.callV (rest := [.int v_755]) C (s_X10_count_67 (hasM hE)  hv_757) ⟨tg_1985, tg_103, ok_X10_count, Nat.le_of_ble_eq_true rfl, Nat.le_of_ble_eq_true rfl⟩ tg_1982 tg_1983 tg_1984 (sm_67 (hasM hE)) rfl rfl (Nat.le_of_ble_eq_true rfl) dL_law_2790 ⟨by show _ ≤ 600128; omega, by show _ ≤ 7301098; omega⟩ ?_
  refine G.icmp_eq (tgt := 2798) C dL_law_2793 (by decide) (fun hc => ?_) (fun hc => ?_)
  · have h := it_t h hc
    obtain ⟨x4_760, ex4_760, h⟩ := ltv_ex h
    refine G.iinc (L' := [(4, .int x4_760), (0, .ref b), (1, .ref (eA E 0)), (2, .ref (eA E 67)), (3, .ref (eA E 120))]) C 4 dL_law_2798 rfl (ex4_760.trans rfl) (by decide) rfl ?_
    refine G.goto (tgt := 23) C dL_law_2801 (by decide) ?_
    exact G.sub [1, 2, 3, 4, 0] rfl (hk _ _ _ _ (by omega) (by omega) h)
  · have h := it_f h hc
    refine G.iconst (v := (0 : Int32)) C dL_law_2796 (by decide) ?_
    cases h
def bb_L_law_23 (xL : Nat) (xs : Nat → Int32) (k_23 : Int32 → Mm → Option Unit) (x4 : Int32) (M : Mm) : Option Unit := if ((Int32.ofNat xL) - (6 : Int32)) < x4 then (some ()) else (gd (inb x4 xL) (if ((xs (ix x4)) &&& (63 : Int32)) = (0 : Int32) then (bb_L_law_220 xL xs k_23 x4 M) else (if ((xs (ix x4)) &&& (63 : Int32)) = (1 : Int32) then (bb_L_law_293 xL xs k_23 x4 M) else (if ((xs (ix x4)) &&& (63 : Int32)) = (2 : Int32) then (bb_L_law_349 xL xs k_23 x4 M) else (if ((xs (ix x4)) &&& (63 : Int32)) = (3 : Int32) then (bb_L_law_362 xL xs k_23 x4 M) else (if ((xs (ix x4)) &&& (63 : Int32)) = (4 : Int32) then (bb_L_law_418 xL xs k_23 x4 M) else (if ((xs (ix x4)) &&& (63 : Int32)) = (5 : Int32) then (bb_L_law_485 xL xs k_23 x4 M) else (if ((xs (ix x4)) &&& (63 : Int32)) = (6 : Int32) then (bb_L_law_553 xL xs k_23 x4 M) else (if ((xs (ix x4)) &&& (63 : Int32)) = (7 : Int32) then (bb_L_law_608 xL xs k_23 x4 M) else (if ((xs (ix x4)) &&& (63 : Int32)) = (8 : Int32) then (bb_L_law_666 xL xs k_23 x4 M) else (if ((xs (ix x4)) &&& (63 : Int32)) = (9 : Int32) then (bb_L_law_762 xL xs k_23 x4 M) else (if ((xs (ix x4)) &&& (63 : Int32)) = (10 : Int32) then (bb_L_law_858 xL xs k_23 x4 M) else (if ((xs (ix x4)) &&& (63 : Int32)) = (11 : Int32) then (bb_L_law_954 xL xs k_23 x4 M) else (if ((xs (ix x4)) &&& (63 : Int32)) = (12 : Int32) then (bb_L_law_1022 xL xs k_23 x4 M) else (if ((xs (ix x4)) &&& (63 : Int32)) = (13 : Int32) then (bb_L_law_1077 xL xs k_23 x4 M) else (if ((xs (ix x4)) &&& (63 : Int32)) = (14 : Int32) then (bb_L_law_1113 xL xs k_23 x4 M) else (if ((xs (ix x4)) &&& (63 : Int32)) = (15 : Int32) then (bb_L_law_1169 xL xs k_23 x4 M) else (if ((xs (ix x4)) &&& (63 : Int32)) = (16 : Int32) then (bb_L_law_1249 xL xs k_23 x4 M) else (if ((xs (ix x4)) &&& (63 : Int32)) = (17 : Int32) then (bb_L_law_1263 xL xs k_23 x4 M) else (if ((xs (ix x4)) &&& (63 : Int32)) = (18 : Int32) then (bb_L_law_1319 xL xs k_23 x4 M) else (if ((xs (ix x4)) &&& (63 : Int32)) = (19 : Int32) then (bb_L_law_1375 xL xs k_23 x4 M) else (if ((xs (ix x4)) &&& (63 : Int32)) = (20 : Int32) then (bb_L_law_1455 xL xs k_23 x4 M) else (if ((xs (ix x4)) &&& (63 : Int32)) = (21 : Int32) then (bb_L_law_1468 xL xs k_23 x4 M) else (if ((xs (ix x4)) &&& (63 : Int32)) = (22 : Int32) then (bb_L_law_1536 xL xs k_23 x4 M) else (if ((xs (ix x4)) &&& (63 : Int32)) = (23 : Int32) then (bb_L_law_1615 xL xs k_23 x4 M) else (if ((xs (ix x4)) &&& (63 : Int32)) = (24 : Int32) then (bb_L_law_1707 xL xs k_23 x4 M) else (if ((xs (ix x4)) &&& (63 : Int32)) = (25 : Int32) then (bb_L_law_1775 xL xs k_23 x4 M) else (if ((xs (ix x4)) &&& (63 : Int32)) = (26 : Int32) then (bb_L_law_1855 xL xs k_23 x4 M) else (if ((xs (ix x4)) &&& (63 : Int32)) = (27 : Int32) then (bb_L_law_1923 xL xs k_23 x4 M) else (if ((xs (ix x4)) &&& (63 : Int32)) = (28 : Int32) then (bb_L_law_1979 xL xs k_23 x4 M) else (if ((xs (ix x4)) &&& (63 : Int32)) = (29 : Int32) then (bb_L_law_2035 xL xs k_23 x4 M) else (if ((xs (ix x4)) &&& (63 : Int32)) = (30 : Int32) then (bb_L_law_2123 xL xs k_23 x4 M) else (if ((xs (ix x4)) &&& (63 : Int32)) = (31 : Int32) then (bb_L_law_2238 xL xs k_23 x4 M) else (if ((xs (ix x4)) &&& (63 : Int32)) = (32 : Int32) then (bb_L_law_2334 xL xs k_23 x4 M) else (if ((xs (ix x4)) &&& (63 : Int32)) = (33 : Int32) then (bb_L_law_2347 xL xs k_23 x4 M) else (if ((xs (ix x4)) &&& (63 : Int32)) = (34 : Int32) then (bb_L_law_2360 xL xs k_23 x4 M) else (if ((xs (ix x4)) &&& (63 : Int32)) = (35 : Int32) then (bb_L_law_2439 xL xs k_23 x4 M) else (if ((xs (ix x4)) &&& (63 : Int32)) = (36 : Int32) then (bb_L_law_2567 xL xs k_23 x4 M) else (if ((xs (ix x4)) &&& (63 : Int32)) = (37 : Int32) then (bb_L_law_2651 xL xs k_23 x4 M) else (if ((xs (ix x4)) &&& (63 : Int32)) = (38 : Int32) then (bb_L_law_2747 xL xs k_23 x4 M) else (if ((xs (ix x4)) &&& (63 : Int32)) = (39 : Int32) then (bb_L_law_2760 xL xs k_23 x4 M) else (if ((xs (ix x4)) &&& (63 : Int32)) = (40 : Int32) then (bb_L_law_2773 xL xs k_23 x4 M) else (ltv (x4 + (6 : Int32)) fun x4_2 => k_23 x4_2 M)))))))))))))))))))))))))))))))))))))))))))
set_option maxHeartbeats 4000000 in
set_option maxRecDepth 100000 in
theorem gb_L_law_23 {b xL n cl sl : Nat} {xs : Nat → Int32} {k_23 : Int32 → Mm → Option Unit} {x4 : Int32} {M : Mm} (hE : Has shA (eH E)) (hl : l.stackTraces = false) (C : Cx RL cL_law 8 p room_1 s m #[Value.ref b] meth c E) (hr : meth.sig.returnType = ret) (hes : eS E = s.heap.size) (hX : va_X b xL xs s s.heap) (hbl : b < s.heap.size) (hbA : ¬ eF E b) (hb : cl + (n + 1) ≤ 1000) (hsb : sl + 6 * (n + 1) ≤ 10000) (hk : ∀ (x4 : Int32) (M : Mm) (cl sl : Nat), cl + n ≤ 1000 → sl + 6 * n ≤ 10000 → k_23 x4 M = some () → G p l e room_1 s m #[Value.ref b] below meth c E 8 cl sl (lw_Z below #[Value.ref b] s) 23 [(0, .ref b), (1, .ref (eA E 0)), (2, .ref (eA E 67)), (3, .ref (eA E 120)), (4, .int x4)] [] M) (h : bb_L_law_23 xL xs k_23 x4 M = some ()) : G p l e room_1 s m #[Value.ref b] below meth c E 8 cl sl (lw_Z below #[Value.ref b] s) 23 [(0, .ref b), (1, .ref (eA E 0)), (2, .ref (eA E 67)), (3, .ref (eA E 120)), (4, .int x4)] [] M := by
  unfold bb_L_law_23 at h
  refine G.iload C 4 dL_law_23 rfl ?_
  refine G.aload_n C 0 dL_law_25 rfl rfl ?_
  refine G.sldn C hX hbl hbA dL_law_26 ?_
  refine G.bipush (v := (6 : Int32)) C dL_law_27 (by decide) ?_
  refine G.isub C dL_law_29 ?_
  refine G.icmp_gt (tgt := 2804) C dL_law_30 (by decide) (fun hc => ?_) (fun hc => ?_)
  · have h := it_t h hc
    refine G.iconst (v := (1 : Int32)) C dL_law_2804 (by decide) ?_
    exact G.lawend (by omega) (by omega) C hr hes dL_law_2805
  · have h := it_f h hc
    refine G.aload_n C 0 dL_law_33 rfl rfl ?_
    refine G.iload C 4 dL_law_34 rfl ?_
    obtain ⟨hg_1, h⟩ := gd_ex h
    refine G.sld C hX hbl hbA hg_1 dL_law_36 ?_
    refine G.bipush (v := (63 : Int32)) C dL_law_37 (by decide) ?_
    refine G.iand C dL_law_39 ?_
    by_cases hc0 : ((xs (ix x4)) &&& (63 : Int32)) = (0 : Int32)
    · have h := it_t h hc0
      refine G.tableIn (tgt := 220) C dL_law_40 (by rw [hc0]; decide) (by rw [hc0]; decide) (by rw [hc0]; rfl) (by decide) ?_
      exact G.sub [0, 1, 2, 3, 4] rfl (gb_L_law_220 hE hl C hr hes hX hbl hbA hb hsb hk h)
    have h := it_f h hc0
    by_cases hc1 : ((xs (ix x4)) &&& (63 : Int32)) = (1 : Int32)
    · have h := it_t h hc1
      refine G.tableIn (tgt := 293) C dL_law_40 (by rw [hc1]; decide) (by rw [hc1]; decide) (by rw [hc1]; rfl) (by decide) ?_
      exact G.sub [0, 1, 2, 3, 4] rfl (gb_L_law_293 hE hl C hr hes hX hbl hbA hb hsb hk h)
    have h := it_f h hc1
    by_cases hc2 : ((xs (ix x4)) &&& (63 : Int32)) = (2 : Int32)
    · have h := it_t h hc2
      refine G.tableIn (tgt := 349) C dL_law_40 (by rw [hc2]; decide) (by rw [hc2]; decide) (by rw [hc2]; rfl) (by decide) ?_
      exact G.sub [0, 1, 2, 3, 4] rfl (gb_L_law_349 hE hl C hr hes hX hbl hbA hb hsb hk h)
    have h := it_f h hc2
    by_cases hc3 : ((xs (ix x4)) &&& (63 : Int32)) = (3 : Int32)
    · have h := it_t h hc3
      refine G.tableIn (tgt := 362) C dL_law_40 (by rw [hc3]; decide) (by rw [hc3]; decide) (by rw [hc3]; rfl) (by decide) ?_
      exact G.sub [0, 1, 2, 3, 4] rfl (gb_L_law_362 hE hl C hr hes hX hbl hbA hb hsb hk h)
    have h := it_f h hc3
    by_cases hc4 : ((xs (ix x4)) &&& (63 : Int32)) = (4 : Int32)
    · have h := it_t h hc4
      refine G.tableIn (tgt := 418) C dL_law_40 (by rw [hc4]; decide) (by rw [hc4]; decide) (by rw [hc4]; rfl) (by decide) ?_
      exact G.sub [0, 1, 2, 3, 4] rfl (gb_L_law_418 hE hl C hr hes hX hbl hbA hb hsb hk h)
    have h := it_f h hc4
    by_cases hc5 : ((xs (ix x4)) &&& (63 : Int32)) = (5 : Int32)
    · have h := it_t h hc5
      refine G.tableIn (tgt := 485) C dL_law_40 (by rw [hc5]; decide) (by rw [hc5]; decide) (by rw [hc5]; rfl) (by decide) ?_
      exact G.sub [0, 1, 2, 3, 4] rfl (gb_L_law_485 hE hl C hr hes hX hbl hbA hb hsb hk h)
    have h := it_f h hc5
    by_cases hc6 : ((xs (ix x4)) &&& (63 : Int32)) = (6 : Int32)
    · have h := it_t h hc6
      refine G.tableIn (tgt := 553) C dL_law_40 (by rw [hc6]; decide) (by rw [hc6]; decide) (by rw [hc6]; rfl) (by decide) ?_
      exact G.sub [0, 1, 2, 3, 4] rfl (gb_L_law_553 hE hl C hr hes hX hbl hbA hb hsb hk h)
    have h := it_f h hc6
    by_cases hc7 : ((xs (ix x4)) &&& (63 : Int32)) = (7 : Int32)
    · have h := it_t h hc7
      refine G.tableIn (tgt := 608) C dL_law_40 (by rw [hc7]; decide) (by rw [hc7]; decide) (by rw [hc7]; rfl) (by decide) ?_
      exact G.sub [0, 1, 2, 3, 4] rfl (gb_L_law_608 hE hl C hr hes hX hbl hbA hb hsb hk h)
    have h := it_f h hc7
    by_cases hc8 : ((xs (ix x4)) &&& (63 : Int32)) = (8 : Int32)
    · have h := it_t h hc8
      refine G.tableIn (tgt := 666) C dL_law_40 (by rw [hc8]; decide) (by rw [hc8]; decide) (by rw [hc8]; rfl) (by decide) ?_
      exact G.sub [0, 1, 2, 3, 4] rfl (gb_L_law_666 hE hl C hr hes hX hbl hbA hb hsb hk h)
    have h := it_f h hc8
    by_cases hc9 : ((xs (ix x4)) &&& (63 : Int32)) = (9 : Int32)
    · have h := it_t h hc9
      refine G.tableIn (tgt := 762) C dL_law_40 (by rw [hc9]; decide) (by rw [hc9]; decide) (by rw [hc9]; rfl) (by decide) ?_
      exact G.sub [0, 1, 2, 3, 4] rfl (gb_L_law_762 hE hl C hr hes hX hbl hbA hb hsb hk h)
    have h := it_f h hc9
    by_cases hc10 : ((xs (ix x4)) &&& (63 : Int32)) = (10 : Int32)
    · have h := it_t h hc10
      refine G.tableIn (tgt := 858) C dL_law_40 (by rw [hc10]; decide) (by rw [hc10]; decide) (by rw [hc10]; rfl) (by decide) ?_
      exact G.sub [0, 1, 2, 3, 4] rfl (gb_L_law_858 hE hl C hr hes hX hbl hbA hb hsb hk h)
    have h := it_f h hc10
    by_cases hc11 : ((xs (ix x4)) &&& (63 : Int32)) = (11 : Int32)
    · have h := it_t h hc11
      refine G.tableIn (tgt := 954) C dL_law_40 (by rw [hc11]; decide) (by rw [hc11]; decide) (by rw [hc11]; rfl) (by decide) ?_
      exact G.sub [0, 1, 2, 3, 4] rfl (gb_L_law_954 hE hl C hr hes hX hbl hbA hb hsb hk h)
    have h := it_f h hc11
    by_cases hc12 : ((xs (ix x4)) &&& (63 : Int32)) = (12 : Int32)
    · have h := it_t h hc12
      refine G.tableIn (tgt := 1022) C dL_law_40 (by rw [hc12]; decide) (by rw [hc12]; decide) (by rw [hc12]; rfl) (by decide) ?_
      exact G.sub [0, 1, 2, 3, 4] rfl (gb_L_law_1022 hE hl C hr hes hX hbl hbA hb hsb hk h)
    have h := it_f h hc12
    by_cases hc13 : ((xs (ix x4)) &&& (63 : Int32)) = (13 : Int32)
    · have h := it_t h hc13
      refine G.tableIn (tgt := 1077) C dL_law_40 (by rw [hc13]; decide) (by rw [hc13]; decide) (by rw [hc13]; rfl) (by decide) ?_
      exact G.sub [0, 1, 2, 3, 4] rfl (gb_L_law_1077 hE hl C hr hes hX hbl hbA hb hsb hk h)
    have h := it_f h hc13
    by_cases hc14 : ((xs (ix x4)) &&& (63 : Int32)) = (14 : Int32)
    · have h := it_t h hc14
      refine G.tableIn (tgt := 1113) C dL_law_40 (by rw [hc14]; decide) (by rw [hc14]; decide) (by rw [hc14]; rfl) (by decide) ?_
      exact G.sub [0, 1, 2, 3, 4] rfl (gb_L_law_1113 hE hl C hr hes hX hbl hbA hb hsb hk h)
    have h := it_f h hc14
    by_cases hc15 : ((xs (ix x4)) &&& (63 : Int32)) = (15 : Int32)
    · have h := it_t h hc15
      refine G.tableIn (tgt := 1169) C dL_law_40 (by rw [hc15]; decide) (by rw [hc15]; decide) (by rw [hc15]; rfl) (by decide) ?_
      exact G.sub [0, 1, 2, 3, 4] rfl (gb_L_law_1169 hE hl C hr hes hX hbl hbA hb hsb hk h)
    have h := it_f h hc15
    by_cases hc16 : ((xs (ix x4)) &&& (63 : Int32)) = (16 : Int32)
    · have h := it_t h hc16
      refine G.tableIn (tgt := 1249) C dL_law_40 (by rw [hc16]; decide) (by rw [hc16]; decide) (by rw [hc16]; rfl) (by decide) ?_
      exact G.sub [0, 1, 2, 3, 4] rfl (gb_L_law_1249 hE hl C hr hes hX hbl hbA hb hsb hk h)
    have h := it_f h hc16
    by_cases hc17 : ((xs (ix x4)) &&& (63 : Int32)) = (17 : Int32)
    · have h := it_t h hc17
      refine G.tableIn (tgt := 1263) C dL_law_40 (by rw [hc17]; decide) (by rw [hc17]; decide) (by rw [hc17]; rfl) (by decide) ?_
      exact G.sub [0, 1, 2, 3, 4] rfl (gb_L_law_1263 hE hl C hr hes hX hbl hbA hb hsb hk h)
    have h := it_f h hc17
    by_cases hc18 : ((xs (ix x4)) &&& (63 : Int32)) = (18 : Int32)
    · have h := it_t h hc18
      refine G.tableIn (tgt := 1319) C dL_law_40 (by rw [hc18]; decide) (by rw [hc18]; decide) (by rw [hc18]; rfl) (by decide) ?_
      exact G.sub [0, 1, 2, 3, 4] rfl (gb_L_law_1319 hE hl C hr hes hX hbl hbA hb hsb hk h)
    have h := it_f h hc18
    by_cases hc19 : ((xs (ix x4)) &&& (63 : Int32)) = (19 : Int32)
    · have h := it_t h hc19
      refine G.tableIn (tgt := 1375) C dL_law_40 (by rw [hc19]; decide) (by rw [hc19]; decide) (by rw [hc19]; rfl) (by decide) ?_
      exact G.sub [0, 1, 2, 3, 4] rfl (gb_L_law_1375 hE hl C hr hes hX hbl hbA hb hsb hk h)
    have h := it_f h hc19
    by_cases hc20 : ((xs (ix x4)) &&& (63 : Int32)) = (20 : Int32)
    · have h := it_t h hc20
      refine G.tableIn (tgt := 1455) C dL_law_40 (by rw [hc20]; decide) (by rw [hc20]; decide) (by rw [hc20]; rfl) (by decide) ?_
      exact G.sub [0, 1, 2, 3, 4] rfl (gb_L_law_1455 hE hl C hr hes hX hbl hbA hb hsb hk h)
    have h := it_f h hc20
    by_cases hc21 : ((xs (ix x4)) &&& (63 : Int32)) = (21 : Int32)
    · have h := it_t h hc21
      refine G.tableIn (tgt := 1468) C dL_law_40 (by rw [hc21]; decide) (by rw [hc21]; decide) (by rw [hc21]; rfl) (by decide) ?_
      exact G.sub [0, 1, 2, 3, 4] rfl (gb_L_law_1468 hE hl C hr hes hX hbl hbA hb hsb hk h)
    have h := it_f h hc21
    by_cases hc22 : ((xs (ix x4)) &&& (63 : Int32)) = (22 : Int32)
    · have h := it_t h hc22
      refine G.tableIn (tgt := 1536) C dL_law_40 (by rw [hc22]; decide) (by rw [hc22]; decide) (by rw [hc22]; rfl) (by decide) ?_
      exact G.sub [0, 1, 2, 3, 4] rfl (gb_L_law_1536 hE hl C hr hes hX hbl hbA hb hsb hk h)
    have h := it_f h hc22
    by_cases hc23 : ((xs (ix x4)) &&& (63 : Int32)) = (23 : Int32)
    · have h := it_t h hc23
      refine G.tableIn (tgt := 1615) C dL_law_40 (by rw [hc23]; decide) (by rw [hc23]; decide) (by rw [hc23]; rfl) (by decide) ?_
      exact G.sub [0, 1, 2, 3, 4] rfl (gb_L_law_1615 hE hl C hr hes hX hbl hbA hb hsb hk h)
    have h := it_f h hc23
    by_cases hc24 : ((xs (ix x4)) &&& (63 : Int32)) = (24 : Int32)
    · have h := it_t h hc24
      refine G.tableIn (tgt := 1707) C dL_law_40 (by rw [hc24]; decide) (by rw [hc24]; decide) (by rw [hc24]; rfl) (by decide) ?_
      exact G.sub [0, 1, 2, 3, 4] rfl (gb_L_law_1707 hE hl C hr hes hX hbl hbA hb hsb hk h)
    have h := it_f h hc24
    by_cases hc25 : ((xs (ix x4)) &&& (63 : Int32)) = (25 : Int32)
    · have h := it_t h hc25
      refine G.tableIn (tgt := 1775) C dL_law_40 (by rw [hc25]; decide) (by rw [hc25]; decide) (by rw [hc25]; rfl) (by decide) ?_
      exact G.sub [0, 1, 2, 3, 4] rfl (gb_L_law_1775 hE hl C hr hes hX hbl hbA hb hsb hk h)
    have h := it_f h hc25
    by_cases hc26 : ((xs (ix x4)) &&& (63 : Int32)) = (26 : Int32)
    · have h := it_t h hc26
      refine G.tableIn (tgt := 1855) C dL_law_40 (by rw [hc26]; decide) (by rw [hc26]; decide) (by rw [hc26]; rfl) (by decide) ?_
      exact G.sub [0, 1, 2, 3, 4] rfl (gb_L_law_1855 hE hl C hr hes hX hbl hbA hb hsb hk h)
    have h := it_f h hc26
    by_cases hc27 : ((xs (ix x4)) &&& (63 : Int32)) = (27 : Int32)
    · have h := it_t h hc27
      refine G.tableIn (tgt := 1923) C dL_law_40 (by rw [hc27]; decide) (by rw [hc27]; decide) (by rw [hc27]; rfl) (by decide) ?_
      exact G.sub [0, 1, 2, 3, 4] rfl (gb_L_law_1923 hE hl C hr hes hX hbl hbA hb hsb hk h)
    have h := it_f h hc27
    by_cases hc28 : ((xs (ix x4)) &&& (63 : Int32)) = (28 : Int32)
    · have h := it_t h hc28
      refine G.tableIn (tgt := 1979) C dL_law_40 (by rw [hc28]; decide) (by rw [hc28]; decide) (by rw [hc28]; rfl) (by decide) ?_
      exact G.sub [0, 1, 2, 3, 4] rfl (gb_L_law_1979 hE hl C hr hes hX hbl hbA hb hsb hk h)
    have h := it_f h hc28
    by_cases hc29 : ((xs (ix x4)) &&& (63 : Int32)) = (29 : Int32)
    · have h := it_t h hc29
      refine G.tableIn (tgt := 2035) C dL_law_40 (by rw [hc29]; decide) (by rw [hc29]; decide) (by rw [hc29]; rfl) (by decide) ?_
      exact G.sub [0, 1, 2, 3, 4] rfl (gb_L_law_2035 hE hl C hr hes hX hbl hbA hb hsb hk h)
    have h := it_f h hc29
    by_cases hc30 : ((xs (ix x4)) &&& (63 : Int32)) = (30 : Int32)
    · have h := it_t h hc30
      refine G.tableIn (tgt := 2123) C dL_law_40 (by rw [hc30]; decide) (by rw [hc30]; decide) (by rw [hc30]; rfl) (by decide) ?_
      exact G.sub [0, 1, 2, 3, 4] rfl (gb_L_law_2123 hE hl C hr hes hX hbl hbA hb hsb hk h)
    have h := it_f h hc30
    by_cases hc31 : ((xs (ix x4)) &&& (63 : Int32)) = (31 : Int32)
    · have h := it_t h hc31
      refine G.tableIn (tgt := 2238) C dL_law_40 (by rw [hc31]; decide) (by rw [hc31]; decide) (by rw [hc31]; rfl) (by decide) ?_
      exact G.sub [0, 1, 2, 3, 4] rfl (gb_L_law_2238 hE hl C hr hes hX hbl hbA hb hsb hk h)
    have h := it_f h hc31
    by_cases hc32 : ((xs (ix x4)) &&& (63 : Int32)) = (32 : Int32)
    · have h := it_t h hc32
      refine G.tableIn (tgt := 2334) C dL_law_40 (by rw [hc32]; decide) (by rw [hc32]; decide) (by rw [hc32]; rfl) (by decide) ?_
      exact G.sub [0, 1, 2, 3, 4] rfl (gb_L_law_2334 hE hl C hr hes hX hbl hbA hb hsb hk h)
    have h := it_f h hc32
    by_cases hc33 : ((xs (ix x4)) &&& (63 : Int32)) = (33 : Int32)
    · have h := it_t h hc33
      refine G.tableIn (tgt := 2347) C dL_law_40 (by rw [hc33]; decide) (by rw [hc33]; decide) (by rw [hc33]; rfl) (by decide) ?_
      exact G.sub [0, 1, 2, 3, 4] rfl (gb_L_law_2347 hE hl C hr hes hX hbl hbA hb hsb hk h)
    have h := it_f h hc33
    by_cases hc34 : ((xs (ix x4)) &&& (63 : Int32)) = (34 : Int32)
    · have h := it_t h hc34
      refine G.tableIn (tgt := 2360) C dL_law_40 (by rw [hc34]; decide) (by rw [hc34]; decide) (by rw [hc34]; rfl) (by decide) ?_
      exact G.sub [0, 1, 2, 3, 4] rfl (gb_L_law_2360 hE hl C hr hes hX hbl hbA hb hsb hk h)
    have h := it_f h hc34
    by_cases hc35 : ((xs (ix x4)) &&& (63 : Int32)) = (35 : Int32)
    · have h := it_t h hc35
      refine G.tableIn (tgt := 2439) C dL_law_40 (by rw [hc35]; decide) (by rw [hc35]; decide) (by rw [hc35]; rfl) (by decide) ?_
      exact G.sub [0, 1, 2, 3, 4] rfl (gb_L_law_2439 hE hl C hr hes hX hbl hbA hb hsb hk h)
    have h := it_f h hc35
    by_cases hc36 : ((xs (ix x4)) &&& (63 : Int32)) = (36 : Int32)
    · have h := it_t h hc36
      refine G.tableIn (tgt := 2567) C dL_law_40 (by rw [hc36]; decide) (by rw [hc36]; decide) (by rw [hc36]; rfl) (by decide) ?_
      exact G.sub [0, 1, 2, 3, 4] rfl (gb_L_law_2567 hE hl C hr hes hX hbl hbA hb hsb hk h)
    have h := it_f h hc36
    by_cases hc37 : ((xs (ix x4)) &&& (63 : Int32)) = (37 : Int32)
    · have h := it_t h hc37
      refine G.tableIn (tgt := 2651) C dL_law_40 (by rw [hc37]; decide) (by rw [hc37]; decide) (by rw [hc37]; rfl) (by decide) ?_
      exact G.sub [0, 1, 2, 3, 4] rfl (gb_L_law_2651 hE hl C hr hes hX hbl hbA hb hsb hk h)
    have h := it_f h hc37
    by_cases hc38 : ((xs (ix x4)) &&& (63 : Int32)) = (38 : Int32)
    · have h := it_t h hc38
      refine G.tableIn (tgt := 2747) C dL_law_40 (by rw [hc38]; decide) (by rw [hc38]; decide) (by rw [hc38]; rfl) (by decide) ?_
      exact G.sub [0, 1, 2, 3, 4] rfl (gb_L_law_2747 hE hl C hr hes hX hbl hbA hb hsb hk h)
    have h := it_f h hc38
    by_cases hc39 : ((xs (ix x4)) &&& (63 : Int32)) = (39 : Int32)
    · have h := it_t h hc39
      refine G.tableIn (tgt := 2760) C dL_law_40 (by rw [hc39]; decide) (by rw [hc39]; decide) (by rw [hc39]; rfl) (by decide) ?_
      exact G.sub [0, 1, 2, 3, 4] rfl (gb_L_law_2760 hE hl C hr hes hX hbl hbA hb hsb hk h)
    have h := it_f h hc39
    by_cases hc40 : ((xs (ix x4)) &&& (63 : Int32)) = (40 : Int32)
    · have h := it_t h hc40
      refine G.tableIn (tgt := 2773) C dL_law_40 (by rw [hc40]; decide) (by rw [hc40]; decide) (by rw [hc40]; rfl) (by decide) ?_
      exact G.sub [0, 1, 2, 3, 4] rfl (gb_L_law_2773 hE hl C hr hes hX hbl hbA hb hsb hk h)
    have h := it_f h hc40
    refine G.tableOut (tgt := 2798) C dL_law_40 (by have q0 := ne_toInt (z := 0) (by decide) hc0; have q1 := ne_toInt (z := 1) (by decide) hc1; have q2 := ne_toInt (z := 2) (by decide) hc2; have q3 := ne_toInt (z := 3) (by decide) hc3; have q4 := ne_toInt (z := 4) (by decide) hc4; have q5 := ne_toInt (z := 5) (by decide) hc5; have q6 := ne_toInt (z := 6) (by decide) hc6; have q7 := ne_toInt (z := 7) (by decide) hc7; have q8 := ne_toInt (z := 8) (by decide) hc8; have q9 := ne_toInt (z := 9) (by decide) hc9; have q10 := ne_toInt (z := 10) (by decide) hc10; have q11 := ne_toInt (z := 11) (by decide) hc11; have q12 := ne_toInt (z := 12) (by decide) hc12; have q13 := ne_toInt (z := 13) (by decide) hc13; have q14 := ne_toInt (z := 14) (by decide) hc14; have q15 := ne_toInt (z := 15) (by decide) hc15; have q16 := ne_toInt (z := 16) (by decide) hc16; have q17 := ne_toInt (z := 17) (by decide) hc17; have q18 := ne_toInt (z := 18) (by decide) hc18; have q19 := ne_toInt (z := 19) (by decide) hc19; have q20 := ne_toInt (z := 20) (by decide) hc20; have q21 := ne_toInt (z := 21) (by decide) hc21; have q22 := ne_toInt (z := 22) (by decide) hc22; have q23 := ne_toInt (z := 23) (by decide) hc23; have q24 := ne_toInt (z := 24) (by decide) hc24; have q25 := ne_toInt (z := 25) (by decide) hc25; have q26 := ne_toInt (z := 26) (by decide) hc26; have q27 := ne_toInt (z := 27) (by decide) hc27; have q28 := ne_toInt (z := 28) (by decide) hc28; have q29 := ne_toInt (z := 29) (by decide) hc29; have q30 := ne_toInt (z := 30) (by decide) hc30; have q31 := ne_toInt (z := 31) (by decide) hc31; have q32 := ne_toInt (z := 32) (by decide) hc32; have q33 := ne_toInt (z := 33) (by decide) hc33; have q34 := ne_toInt (z := 34) (by decide) hc34; have q35 := ne_toInt (z := 35) (by decide) hc35; have q36 := ne_toInt (z := 36) (by decide) hc36; have q37 := ne_toInt (z := 37) (by decide) hc37; have q38 := ne_toInt (z := 38) (by decide) hc38; have q39 := ne_toInt (z := 39) (by decide) hc39; have q40 := ne_toInt (z := 40) (by decide) hc40; omega) (by decide) ?_
    obtain ⟨x4_2, ex4_2, h⟩ := ltv_ex h
    refine G.iinc (L' := [(4, .int x4_2), (0, .ref b), (1, .ref (eA E 0)), (2, .ref (eA E 67)), (3, .ref (eA E 120))]) C 4 dL_law_2798 rfl (ex4_2.trans rfl) (by decide) rfl ?_
    refine G.goto (tgt := 23) C dL_law_2801 (by decide) ?_
    exact G.sub [1, 2, 3, 4, 0] rfl (hk _ _ _ _ (by omega) (by omega) h)
def b_law (xL : Nat) (xs : Nat → Int32) : Nat → Int32 → Mm → Option Unit
  | 0, _, _ => none
  | n + 1, x4, M => bb_L_law_23 xL xs (b_law xL xs n) x4 M
theorem g_law {b xL : Nat} {xs : Nat → Int32} (n : Nat) (hE : Has shA (eH E)) (hl : l.stackTraces = false) (C : Cx RL cL_law 8 p room_1 s m #[Value.ref b] meth c E) (hr : meth.sig.returnType = ret) (hes : eS E = s.heap.size) (hX : va_X b xL xs s s.heap) (hbl : b < s.heap.size) (hbA : ¬ eF E b) : ∀ (x4 : Int32) (M : Mm) (cl sl : Nat), cl + n ≤ 1000 → sl + 6 * n ≤ 10000 → b_law xL xs n x4 M = some () → G p l e room_1 s m #[Value.ref b] below meth c E 8 cl sl (lw_Z below #[Value.ref b] s) 23 [(0, .ref b), (1, .ref (eA E 0)), (2, .ref (eA E 67)), (3, .ref (eA E 120)), (4, .int x4)] [] M := by
  induction n with
  | zero => intro x4 M cl sl _ _ h; cases h
  | succ n ih => intro x4 M cl sl h1 h2 h; exact gb_L_law_23 hE hl C hr hes hX hbl hbA h1 h2 ih h
end
