set_option maxHeartbeats 40000000 in
set_option maxRecDepth 100000 in
theorem w_law {X : ww_X} {l : Launch} {Y : ww_Y} {ad : Nat → Nat} {G : List ww_L} {b L : Nat} {xs : Nat → Int32} (hC : ww_C X l Y ad G 100 cL_law 4 RL) (hX : ww_CX X b L xs) (hL : ww_CL X b) (hT : ww_at G 0 ww_LTop) (hMd : ww_at G 62 (ww_LModel 62)) (σ : ww_M) : ww_V X Y ad G 4 σ 16 [(2, .ref (ad 62)), (1, .ref (ad 0)), (0, .ref b)] [] ((f_L_law L xs σ).bind ww_rw) := by
  have hJ1251 : ∀ (σ : ww_M), ww_V X Y ad G 4 σ 1251 [] [] ((f_L_law_j1251 σ L xs).bind ww_rw) := by
    intro σ
    unfold f_L_law_j1251
    refine ww_iconst (pc := 1251) (v := 1) hC dL_law_1251 rfl ?_
    exact ww_lret1 (pc := 1252) hC hL dL_law_1252 rfl
  have hJ18 : ∀ (σ : ww_M) (x3 : Int32), ww_V X Y ad G 4 σ 18 [(0, .ref b), (1, .ref (ad 0)), (2, .ref (ad 62)), (3, .int x3)] [] ((f_L_law_j18 σ L xs x3).bind ww_rw) := by
    intro σ x3
    unfold f_L_law_j18
    refine ww_assoc ?_
    refine ww_loopR (f := f_L_law_b18 L xs) (fun a18 => a18.2) (fun a18 => [(0, .ref b), (1, .ref (ad 0)), (2, .ref (ad 62)), (3, .int a18.1)]) (fun b18 => b18) (fun b18 => []) 1251 (fun b18 => ?_) (fun a18 KK18 hc18 hx18 hr18 => ?_) ww_F (x3, σ)
    · exact hJ1251 b18
    · unfold f_L_law_b18
      refine ww_iload_n (pc := 18) hC 3 rfl dL_law_18 rfl ?_
      refine ww_aload_n (pc := 19) hC 0 rfl dL_law_19 rfl ?_
      refine ww_xlen (pc := 20) hC hX dL_law_20 ?_
      refine ww_iconst (pc := 21) (v := 5) hC dL_law_21 rfl ?_
      refine ww_isub (pc := 22) hC dL_law_22 ?_
      refine ww_icmp_gt (pc := 23) (tgt := 1251) hC dL_law_23 (by decide) ?_ ?_
      · refine ww_lv [] rfl ?_
        exact hx18 a18.2
      · refine ww_aload_n (pc := 26) hC 0 rfl dL_law_26 rfl ?_
        refine ww_iload_n (pc := 27) hC 3 rfl dL_law_27 rfl ?_
        refine ww_xld (pc := 28) hC hX dL_law_28 ?_
        refine ww_bipush (pc := 29) (v := 63) hC dL_law_29 rfl ?_
        refine ww_iand (pc := 31) hC dL_law_31 ?_
        refine ww_tab (pc := 32) (tgt := 200) hC 0 dL_law_32 (by decide) (by decide) rfl (by decide) ?_ (fun q32_0 => ?_)
        · refine ww_aload_n (pc := 200) hC 1 rfl dL_law_200 rfl ?_
          refine ww_aload_n (pc := 201) hC 0 rfl dL_law_201 rfl ?_
          refine ww_iload_n (pc := 202) hC 3 rfl dL_law_202 rfl ?_
          refine ww_iconst (pc := 203) (v := 1) hC dL_law_203 rfl ?_
          refine ww_iadd (pc := 204) hC dL_law_204 ?_
          refine ww_xld (pc := 205) hC hX dL_law_205 ?_
          refine ww_callVw (pc := 206) (st := []) (As := [.int (xs (ww_ix (a18.1 + 1)))]) hC (c_X6_feed hT a18.2 (xs (ww_ix (a18.1 + 1)))) mm_X6_feed mw_329 (hT 0 _ rfl) rfl (by omega) (by decide) (Nat.le_of_ble_eq_true rfl) rfl dL_law_206 (fun v206 => ?_)
          refine ww_aload_n (pc := 209) hC 2 rfl dL_law_209 rfl ?_
          refine ww_aload_n (pc := 210) hC 0 rfl dL_law_210 rfl ?_
          refine ww_iload_n (pc := 211) hC 3 rfl dL_law_211 rfl ?_
          refine ww_iconst (pc := 212) (v := 1) hC dL_law_212 rfl ?_
          refine ww_iadd (pc := 213) hC dL_law_213 ?_
          refine ww_xld (pc := 214) hC hX dL_law_214 ?_
          refine ww_callVw (pc := 215) (st := [.int v206.1]) (As := [.int (xs (ww_ix (a18.1 + 1)))]) hC (c_X7_feed 62 hMd v206.2 (xs (ww_ix (a18.1 + 1)))) mm_X7_feed mw_986 (hMd 0 _ rfl) rfl (by omega) (by decide) (Nat.le_of_ble_eq_true rfl) rfl dL_law_215 (fun v215 => ?_)
          refine ww_icmp_eq (pc := 218) (tgt := 1245) hC dL_law_218 (by decide) ?_ ?_
          · refine ww_iinc (pc := 1245) (v := a18.1 + 5) (lv' := [(3, .int (a18.1 + 5)), (0, .ref b), (1, .ref (ad 0)), (2, .ref (ad 62))]) hC 3 rfl dL_law_1245 rfl (by decide) rfl ?_
            refine ww_goto (pc := 1248) (tgt := 18) hC dL_law_1248 (by decide) ?_
            refine ww_lv [1, 2, 3, 0] rfl ?_
            exact hc18 (a18.1 + 5, v215.2)
          · refine ww_iconst (pc := 221) (v := 0) hC dL_law_221 rfl ?_
            exact ww_lret0 (pc := 222) hC hL dL_law_222 ((hr18 _).trans rfl)
        refine ww_tab (pc := 32) (tgt := 223) hC 1 dL_law_32 (by decide) (by decide) rfl (by decide) ?_ (fun q32_1 => ?_)
        · refine ww_aload_n (pc := 223) hC 1 rfl dL_law_223 rfl ?_
          refine ww_aload_n (pc := 224) hC 0 rfl dL_law_224 rfl ?_
          refine ww_iload_n (pc := 225) hC 3 rfl dL_law_225 rfl ?_
          refine ww_iconst (pc := 226) (v := 1) hC dL_law_226 rfl ?_
          refine ww_iadd (pc := 227) hC dL_law_227 ?_
          refine ww_xld (pc := 228) hC hX dL_law_228 ?_
          refine ww_callVw (pc := 229) (st := []) (As := [.int (xs (ww_ix (a18.1 + 1)))]) hC (c_X6_end hT a18.2 (xs (ww_ix (a18.1 + 1)))) mm_X6_end mw_340 (hT 0 _ rfl) rfl (by omega) (by decide) (Nat.le_of_ble_eq_true rfl) rfl dL_law_229 (fun v229 => ?_)
          refine ww_aload_n (pc := 232) hC 2 rfl dL_law_232 rfl ?_
          refine ww_aload_n (pc := 233) hC 0 rfl dL_law_233 rfl ?_
          refine ww_iload_n (pc := 234) hC 3 rfl dL_law_234 rfl ?_
          refine ww_iconst (pc := 235) (v := 1) hC dL_law_235 rfl ?_
          refine ww_iadd (pc := 236) hC dL_law_236 ?_
          refine ww_xld (pc := 237) hC hX dL_law_237 ?_
          refine ww_callVw (pc := 238) (st := [.int v229.1]) (As := [.int (xs (ww_ix (a18.1 + 1)))]) hC (c_X7_end 62 hMd v229.2 (xs (ww_ix (a18.1 + 1)))) mm_X7_end mw_994 (hMd 0 _ rfl) rfl (by omega) (by decide) (Nat.le_of_ble_eq_true rfl) rfl dL_law_238 (fun v238 => ?_)
          refine ww_icmp_eq (pc := 241) (tgt := 1245) hC dL_law_241 (by decide) ?_ ?_
          · refine ww_iinc (pc := 1245) (v := a18.1 + 5) (lv' := [(3, .int (a18.1 + 5)), (0, .ref b), (1, .ref (ad 0)), (2, .ref (ad 62))]) hC 3 rfl dL_law_1245 rfl (by decide) rfl ?_
            refine ww_goto (pc := 1248) (tgt := 18) hC dL_law_1248 (by decide) ?_
            refine ww_lv [1, 2, 3, 0] rfl ?_
            exact hc18 (a18.1 + 5, v238.2)
          · refine ww_iconst (pc := 244) (v := 0) hC dL_law_244 rfl ?_
            exact ww_lret0 (pc := 245) hC hL dL_law_245 ((hr18 _).trans rfl)
        refine ww_tab (pc := 32) (tgt := 246) hC 2 dL_law_32 (by decide) (by decide) rfl (by decide) ?_ (fun q32_2 => ?_)
        · refine ww_aload_n (pc := 246) hC 1 rfl dL_law_246 rfl ?_
          refine ww_callVw (pc := 247) (st := []) (As := []) hC (c_X6_text hT a18.2) mm_X6_text mw_344 (hT 0 _ rfl) rfl (by omega) (by decide) (Nat.le_of_ble_eq_true rfl) rfl dL_law_247 (fun v247 => ?_)
          refine ww_aload_n (pc := 250) hC 2 rfl dL_law_250 rfl ?_
          refine ww_callVw (pc := 251) (st := [.int v247.1]) (As := []) hC (c_X7_text 62 hMd v247.2) mm_X7_text mw_998 (hMd 0 _ rfl) rfl (by omega) (by decide) (Nat.le_of_ble_eq_true rfl) rfl dL_law_251 (fun v251 => ?_)
          refine ww_icmp_eq (pc := 254) (tgt := 1245) hC dL_law_254 (by decide) ?_ ?_
          · refine ww_iinc (pc := 1245) (v := a18.1 + 5) (lv' := [(3, .int (a18.1 + 5)), (0, .ref b), (1, .ref (ad 0)), (2, .ref (ad 62))]) hC 3 rfl dL_law_1245 rfl (by decide) rfl ?_
            refine ww_goto (pc := 1248) (tgt := 18) hC dL_law_1248 (by decide) ?_
            refine ww_lv [1, 2, 3, 0] rfl ?_
            exact hc18 (a18.1 + 5, v251.2)
          · refine ww_iconst (pc := 257) (v := 0) hC dL_law_257 rfl ?_
            exact ww_lret0 (pc := 258) hC hL dL_law_258 ((hr18 _).trans rfl)
        refine ww_tab (pc := 32) (tgt := 259) hC 3 dL_law_32 (by decide) (by decide) rfl (by decide) ?_ (fun q32_3 => ?_)
        · refine ww_aload_n (pc := 259) hC 1 rfl dL_law_259 rfl ?_
          refine ww_callVi (pc := 260) (st := []) (As := []) hC (c_X6_fault hT a18.2) mm_X6_fault mw_527 (hT 0 _ rfl) rfl (by omega) (by decide) (Nat.le_of_ble_eq_true rfl) rfl dL_law_260 (fun v260 => ?_)
          refine ww_aload_n (pc := 263) hC 2 rfl dL_law_263 rfl ?_
          refine ww_callVi (pc := 264) (st := [.int v260]) (As := []) hC (c_X7_fault 62 hMd a18.2) mm_X7_fault mw_1061 (hMd 0 _ rfl) rfl (by omega) (by decide) (Nat.le_of_ble_eq_true rfl) rfl dL_law_264 (fun v264 => ?_)
          refine ww_icmp_eq (pc := 267) (tgt := 1245) hC dL_law_267 (by decide) ?_ ?_
          · refine ww_iinc (pc := 1245) (v := a18.1 + 5) (lv' := [(3, .int (a18.1 + 5)), (0, .ref b), (1, .ref (ad 0)), (2, .ref (ad 62))]) hC 3 rfl dL_law_1245 rfl (by decide) rfl ?_
            refine ww_goto (pc := 1248) (tgt := 18) hC dL_law_1248 (by decide) ?_
            refine ww_lv [1, 2, 3, 0] rfl ?_
            exact hc18 (a18.1 + 5, a18.2)
          · refine ww_iconst (pc := 270) (v := 0) hC dL_law_270 rfl ?_
            exact ww_lret0 (pc := 271) hC hL dL_law_271 ((hr18 _).trans rfl)
        refine ww_tab (pc := 32) (tgt := 272) hC 4 dL_law_32 (by decide) (by decide) rfl (by decide) ?_ (fun q32_4 => ?_)
        · refine ww_aload_n (pc := 272) hC 1 rfl dL_law_272 rfl ?_
          refine ww_aload_n (pc := 273) hC 0 rfl dL_law_273 rfl ?_
          refine ww_iload_n (pc := 274) hC 3 rfl dL_law_274 rfl ?_
          refine ww_iconst (pc := 275) (v := 1) hC dL_law_275 rfl ?_
          refine ww_iadd (pc := 276) hC dL_law_276 ?_
          refine ww_xld (pc := 277) hC hX dL_law_277 ?_
          refine ww_callVi (pc := 278) (st := []) (As := [.int (xs (ww_ix (a18.1 + 1)))]) hC (c_X6_rule hT a18.2 (xs (ww_ix (a18.1 + 1)))) mm_X6_rule mw_531 (hT 0 _ rfl) rfl (by omega) (by decide) (Nat.le_of_ble_eq_true rfl) rfl dL_law_278 (fun v278 => ?_)
          refine ww_aload_n (pc := 281) hC 2 rfl dL_law_281 rfl ?_
          refine ww_aload_n (pc := 282) hC 0 rfl dL_law_282 rfl ?_
          refine ww_iload_n (pc := 283) hC 3 rfl dL_law_283 rfl ?_
          refine ww_iconst (pc := 284) (v := 1) hC dL_law_284 rfl ?_
          refine ww_iadd (pc := 285) hC dL_law_285 ?_
          refine ww_xld (pc := 286) hC hX dL_law_286 ?_
          refine ww_callVi (pc := 287) (st := [.int v278]) (As := [.int (xs (ww_ix (a18.1 + 1)))]) hC (c_X7_rule 62 hMd a18.2 (xs (ww_ix (a18.1 + 1)))) mm_X7_rule mw_1065 (hMd 0 _ rfl) rfl (by omega) (by decide) (Nat.le_of_ble_eq_true rfl) rfl dL_law_287 (fun v287 => ?_)
          refine ww_icmp_eq (pc := 290) (tgt := 1245) hC dL_law_290 (by decide) ?_ ?_
          · refine ww_iinc (pc := 1245) (v := a18.1 + 5) (lv' := [(3, .int (a18.1 + 5)), (0, .ref b), (1, .ref (ad 0)), (2, .ref (ad 62))]) hC 3 rfl dL_law_1245 rfl (by decide) rfl ?_
            refine ww_goto (pc := 1248) (tgt := 18) hC dL_law_1248 (by decide) ?_
            refine ww_lv [1, 2, 3, 0] rfl ?_
            exact hc18 (a18.1 + 5, a18.2)
          · refine ww_iconst (pc := 293) (v := 0) hC dL_law_293 rfl ?_
            exact ww_lret0 (pc := 294) hC hL dL_law_294 ((hr18 _).trans rfl)
        refine ww_tab (pc := 32) (tgt := 295) hC 5 dL_law_32 (by decide) (by decide) rfl (by decide) ?_ (fun q32_5 => ?_)
        · refine ww_aload_n (pc := 295) hC 1 rfl dL_law_295 rfl ?_
          refine ww_aload_n (pc := 296) hC 0 rfl dL_law_296 rfl ?_
          refine ww_iload_n (pc := 297) hC 3 rfl dL_law_297 rfl ?_
          refine ww_iconst (pc := 298) (v := 1) hC dL_law_298 rfl ?_
          refine ww_iadd (pc := 299) hC dL_law_299 ?_
          refine ww_xld (pc := 300) hC hX dL_law_300 ?_
          refine ww_aload_n (pc := 301) hC 0 rfl dL_law_301 rfl ?_
          refine ww_iload_n (pc := 302) hC 3 rfl dL_law_302 rfl ?_
          refine ww_iconst (pc := 303) (v := 2) hC dL_law_303 rfl ?_
          refine ww_iadd (pc := 304) hC dL_law_304 ?_
          refine ww_xld (pc := 305) hC hX dL_law_305 ?_
          refine ww_callVi (pc := 306) (st := []) (As := [.int (xs (ww_ix (a18.1 + 1))), .int (xs (ww_ix (a18.1 + 2)))]) hC (c_X6_place hT a18.2 (xs (ww_ix (a18.1 + 1))) (xs (ww_ix (a18.1 + 2)))) mm_X6_place mw_535 (hT 0 _ rfl) rfl (by omega) (by decide) (Nat.le_of_ble_eq_true rfl) rfl dL_law_306 (fun v306 => ?_)
          refine ww_aload_n (pc := 309) hC 2 rfl dL_law_309 rfl ?_
          refine ww_aload_n (pc := 310) hC 0 rfl dL_law_310 rfl ?_
          refine ww_iload_n (pc := 311) hC 3 rfl dL_law_311 rfl ?_
          refine ww_iconst (pc := 312) (v := 1) hC dL_law_312 rfl ?_
          refine ww_iadd (pc := 313) hC dL_law_313 ?_
          refine ww_xld (pc := 314) hC hX dL_law_314 ?_
          refine ww_aload_n (pc := 315) hC 0 rfl dL_law_315 rfl ?_
          refine ww_iload_n (pc := 316) hC 3 rfl dL_law_316 rfl ?_
          refine ww_iconst (pc := 317) (v := 2) hC dL_law_317 rfl ?_
          refine ww_iadd (pc := 318) hC dL_law_318 ?_
          refine ww_xld (pc := 319) hC hX dL_law_319 ?_
          refine ww_callVi (pc := 320) (st := [.int v306]) (As := [.int (xs (ww_ix (a18.1 + 1))), .int (xs (ww_ix (a18.1 + 2)))]) hC (c_X7_place 62 hMd a18.2 (xs (ww_ix (a18.1 + 1))) (xs (ww_ix (a18.1 + 2)))) mm_X7_place mw_1073 (hMd 0 _ rfl) rfl (by omega) (by decide) (Nat.le_of_ble_eq_true rfl) rfl dL_law_320 (fun v320 => ?_)
          refine ww_icmp_eq (pc := 323) (tgt := 1245) hC dL_law_323 (by decide) ?_ ?_
          · refine ww_iinc (pc := 1245) (v := a18.1 + 5) (lv' := [(3, .int (a18.1 + 5)), (0, .ref b), (1, .ref (ad 0)), (2, .ref (ad 62))]) hC 3 rfl dL_law_1245 rfl (by decide) rfl ?_
            refine ww_goto (pc := 1248) (tgt := 18) hC dL_law_1248 (by decide) ?_
            refine ww_lv [1, 2, 3, 0] rfl ?_
            exact hc18 (a18.1 + 5, a18.2)
          · refine ww_iconst (pc := 326) (v := 0) hC dL_law_326 rfl ?_
            exact ww_lret0 (pc := 327) hC hL dL_law_327 ((hr18 _).trans rfl)
        refine ww_tab (pc := 32) (tgt := 328) hC 6 dL_law_32 (by decide) (by decide) rfl (by decide) ?_ (fun q32_6 => ?_)
        · refine ww_aload_n (pc := 328) hC 1 rfl dL_law_328 rfl ?_
          refine ww_aload_n (pc := 329) hC 0 rfl dL_law_329 rfl ?_
          refine ww_iload_n (pc := 330) hC 3 rfl dL_law_330 rfl ?_
          refine ww_iconst (pc := 331) (v := 1) hC dL_law_331 rfl ?_
          refine ww_iadd (pc := 332) hC dL_law_332 ?_
          refine ww_xld (pc := 333) hC hX dL_law_333 ?_
          refine ww_callVi (pc := 334) (st := []) (As := [.int (xs (ww_ix (a18.1 + 1)))]) hC (c_X6_level hT a18.2 (xs (ww_ix (a18.1 + 1)))) mm_X6_level mw_543 (hT 0 _ rfl) rfl (by omega) (by decide) (Nat.le_of_ble_eq_true rfl) rfl dL_law_334 (fun v334 => ?_)
          refine ww_aload_n (pc := 337) hC 2 rfl dL_law_337 rfl ?_
          refine ww_aload_n (pc := 338) hC 0 rfl dL_law_338 rfl ?_
          refine ww_iload_n (pc := 339) hC 3 rfl dL_law_339 rfl ?_
          refine ww_iconst (pc := 340) (v := 1) hC dL_law_340 rfl ?_
          refine ww_iadd (pc := 341) hC dL_law_341 ?_
          refine ww_xld (pc := 342) hC hX dL_law_342 ?_
          refine ww_callVi (pc := 343) (st := [.int v334]) (As := [.int (xs (ww_ix (a18.1 + 1)))]) hC (c_X7_level 62 hMd a18.2 (xs (ww_ix (a18.1 + 1)))) mm_X7_level mw_1081 (hMd 0 _ rfl) rfl (by omega) (by decide) (Nat.le_of_ble_eq_true rfl) rfl dL_law_343 (fun v343 => ?_)
          refine ww_icmp_eq (pc := 346) (tgt := 1245) hC dL_law_346 (by decide) ?_ ?_
          · refine ww_iinc (pc := 1245) (v := a18.1 + 5) (lv' := [(3, .int (a18.1 + 5)), (0, .ref b), (1, .ref (ad 0)), (2, .ref (ad 62))]) hC 3 rfl dL_law_1245 rfl (by decide) rfl ?_
            refine ww_goto (pc := 1248) (tgt := 18) hC dL_law_1248 (by decide) ?_
            refine ww_lv [1, 2, 3, 0] rfl ?_
            exact hc18 (a18.1 + 5, a18.2)
          · refine ww_iconst (pc := 349) (v := 0) hC dL_law_349 rfl ?_
            exact ww_lret0 (pc := 350) hC hL dL_law_350 ((hr18 _).trans rfl)
        refine ww_tab (pc := 32) (tgt := 351) hC 7 dL_law_32 (by decide) (by decide) rfl (by decide) ?_ (fun q32_7 => ?_)
        · refine ww_aload_n (pc := 351) hC 1 rfl dL_law_351 rfl ?_
          refine ww_aload_n (pc := 352) hC 0 rfl dL_law_352 rfl ?_
          refine ww_iload_n (pc := 353) hC 3 rfl dL_law_353 rfl ?_
          refine ww_iconst (pc := 354) (v := 1) hC dL_law_354 rfl ?_
          refine ww_iadd (pc := 355) hC dL_law_355 ?_
          refine ww_xld (pc := 356) hC hX dL_law_356 ?_
          refine ww_aload_n (pc := 357) hC 0 rfl dL_law_357 rfl ?_
          refine ww_iload_n (pc := 358) hC 3 rfl dL_law_358 rfl ?_
          refine ww_iconst (pc := 359) (v := 2) hC dL_law_359 rfl ?_
          refine ww_iadd (pc := 360) hC dL_law_360 ?_
          refine ww_xld (pc := 361) hC hX dL_law_361 ?_
          refine ww_callVi (pc := 362) (st := []) (As := [.int (xs (ww_ix (a18.1 + 1))), .int (xs (ww_ix (a18.1 + 2)))]) hC (c_X6_beast hT a18.2 (xs (ww_ix (a18.1 + 1))) (xs (ww_ix (a18.1 + 2)))) mm_X6_beast mw_548 (hT 0 _ rfl) rfl (by omega) (by decide) (Nat.le_of_ble_eq_true rfl) rfl dL_law_362 (fun v362 => ?_)
          refine ww_aload_n (pc := 365) hC 2 rfl dL_law_365 rfl ?_
          refine ww_aload_n (pc := 366) hC 0 rfl dL_law_366 rfl ?_
          refine ww_iload_n (pc := 367) hC 3 rfl dL_law_367 rfl ?_
          refine ww_iconst (pc := 368) (v := 1) hC dL_law_368 rfl ?_
          refine ww_iadd (pc := 369) hC dL_law_369 ?_
          refine ww_xld (pc := 370) hC hX dL_law_370 ?_
          refine ww_aload_n (pc := 371) hC 0 rfl dL_law_371 rfl ?_
          refine ww_iload_n (pc := 372) hC 3 rfl dL_law_372 rfl ?_
          refine ww_iconst (pc := 373) (v := 2) hC dL_law_373 rfl ?_
          refine ww_iadd (pc := 374) hC dL_law_374 ?_
          refine ww_xld (pc := 375) hC hX dL_law_375 ?_
          refine ww_callVi (pc := 376) (st := [.int v362]) (As := [.int (xs (ww_ix (a18.1 + 1))), .int (xs (ww_ix (a18.1 + 2)))]) hC (c_X7_beast 62 hMd a18.2 (xs (ww_ix (a18.1 + 1))) (xs (ww_ix (a18.1 + 2)))) mm_X7_beast mw_1086 (hMd 0 _ rfl) rfl (by omega) (by decide) (Nat.le_of_ble_eq_true rfl) rfl dL_law_376 (fun v376 => ?_)
          refine ww_icmp_eq (pc := 379) (tgt := 1245) hC dL_law_379 (by decide) ?_ ?_
          · refine ww_iinc (pc := 1245) (v := a18.1 + 5) (lv' := [(3, .int (a18.1 + 5)), (0, .ref b), (1, .ref (ad 0)), (2, .ref (ad 62))]) hC 3 rfl dL_law_1245 rfl (by decide) rfl ?_
            refine ww_goto (pc := 1248) (tgt := 18) hC dL_law_1248 (by decide) ?_
            refine ww_lv [1, 2, 3, 0] rfl ?_
            exact hc18 (a18.1 + 5, a18.2)
          · refine ww_iconst (pc := 382) (v := 0) hC dL_law_382 rfl ?_
            exact ww_lret0 (pc := 383) hC hL dL_law_383 ((hr18 _).trans rfl)
        refine ww_tab (pc := 32) (tgt := 384) hC 8 dL_law_32 (by decide) (by decide) rfl (by decide) ?_ (fun q32_8 => ?_)
        · refine ww_aload_n (pc := 384) hC 1 rfl dL_law_384 rfl ?_
          refine ww_aload_n (pc := 385) hC 0 rfl dL_law_385 rfl ?_
          refine ww_iload_n (pc := 386) hC 3 rfl dL_law_386 rfl ?_
          refine ww_iconst (pc := 387) (v := 1) hC dL_law_387 rfl ?_
          refine ww_iadd (pc := 388) hC dL_law_388 ?_
          refine ww_xld (pc := 389) hC hX dL_law_389 ?_
          refine ww_aload_n (pc := 390) hC 0 rfl dL_law_390 rfl ?_
          refine ww_iload_n (pc := 391) hC 3 rfl dL_law_391 rfl ?_
          refine ww_iconst (pc := 392) (v := 2) hC dL_law_392 rfl ?_
          refine ww_iadd (pc := 393) hC dL_law_393 ?_
          refine ww_xld (pc := 394) hC hX dL_law_394 ?_
          refine ww_callVi (pc := 395) (st := []) (As := [.int (xs (ww_ix (a18.1 + 1))), .int (xs (ww_ix (a18.1 + 2)))]) hC (c_X6_part hT a18.2 (xs (ww_ix (a18.1 + 1))) (xs (ww_ix (a18.1 + 2)))) mm_X6_part mw_560 (hT 0 _ rfl) rfl (by omega) (by decide) (Nat.le_of_ble_eq_true rfl) rfl dL_law_395 (fun v395 => ?_)
          refine ww_aload_n (pc := 398) hC 2 rfl dL_law_398 rfl ?_
          refine ww_aload_n (pc := 399) hC 0 rfl dL_law_399 rfl ?_
          refine ww_iload_n (pc := 400) hC 3 rfl dL_law_400 rfl ?_
          refine ww_iconst (pc := 401) (v := 1) hC dL_law_401 rfl ?_
          refine ww_iadd (pc := 402) hC dL_law_402 ?_
          refine ww_xld (pc := 403) hC hX dL_law_403 ?_
          refine ww_aload_n (pc := 404) hC 0 rfl dL_law_404 rfl ?_
          refine ww_iload_n (pc := 405) hC 3 rfl dL_law_405 rfl ?_
          refine ww_iconst (pc := 406) (v := 2) hC dL_law_406 rfl ?_
          refine ww_iadd (pc := 407) hC dL_law_407 ?_
          refine ww_xld (pc := 408) hC hX dL_law_408 ?_
          refine ww_callVi (pc := 409) (st := [.int v395]) (As := [.int (xs (ww_ix (a18.1 + 1))), .int (xs (ww_ix (a18.1 + 2)))]) hC (c_X7_part 62 hMd a18.2 (xs (ww_ix (a18.1 + 1))) (xs (ww_ix (a18.1 + 2)))) mm_X7_part mw_1094 (hMd 0 _ rfl) rfl (by omega) (by decide) (Nat.le_of_ble_eq_true rfl) rfl dL_law_409 (fun v409 => ?_)
          refine ww_icmp_eq (pc := 412) (tgt := 1245) hC dL_law_412 (by decide) ?_ ?_
          · refine ww_iinc (pc := 1245) (v := a18.1 + 5) (lv' := [(3, .int (a18.1 + 5)), (0, .ref b), (1, .ref (ad 0)), (2, .ref (ad 62))]) hC 3 rfl dL_law_1245 rfl (by decide) rfl ?_
            refine ww_goto (pc := 1248) (tgt := 18) hC dL_law_1248 (by decide) ?_
            refine ww_lv [1, 2, 3, 0] rfl ?_
            exact hc18 (a18.1 + 5, a18.2)
          · refine ww_iconst (pc := 415) (v := 0) hC dL_law_415 rfl ?_
            exact ww_lret0 (pc := 416) hC hL dL_law_416 ((hr18 _).trans rfl)
        refine ww_tab (pc := 32) (tgt := 417) hC 9 dL_law_32 (by decide) (by decide) rfl (by decide) ?_ (fun q32_9 => ?_)
        · refine ww_aload_n (pc := 417) hC 1 rfl dL_law_417 rfl ?_
          refine ww_aload_n (pc := 418) hC 0 rfl dL_law_418 rfl ?_
          refine ww_iload_n (pc := 419) hC 3 rfl dL_law_419 rfl ?_
          refine ww_iconst (pc := 420) (v := 1) hC dL_law_420 rfl ?_
          refine ww_iadd (pc := 421) hC dL_law_421 ?_
          refine ww_xld (pc := 422) hC hX dL_law_422 ?_
          refine ww_aload_n (pc := 423) hC 0 rfl dL_law_423 rfl ?_
          refine ww_iload_n (pc := 424) hC 3 rfl dL_law_424 rfl ?_
          refine ww_iconst (pc := 425) (v := 2) hC dL_law_425 rfl ?_
          refine ww_iadd (pc := 426) hC dL_law_426 ?_
          refine ww_xld (pc := 427) hC hX dL_law_427 ?_
          refine ww_callVw (pc := 428) (st := []) (As := [.int (xs (ww_ix (a18.1 + 1))), .int (xs (ww_ix (a18.1 + 2)))]) hC (c_X6_mark hT a18.2 (xs (ww_ix (a18.1 + 1))) (xs (ww_ix (a18.1 + 2)))) mm_X6_mark mw_597 (hT 0 _ rfl) rfl (by omega) (by decide) (Nat.le_of_ble_eq_true rfl) rfl dL_law_428 (fun v428 => ?_)
          refine ww_aload_n (pc := 431) hC 2 rfl dL_law_431 rfl ?_
          refine ww_aload_n (pc := 432) hC 0 rfl dL_law_432 rfl ?_
          refine ww_iload_n (pc := 433) hC 3 rfl dL_law_433 rfl ?_
          refine ww_iconst (pc := 434) (v := 1) hC dL_law_434 rfl ?_
          refine ww_iadd (pc := 435) hC dL_law_435 ?_
          refine ww_xld (pc := 436) hC hX dL_law_436 ?_
          refine ww_aload_n (pc := 437) hC 0 rfl dL_law_437 rfl ?_
          refine ww_iload_n (pc := 438) hC 3 rfl dL_law_438 rfl ?_
          refine ww_iconst (pc := 439) (v := 2) hC dL_law_439 rfl ?_
          refine ww_iadd (pc := 440) hC dL_law_440 ?_
          refine ww_xld (pc := 441) hC hX dL_law_441 ?_
          refine ww_callVw (pc := 442) (st := [.int v428.1]) (As := [.int (xs (ww_ix (a18.1 + 1))), .int (xs (ww_ix (a18.1 + 2)))]) hC (c_X7_mark 62 hMd v428.2 (xs (ww_ix (a18.1 + 1))) (xs (ww_ix (a18.1 + 2)))) mm_X7_mark mw_1117 (hMd 0 _ rfl) rfl (by omega) (by decide) (Nat.le_of_ble_eq_true rfl) rfl dL_law_442 (fun v442 => ?_)
          refine ww_icmp_eq (pc := 445) (tgt := 1245) hC dL_law_445 (by decide) ?_ ?_
          · refine ww_iinc (pc := 1245) (v := a18.1 + 5) (lv' := [(3, .int (a18.1 + 5)), (0, .ref b), (1, .ref (ad 0)), (2, .ref (ad 62))]) hC 3 rfl dL_law_1245 rfl (by decide) rfl ?_
            refine ww_goto (pc := 1248) (tgt := 18) hC dL_law_1248 (by decide) ?_
            refine ww_lv [1, 2, 3, 0] rfl ?_
            exact hc18 (a18.1 + 5, v442.2)
          · refine ww_iconst (pc := 448) (v := 0) hC dL_law_448 rfl ?_
            exact ww_lret0 (pc := 449) hC hL dL_law_449 ((hr18 _).trans rfl)
        refine ww_tab (pc := 32) (tgt := 450) hC 10 dL_law_32 (by decide) (by decide) rfl (by decide) ?_ (fun q32_10 => ?_)
        · refine ww_aload_n (pc := 450) hC 1 rfl dL_law_450 rfl ?_
          refine ww_aload_n (pc := 451) hC 0 rfl dL_law_451 rfl ?_
          refine ww_iload_n (pc := 452) hC 3 rfl dL_law_452 rfl ?_
          refine ww_iconst (pc := 453) (v := 1) hC dL_law_453 rfl ?_
          refine ww_iadd (pc := 454) hC dL_law_454 ?_
          refine ww_xld (pc := 455) hC hX dL_law_455 ?_
          refine ww_aload_n (pc := 456) hC 0 rfl dL_law_456 rfl ?_
          refine ww_iload_n (pc := 457) hC 3 rfl dL_law_457 rfl ?_
          refine ww_iconst (pc := 458) (v := 2) hC dL_law_458 rfl ?_
          refine ww_iadd (pc := 459) hC dL_law_459 ?_
          refine ww_xld (pc := 460) hC hX dL_law_460 ?_
          refine ww_callVw (pc := 461) (st := []) (As := [.int (xs (ww_ix (a18.1 + 1))), .int (xs (ww_ix (a18.1 + 2)))]) hC (c_X6_own hT a18.2 (xs (ww_ix (a18.1 + 1))) (xs (ww_ix (a18.1 + 2)))) mm_X6_own mw_601 (hT 0 _ rfl) rfl (by omega) (by decide) (Nat.le_of_ble_eq_true rfl) rfl dL_law_461 (fun v461 => ?_)
          refine ww_aload_n (pc := 464) hC 2 rfl dL_law_464 rfl ?_
          refine ww_aload_n (pc := 465) hC 0 rfl dL_law_465 rfl ?_
          refine ww_iload_n (pc := 466) hC 3 rfl dL_law_466 rfl ?_
          refine ww_iconst (pc := 467) (v := 1) hC dL_law_467 rfl ?_
          refine ww_iadd (pc := 468) hC dL_law_468 ?_
          refine ww_xld (pc := 469) hC hX dL_law_469 ?_
          refine ww_aload_n (pc := 470) hC 0 rfl dL_law_470 rfl ?_
          refine ww_iload_n (pc := 471) hC 3 rfl dL_law_471 rfl ?_
          refine ww_iconst (pc := 472) (v := 2) hC dL_law_472 rfl ?_
          refine ww_iadd (pc := 473) hC dL_law_473 ?_
          refine ww_xld (pc := 474) hC hX dL_law_474 ?_
          refine ww_callVw (pc := 475) (st := [.int v461.1]) (As := [.int (xs (ww_ix (a18.1 + 1))), .int (xs (ww_ix (a18.1 + 2)))]) hC (c_X7_own 62 hMd v461.2 (xs (ww_ix (a18.1 + 1))) (xs (ww_ix (a18.1 + 2)))) mm_X7_own mw_1126 (hMd 0 _ rfl) rfl (by omega) (by decide) (Nat.le_of_ble_eq_true rfl) rfl dL_law_475 (fun v475 => ?_)
          refine ww_icmp_eq (pc := 478) (tgt := 1245) hC dL_law_478 (by decide) ?_ ?_
          · refine ww_iinc (pc := 1245) (v := a18.1 + 5) (lv' := [(3, .int (a18.1 + 5)), (0, .ref b), (1, .ref (ad 0)), (2, .ref (ad 62))]) hC 3 rfl dL_law_1245 rfl (by decide) rfl ?_
            refine ww_goto (pc := 1248) (tgt := 18) hC dL_law_1248 (by decide) ?_
            refine ww_lv [1, 2, 3, 0] rfl ?_
            exact hc18 (a18.1 + 5, v475.2)
          · refine ww_iconst (pc := 481) (v := 0) hC dL_law_481 rfl ?_
            exact ww_lret0 (pc := 482) hC hL dL_law_482 ((hr18 _).trans rfl)
        refine ww_tab (pc := 32) (tgt := 483) hC 11 dL_law_32 (by decide) (by decide) rfl (by decide) ?_ (fun q32_11 => ?_)
        · refine ww_aload_n (pc := 483) hC 1 rfl dL_law_483 rfl ?_
          refine ww_aload_n (pc := 484) hC 0 rfl dL_law_484 rfl ?_
          refine ww_iload_n (pc := 485) hC 3 rfl dL_law_485 rfl ?_
          refine ww_iconst (pc := 486) (v := 1) hC dL_law_486 rfl ?_
          refine ww_iadd (pc := 487) hC dL_law_487 ?_
          refine ww_xld (pc := 488) hC hX dL_law_488 ?_
          refine ww_callVw (pc := 489) (st := []) (As := [.int (xs (ww_ix (a18.1 + 1)))]) hC (c_X6_law hT a18.2 (xs (ww_ix (a18.1 + 1)))) mm_X6_law mw_605 (hT 0 _ rfl) rfl (by omega) (by decide) (Nat.le_of_ble_eq_true rfl) rfl dL_law_489 (fun v489 => ?_)
          refine ww_aload_n (pc := 492) hC 2 rfl dL_law_492 rfl ?_
          refine ww_aload_n (pc := 493) hC 0 rfl dL_law_493 rfl ?_
          refine ww_iload_n (pc := 494) hC 3 rfl dL_law_494 rfl ?_
          refine ww_iconst (pc := 495) (v := 1) hC dL_law_495 rfl ?_
          refine ww_iadd (pc := 496) hC dL_law_496 ?_
          refine ww_xld (pc := 497) hC hX dL_law_497 ?_
          refine ww_callVw (pc := 498) (st := [.int v489.1]) (As := [.int (xs (ww_ix (a18.1 + 1)))]) hC (c_X7_law 62 hMd v489.2 (xs (ww_ix (a18.1 + 1)))) mm_X7_law mw_1131 (hMd 0 _ rfl) rfl (by omega) (by decide) (Nat.le_of_ble_eq_true rfl) rfl dL_law_498 (fun v498 => ?_)
          refine ww_icmp_eq (pc := 501) (tgt := 1245) hC dL_law_501 (by decide) ?_ ?_
          · refine ww_iinc (pc := 1245) (v := a18.1 + 5) (lv' := [(3, .int (a18.1 + 5)), (0, .ref b), (1, .ref (ad 0)), (2, .ref (ad 62))]) hC 3 rfl dL_law_1245 rfl (by decide) rfl ?_
            refine ww_goto (pc := 1248) (tgt := 18) hC dL_law_1248 (by decide) ?_
            refine ww_lv [1, 2, 3, 0] rfl ?_
            exact hc18 (a18.1 + 5, v498.2)
          · refine ww_iconst (pc := 504) (v := 0) hC dL_law_504 rfl ?_
            exact ww_lret0 (pc := 505) hC hL dL_law_505 ((hr18 _).trans rfl)
        refine ww_tab (pc := 32) (tgt := 506) hC 12 dL_law_32 (by decide) (by decide) rfl (by decide) ?_ (fun q32_12 => ?_)
        · refine ww_aload_n (pc := 506) hC 1 rfl dL_law_506 rfl ?_
          refine ww_aload_n (pc := 507) hC 0 rfl dL_law_507 rfl ?_
          refine ww_iload_n (pc := 508) hC 3 rfl dL_law_508 rfl ?_
          refine ww_iconst (pc := 509) (v := 1) hC dL_law_509 rfl ?_
          refine ww_iadd (pc := 510) hC dL_law_510 ?_
          refine ww_xld (pc := 511) hC hX dL_law_511 ?_
          refine ww_callVw (pc := 512) (st := []) (As := [.int (xs (ww_ix (a18.1 + 1)))]) hC (c_X6_rot hT a18.2 (xs (ww_ix (a18.1 + 1)))) mm_X6_rot mw_609 (hT 0 _ rfl) rfl (by omega) (by decide) (Nat.le_of_ble_eq_true rfl) rfl dL_law_512 (fun v512 => ?_)
          refine ww_aload_n (pc := 515) hC 2 rfl dL_law_515 rfl ?_
          refine ww_aload_n (pc := 516) hC 0 rfl dL_law_516 rfl ?_
          refine ww_iload_n (pc := 517) hC 3 rfl dL_law_517 rfl ?_
          refine ww_iconst (pc := 518) (v := 1) hC dL_law_518 rfl ?_
          refine ww_iadd (pc := 519) hC dL_law_519 ?_
          refine ww_xld (pc := 520) hC hX dL_law_520 ?_
          refine ww_callVw (pc := 521) (st := [.int v512.1]) (As := [.int (xs (ww_ix (a18.1 + 1)))]) hC (c_X7_rot 62 hMd v512.2 (xs (ww_ix (a18.1 + 1)))) mm_X7_rot mw_1135 (hMd 0 _ rfl) rfl (by omega) (by decide) (Nat.le_of_ble_eq_true rfl) rfl dL_law_521 (fun v521 => ?_)
          refine ww_icmp_eq (pc := 524) (tgt := 1245) hC dL_law_524 (by decide) ?_ ?_
          · refine ww_iinc (pc := 1245) (v := a18.1 + 5) (lv' := [(3, .int (a18.1 + 5)), (0, .ref b), (1, .ref (ad 0)), (2, .ref (ad 62))]) hC 3 rfl dL_law_1245 rfl (by decide) rfl ?_
            refine ww_goto (pc := 1248) (tgt := 18) hC dL_law_1248 (by decide) ?_
            refine ww_lv [1, 2, 3, 0] rfl ?_
            exact hc18 (a18.1 + 5, v521.2)
          · refine ww_iconst (pc := 527) (v := 0) hC dL_law_527 rfl ?_
            exact ww_lret0 (pc := 528) hC hL dL_law_528 ((hr18 _).trans rfl)
        refine ww_tab (pc := 32) (tgt := 529) hC 13 dL_law_32 (by decide) (by decide) rfl (by decide) ?_ (fun q32_13 => ?_)
        · refine ww_aload_n (pc := 529) hC 1 rfl dL_law_529 rfl ?_
          refine ww_aload_n (pc := 530) hC 0 rfl dL_law_530 rfl ?_
          refine ww_iload_n (pc := 531) hC 3 rfl dL_law_531 rfl ?_
          refine ww_iconst (pc := 532) (v := 1) hC dL_law_532 rfl ?_
          refine ww_iadd (pc := 533) hC dL_law_533 ?_
          refine ww_xld (pc := 534) hC hX dL_law_534 ?_
          refine ww_callVw (pc := 535) (st := []) (As := [.int (xs (ww_ix (a18.1 + 1)))]) hC (c_X6_gangs hT a18.2 (xs (ww_ix (a18.1 + 1)))) mm_X6_gangs mw_613 (hT 0 _ rfl) rfl (by omega) (by decide) (Nat.le_of_ble_eq_true rfl) rfl dL_law_535 (fun v535 => ?_)
          refine ww_aload_n (pc := 538) hC 2 rfl dL_law_538 rfl ?_
          refine ww_aload_n (pc := 539) hC 0 rfl dL_law_539 rfl ?_
          refine ww_iload_n (pc := 540) hC 3 rfl dL_law_540 rfl ?_
          refine ww_iconst (pc := 541) (v := 1) hC dL_law_541 rfl ?_
          refine ww_iadd (pc := 542) hC dL_law_542 ?_
          refine ww_xld (pc := 543) hC hX dL_law_543 ?_
          refine ww_callVw (pc := 544) (st := [.int v535.1]) (As := [.int (xs (ww_ix (a18.1 + 1)))]) hC (c_X7_gangs 62 hMd v535.2 (xs (ww_ix (a18.1 + 1)))) mm_X7_gangs mw_1139 (hMd 0 _ rfl) rfl (by omega) (by decide) (Nat.le_of_ble_eq_true rfl) rfl dL_law_544 (fun v544 => ?_)
          refine ww_icmp_eq (pc := 547) (tgt := 1245) hC dL_law_547 (by decide) ?_ ?_
          · refine ww_iinc (pc := 1245) (v := a18.1 + 5) (lv' := [(3, .int (a18.1 + 5)), (0, .ref b), (1, .ref (ad 0)), (2, .ref (ad 62))]) hC 3 rfl dL_law_1245 rfl (by decide) rfl ?_
            refine ww_goto (pc := 1248) (tgt := 18) hC dL_law_1248 (by decide) ?_
            refine ww_lv [1, 2, 3, 0] rfl ?_
            exact hc18 (a18.1 + 5, v544.2)
          · refine ww_iconst (pc := 550) (v := 0) hC dL_law_550 rfl ?_
            exact ww_lret0 (pc := 551) hC hL dL_law_551 ((hr18 _).trans rfl)
        refine ww_tab (pc := 32) (tgt := 552) hC 14 dL_law_32 (by decide) (by decide) rfl (by decide) ?_ (fun q32_14 => ?_)
        · refine ww_aload_n (pc := 552) hC 1 rfl dL_law_552 rfl ?_
          refine ww_aload_n (pc := 553) hC 0 rfl dL_law_553 rfl ?_
          refine ww_iload_n (pc := 554) hC 3 rfl dL_law_554 rfl ?_
          refine ww_iconst (pc := 555) (v := 1) hC dL_law_555 rfl ?_
          refine ww_iadd (pc := 556) hC dL_law_556 ?_
          refine ww_xld (pc := 557) hC hX dL_law_557 ?_
          refine ww_aload_n (pc := 558) hC 0 rfl dL_law_558 rfl ?_
          refine ww_iload_n (pc := 559) hC 3 rfl dL_law_559 rfl ?_
          refine ww_iconst (pc := 560) (v := 2) hC dL_law_560 rfl ?_
          refine ww_iadd (pc := 561) hC dL_law_561 ?_
          refine ww_xld (pc := 562) hC hX dL_law_562 ?_
          refine ww_callVw (pc := 563) (st := []) (As := [.int (xs (ww_ix (a18.1 + 1))), .int (xs (ww_ix (a18.1 + 2)))]) hC (c_X6_lump hT a18.2 (xs (ww_ix (a18.1 + 1))) (xs (ww_ix (a18.1 + 2)))) mm_X6_lump mw_617 (hT 0 _ rfl) rfl (by omega) (by decide) (Nat.le_of_ble_eq_true rfl) rfl dL_law_563 (fun v563 => ?_)
          refine ww_aload_n (pc := 566) hC 2 rfl dL_law_566 rfl ?_
          refine ww_aload_n (pc := 567) hC 0 rfl dL_law_567 rfl ?_
          refine ww_iload_n (pc := 568) hC 3 rfl dL_law_568 rfl ?_
          refine ww_iconst (pc := 569) (v := 1) hC dL_law_569 rfl ?_
          refine ww_iadd (pc := 570) hC dL_law_570 ?_
          refine ww_xld (pc := 571) hC hX dL_law_571 ?_
          refine ww_aload_n (pc := 572) hC 0 rfl dL_law_572 rfl ?_
          refine ww_iload_n (pc := 573) hC 3 rfl dL_law_573 rfl ?_
          refine ww_iconst (pc := 574) (v := 2) hC dL_law_574 rfl ?_
          refine ww_iadd (pc := 575) hC dL_law_575 ?_
          refine ww_xld (pc := 576) hC hX dL_law_576 ?_
          refine ww_callVw (pc := 577) (st := [.int v563.1]) (As := [.int (xs (ww_ix (a18.1 + 1))), .int (xs (ww_ix (a18.1 + 2)))]) hC (c_X7_lump 62 hMd v563.2 (xs (ww_ix (a18.1 + 1))) (xs (ww_ix (a18.1 + 2)))) mm_X7_lump mw_1143 (hMd 0 _ rfl) rfl (by omega) (by decide) (Nat.le_of_ble_eq_true rfl) rfl dL_law_577 (fun v577 => ?_)
          refine ww_icmp_eq (pc := 580) (tgt := 1245) hC dL_law_580 (by decide) ?_ ?_
          · refine ww_iinc (pc := 1245) (v := a18.1 + 5) (lv' := [(3, .int (a18.1 + 5)), (0, .ref b), (1, .ref (ad 0)), (2, .ref (ad 62))]) hC 3 rfl dL_law_1245 rfl (by decide) rfl ?_
            refine ww_goto (pc := 1248) (tgt := 18) hC dL_law_1248 (by decide) ?_
            refine ww_lv [1, 2, 3, 0] rfl ?_
            exact hc18 (a18.1 + 5, v577.2)
          · refine ww_iconst (pc := 583) (v := 0) hC dL_law_583 rfl ?_
            exact ww_lret0 (pc := 584) hC hL dL_law_584 ((hr18 _).trans rfl)
        refine ww_tab (pc := 32) (tgt := 585) hC 15 dL_law_32 (by decide) (by decide) rfl (by decide) ?_ (fun q32_15 => ?_)
        · refine ww_aload_n (pc := 585) hC 1 rfl dL_law_585 rfl ?_
          refine ww_aload_n (pc := 586) hC 0 rfl dL_law_586 rfl ?_
          refine ww_iload_n (pc := 587) hC 3 rfl dL_law_587 rfl ?_
          refine ww_iconst (pc := 588) (v := 1) hC dL_law_588 rfl ?_
          refine ww_iadd (pc := 589) hC dL_law_589 ?_
          refine ww_xld (pc := 590) hC hX dL_law_590 ?_
          refine ww_aload_n (pc := 591) hC 0 rfl dL_law_591 rfl ?_
          refine ww_iload_n (pc := 592) hC 3 rfl dL_law_592 rfl ?_
          refine ww_iconst (pc := 593) (v := 2) hC dL_law_593 rfl ?_
          refine ww_iadd (pc := 594) hC dL_law_594 ?_
          refine ww_xld (pc := 595) hC hX dL_law_595 ?_
          refine ww_callVw (pc := 596) (st := []) (As := [.int (xs (ww_ix (a18.1 + 1))), .int (xs (ww_ix (a18.1 + 2)))]) hC (c_X6_go hT a18.2 (xs (ww_ix (a18.1 + 1))) (xs (ww_ix (a18.1 + 2)))) mm_X6_go mw_621 (hT 0 _ rfl) rfl (by omega) (by decide) (Nat.le_of_ble_eq_true rfl) rfl dL_law_596 (fun v596 => ?_)
          refine ww_aload_n (pc := 599) hC 2 rfl dL_law_599 rfl ?_
          refine ww_aload_n (pc := 600) hC 0 rfl dL_law_600 rfl ?_
          refine ww_iload_n (pc := 601) hC 3 rfl dL_law_601 rfl ?_
          refine ww_iconst (pc := 602) (v := 1) hC dL_law_602 rfl ?_
          refine ww_iadd (pc := 603) hC dL_law_603 ?_
          refine ww_xld (pc := 604) hC hX dL_law_604 ?_
          refine ww_aload_n (pc := 605) hC 0 rfl dL_law_605 rfl ?_
          refine ww_iload_n (pc := 606) hC 3 rfl dL_law_606 rfl ?_
          refine ww_iconst (pc := 607) (v := 2) hC dL_law_607 rfl ?_
          refine ww_iadd (pc := 608) hC dL_law_608 ?_
          refine ww_xld (pc := 609) hC hX dL_law_609 ?_
          refine ww_callVw (pc := 610) (st := [.int v596.1]) (As := [.int (xs (ww_ix (a18.1 + 1))), .int (xs (ww_ix (a18.1 + 2)))]) hC (c_X7_go 62 hMd v596.2 (xs (ww_ix (a18.1 + 1))) (xs (ww_ix (a18.1 + 2)))) mm_X7_go mw_1148 (hMd 0 _ rfl) rfl (by omega) (by decide) (Nat.le_of_ble_eq_true rfl) rfl dL_law_610 (fun v610 => ?_)
          refine ww_icmp_eq (pc := 613) (tgt := 1245) hC dL_law_613 (by decide) ?_ ?_
          · refine ww_iinc (pc := 1245) (v := a18.1 + 5) (lv' := [(3, .int (a18.1 + 5)), (0, .ref b), (1, .ref (ad 0)), (2, .ref (ad 62))]) hC 3 rfl dL_law_1245 rfl (by decide) rfl ?_
            refine ww_goto (pc := 1248) (tgt := 18) hC dL_law_1248 (by decide) ?_
            refine ww_lv [1, 2, 3, 0] rfl ?_
            exact hc18 (a18.1 + 5, v610.2)
          · refine ww_iconst (pc := 616) (v := 0) hC dL_law_616 rfl ?_
            exact ww_lret0 (pc := 617) hC hL dL_law_617 ((hr18 _).trans rfl)
        refine ww_tab (pc := 32) (tgt := 618) hC 16 dL_law_32 (by decide) (by decide) rfl (by decide) ?_ (fun q32_16 => ?_)
        · refine ww_aload_n (pc := 618) hC 1 rfl dL_law_618 rfl ?_
          refine ww_aload_n (pc := 619) hC 0 rfl dL_law_619 rfl ?_
          refine ww_iload_n (pc := 620) hC 3 rfl dL_law_620 rfl ?_
          refine ww_iconst (pc := 621) (v := 1) hC dL_law_621 rfl ?_
          refine ww_iadd (pc := 622) hC dL_law_622 ?_
          refine ww_xld (pc := 623) hC hX dL_law_623 ?_
          refine ww_callVi (pc := 624) (st := []) (As := [.int (xs (ww_ix (a18.1 + 1)))]) hC (c_X6_wet hT a18.2 (xs (ww_ix (a18.1 + 1)))) mm_X6_wet mw_650 (hT 0 _ rfl) rfl (by omega) (by decide) (Nat.le_of_ble_eq_true rfl) rfl dL_law_624 (fun v624 => ?_)
          refine ww_aload_n (pc := 627) hC 2 rfl dL_law_627 rfl ?_
          refine ww_aload_n (pc := 628) hC 0 rfl dL_law_628 rfl ?_
          refine ww_iload_n (pc := 629) hC 3 rfl dL_law_629 rfl ?_
          refine ww_iconst (pc := 630) (v := 1) hC dL_law_630 rfl ?_
          refine ww_iadd (pc := 631) hC dL_law_631 ?_
          refine ww_xld (pc := 632) hC hX dL_law_632 ?_
          refine ww_callVi (pc := 633) (st := [.int v624]) (As := [.int (xs (ww_ix (a18.1 + 1)))]) hC (c_X7_wet 62 hMd a18.2 (xs (ww_ix (a18.1 + 1)))) mm_X7_wet mw_1164 (hMd 0 _ rfl) rfl (by omega) (by decide) (Nat.le_of_ble_eq_true rfl) rfl dL_law_633 (fun v633 => ?_)
          refine ww_icmp_eq (pc := 636) (tgt := 1245) hC dL_law_636 (by decide) ?_ ?_
          · refine ww_iinc (pc := 1245) (v := a18.1 + 5) (lv' := [(3, .int (a18.1 + 5)), (0, .ref b), (1, .ref (ad 0)), (2, .ref (ad 62))]) hC 3 rfl dL_law_1245 rfl (by decide) rfl ?_
            refine ww_goto (pc := 1248) (tgt := 18) hC dL_law_1248 (by decide) ?_
            refine ww_lv [1, 2, 3, 0] rfl ?_
            exact hc18 (a18.1 + 5, a18.2)
          · refine ww_iconst (pc := 639) (v := 0) hC dL_law_639 rfl ?_
            exact ww_lret0 (pc := 640) hC hL dL_law_640 ((hr18 _).trans rfl)
        refine ww_tab (pc := 32) (tgt := 641) hC 17 dL_law_32 (by decide) (by decide) rfl (by decide) ?_ (fun q32_17 => ?_)
        · refine ww_aload_n (pc := 641) hC 1 rfl dL_law_641 rfl ?_
          refine ww_aload_n (pc := 642) hC 0 rfl dL_law_642 rfl ?_
          refine ww_iload_n (pc := 643) hC 3 rfl dL_law_643 rfl ?_
          refine ww_iconst (pc := 644) (v := 1) hC dL_law_644 rfl ?_
          refine ww_iadd (pc := 645) hC dL_law_645 ?_
          refine ww_xld (pc := 646) hC hX dL_law_646 ?_
          refine ww_callVi (pc := 647) (st := []) (As := [.int (xs (ww_ix (a18.1 + 1)))]) hC (c_X6_floats hT a18.2 (xs (ww_ix (a18.1 + 1)))) mm_X6_floats mw_655 (hT 0 _ rfl) rfl (by omega) (by decide) (Nat.le_of_ble_eq_true rfl) rfl dL_law_647 (fun v647 => ?_)
          refine ww_aload_n (pc := 650) hC 2 rfl dL_law_650 rfl ?_
          refine ww_aload_n (pc := 651) hC 0 rfl dL_law_651 rfl ?_
          refine ww_iload_n (pc := 652) hC 3 rfl dL_law_652 rfl ?_
          refine ww_iconst (pc := 653) (v := 1) hC dL_law_653 rfl ?_
          refine ww_iadd (pc := 654) hC dL_law_654 ?_
          refine ww_xld (pc := 655) hC hX dL_law_655 ?_
          refine ww_callVi (pc := 656) (st := [.int v647]) (As := [.int (xs (ww_ix (a18.1 + 1)))]) hC (c_X7_floats 62 hMd a18.2 (xs (ww_ix (a18.1 + 1)))) mm_X7_floats mw_1168 (hMd 0 _ rfl) rfl (by omega) (by decide) (Nat.le_of_ble_eq_true rfl) rfl dL_law_656 (fun v656 => ?_)
          refine ww_icmp_eq (pc := 659) (tgt := 1245) hC dL_law_659 (by decide) ?_ ?_
          · refine ww_iinc (pc := 1245) (v := a18.1 + 5) (lv' := [(3, .int (a18.1 + 5)), (0, .ref b), (1, .ref (ad 0)), (2, .ref (ad 62))]) hC 3 rfl dL_law_1245 rfl (by decide) rfl ?_
            refine ww_goto (pc := 1248) (tgt := 18) hC dL_law_1248 (by decide) ?_
            refine ww_lv [1, 2, 3, 0] rfl ?_
            exact hc18 (a18.1 + 5, a18.2)
          · refine ww_iconst (pc := 662) (v := 0) hC dL_law_662 rfl ?_
            exact ww_lret0 (pc := 663) hC hL dL_law_663 ((hr18 _).trans rfl)
        refine ww_tab (pc := 32) (tgt := 664) hC 18 dL_law_32 (by decide) (by decide) rfl (by decide) ?_ (fun q32_18 => ?_)
        · refine ww_aload_n (pc := 664) hC 1 rfl dL_law_664 rfl ?_
          refine ww_aload_n (pc := 665) hC 0 rfl dL_law_665 rfl ?_
          refine ww_iload_n (pc := 666) hC 3 rfl dL_law_666 rfl ?_
          refine ww_iconst (pc := 667) (v := 1) hC dL_law_667 rfl ?_
          refine ww_iadd (pc := 668) hC dL_law_668 ?_
          refine ww_xld (pc := 669) hC hX dL_law_669 ?_
          refine ww_callVi (pc := 670) (st := []) (As := [.int (xs (ww_ix (a18.1 + 1)))]) hC (c_X6_has hT a18.2 (xs (ww_ix (a18.1 + 1)))) mm_X6_has mw_660 (hT 0 _ rfl) rfl (by omega) (by decide) (Nat.le_of_ble_eq_true rfl) rfl dL_law_670 (fun v670 => ?_)
          refine ww_aload_n (pc := 673) hC 2 rfl dL_law_673 rfl ?_
          refine ww_aload_n (pc := 674) hC 0 rfl dL_law_674 rfl ?_
          refine ww_iload_n (pc := 675) hC 3 rfl dL_law_675 rfl ?_
          refine ww_iconst (pc := 676) (v := 1) hC dL_law_676 rfl ?_
          refine ww_iadd (pc := 677) hC dL_law_677 ?_
          refine ww_xld (pc := 678) hC hX dL_law_678 ?_
          refine ww_callVi (pc := 679) (st := [.int v670]) (As := [.int (xs (ww_ix (a18.1 + 1)))]) hC (c_X7_has 62 hMd a18.2 (xs (ww_ix (a18.1 + 1)))) mm_X7_has mw_1172 (hMd 0 _ rfl) rfl (by omega) (by decide) (Nat.le_of_ble_eq_true rfl) rfl dL_law_679 (fun v679 => ?_)
          refine ww_icmp_eq (pc := 682) (tgt := 1245) hC dL_law_682 (by decide) ?_ ?_
          · refine ww_iinc (pc := 1245) (v := a18.1 + 5) (lv' := [(3, .int (a18.1 + 5)), (0, .ref b), (1, .ref (ad 0)), (2, .ref (ad 62))]) hC 3 rfl dL_law_1245 rfl (by decide) rfl ?_
            refine ww_goto (pc := 1248) (tgt := 18) hC dL_law_1248 (by decide) ?_
            refine ww_lv [1, 2, 3, 0] rfl ?_
            exact hc18 (a18.1 + 5, a18.2)
          · refine ww_iconst (pc := 685) (v := 0) hC dL_law_685 rfl ?_
            exact ww_lret0 (pc := 686) hC hL dL_law_686 ((hr18 _).trans rfl)
        refine ww_tab (pc := 32) (tgt := 687) hC 19 dL_law_32 (by decide) (by decide) rfl (by decide) ?_ (fun q32_19 => ?_)
        · refine ww_aload_n (pc := 687) hC 1 rfl dL_law_687 rfl ?_
          refine ww_aload_n (pc := 688) hC 0 rfl dL_law_688 rfl ?_
          refine ww_iload_n (pc := 689) hC 3 rfl dL_law_689 rfl ?_
          refine ww_iconst (pc := 690) (v := 1) hC dL_law_690 rfl ?_
          refine ww_iadd (pc := 691) hC dL_law_691 ?_
          refine ww_xld (pc := 692) hC hX dL_law_692 ?_
          refine ww_aload_n (pc := 693) hC 0 rfl dL_law_693 rfl ?_
          refine ww_iload_n (pc := 694) hC 3 rfl dL_law_694 rfl ?_
          refine ww_iconst (pc := 695) (v := 2) hC dL_law_695 rfl ?_
          refine ww_iadd (pc := 696) hC dL_law_696 ?_
          refine ww_xld (pc := 697) hC hX dL_law_697 ?_
          refine ww_callVw (pc := 698) (st := []) (As := [.int (xs (ww_ix (a18.1 + 1))), .int (xs (ww_ix (a18.1 + 2)))]) hC (c_X6_best hT a18.2 (xs (ww_ix (a18.1 + 1))) (xs (ww_ix (a18.1 + 2)))) mm_X6_best mw_664 (hT 0 _ rfl) rfl (by omega) (by decide) (Nat.le_of_ble_eq_true rfl) rfl dL_law_698 (fun v698 => ?_)
          refine ww_aload_n (pc := 701) hC 2 rfl dL_law_701 rfl ?_
          refine ww_aload_n (pc := 702) hC 0 rfl dL_law_702 rfl ?_
          refine ww_iload_n (pc := 703) hC 3 rfl dL_law_703 rfl ?_
          refine ww_iconst (pc := 704) (v := 1) hC dL_law_704 rfl ?_
          refine ww_iadd (pc := 705) hC dL_law_705 ?_
          refine ww_xld (pc := 706) hC hX dL_law_706 ?_
          refine ww_aload_n (pc := 707) hC 0 rfl dL_law_707 rfl ?_
          refine ww_iload_n (pc := 708) hC 3 rfl dL_law_708 rfl ?_
          refine ww_iconst (pc := 709) (v := 2) hC dL_law_709 rfl ?_
          refine ww_iadd (pc := 710) hC dL_law_710 ?_
          refine ww_xld (pc := 711) hC hX dL_law_711 ?_
          refine ww_callVw (pc := 712) (st := [.int v698.1]) (As := [.int (xs (ww_ix (a18.1 + 1))), .int (xs (ww_ix (a18.1 + 2)))]) hC (c_X7_best 62 hMd v698.2 (xs (ww_ix (a18.1 + 1))) (xs (ww_ix (a18.1 + 2)))) mm_X7_best mw_1176 (hMd 0 _ rfl) rfl (by omega) (by decide) (Nat.le_of_ble_eq_true rfl) rfl dL_law_712 (fun v712 => ?_)
          refine ww_icmp_eq (pc := 715) (tgt := 1245) hC dL_law_715 (by decide) ?_ ?_
          · refine ww_iinc (pc := 1245) (v := a18.1 + 5) (lv' := [(3, .int (a18.1 + 5)), (0, .ref b), (1, .ref (ad 0)), (2, .ref (ad 62))]) hC 3 rfl dL_law_1245 rfl (by decide) rfl ?_
            refine ww_goto (pc := 1248) (tgt := 18) hC dL_law_1248 (by decide) ?_
            refine ww_lv [1, 2, 3, 0] rfl ?_
            exact hc18 (a18.1 + 5, v712.2)
          · refine ww_iconst (pc := 718) (v := 0) hC dL_law_718 rfl ?_
            exact ww_lret0 (pc := 719) hC hL dL_law_719 ((hr18 _).trans rfl)
        refine ww_tab (pc := 32) (tgt := 720) hC 20 dL_law_32 (by decide) (by decide) rfl (by decide) ?_ (fun q32_20 => ?_)
        · refine ww_aload_n (pc := 720) hC 1 rfl dL_law_720 rfl ?_
          refine ww_aload_n (pc := 721) hC 0 rfl dL_law_721 rfl ?_
          refine ww_iload_n (pc := 722) hC 3 rfl dL_law_722 rfl ?_
          refine ww_iconst (pc := 723) (v := 1) hC dL_law_723 rfl ?_
          refine ww_iadd (pc := 724) hC dL_law_724 ?_
          refine ww_xld (pc := 725) hC hX dL_law_725 ?_
          refine ww_aload_n (pc := 726) hC 0 rfl dL_law_726 rfl ?_
          refine ww_iload_n (pc := 727) hC 3 rfl dL_law_727 rfl ?_
          refine ww_iconst (pc := 728) (v := 2) hC dL_law_728 rfl ?_
          refine ww_iadd (pc := 729) hC dL_law_729 ?_
          refine ww_xld (pc := 730) hC hX dL_law_730 ?_
          refine ww_callVw (pc := 731) (st := []) (As := [.int (xs (ww_ix (a18.1 + 1))), .int (xs (ww_ix (a18.1 + 2)))]) hC (c_X6_worth hT a18.2 (xs (ww_ix (a18.1 + 1))) (xs (ww_ix (a18.1 + 2)))) mm_X6_worth mw_744 (hT 0 _ rfl) rfl (by omega) (by decide) (Nat.le_of_ble_eq_true rfl) rfl dL_law_731 (fun v731 => ?_)
          refine ww_aload_n (pc := 734) hC 2 rfl dL_law_734 rfl ?_
          refine ww_aload_n (pc := 735) hC 0 rfl dL_law_735 rfl ?_
          refine ww_iload_n (pc := 736) hC 3 rfl dL_law_736 rfl ?_
          refine ww_iconst (pc := 737) (v := 1) hC dL_law_737 rfl ?_
          refine ww_iadd (pc := 738) hC dL_law_738 ?_
          refine ww_xld (pc := 739) hC hX dL_law_739 ?_
          refine ww_aload_n (pc := 740) hC 0 rfl dL_law_740 rfl ?_
          refine ww_iload_n (pc := 741) hC 3 rfl dL_law_741 rfl ?_
          refine ww_iconst (pc := 742) (v := 2) hC dL_law_742 rfl ?_
          refine ww_iadd (pc := 743) hC dL_law_743 ?_
          refine ww_xld (pc := 744) hC hX dL_law_744 ?_
          refine ww_callVw (pc := 745) (st := [.int v731.1]) (As := [.int (xs (ww_ix (a18.1 + 1))), .int (xs (ww_ix (a18.1 + 2)))]) hC (c_X7_worth 62 hMd v731.2 (xs (ww_ix (a18.1 + 1))) (xs (ww_ix (a18.1 + 2)))) mm_X7_worth mw_1205 (hMd 0 _ rfl) rfl (by omega) (by decide) (Nat.le_of_ble_eq_true rfl) rfl dL_law_745 (fun v745 => ?_)
          refine ww_icmp_eq (pc := 748) (tgt := 1245) hC dL_law_748 (by decide) ?_ ?_
          · refine ww_iinc (pc := 1245) (v := a18.1 + 5) (lv' := [(3, .int (a18.1 + 5)), (0, .ref b), (1, .ref (ad 0)), (2, .ref (ad 62))]) hC 3 rfl dL_law_1245 rfl (by decide) rfl ?_
            refine ww_goto (pc := 1248) (tgt := 18) hC dL_law_1248 (by decide) ?_
            refine ww_lv [1, 2, 3, 0] rfl ?_
            exact hc18 (a18.1 + 5, v745.2)
          · refine ww_iconst (pc := 751) (v := 0) hC dL_law_751 rfl ?_
            exact ww_lret0 (pc := 752) hC hL dL_law_752 ((hr18 _).trans rfl)
        refine ww_tab (pc := 32) (tgt := 753) hC 21 dL_law_32 (by decide) (by decide) rfl (by decide) ?_ (fun q32_21 => ?_)
        · refine ww_aload_n (pc := 753) hC 1 rfl dL_law_753 rfl ?_
          refine ww_aload_n (pc := 754) hC 0 rfl dL_law_754 rfl ?_
          refine ww_iload_n (pc := 755) hC 3 rfl dL_law_755 rfl ?_
          refine ww_iconst (pc := 756) (v := 1) hC dL_law_756 rfl ?_
          refine ww_iadd (pc := 757) hC dL_law_757 ?_
          refine ww_xld (pc := 758) hC hX dL_law_758 ?_
          refine ww_callVw (pc := 759) (st := []) (As := [.int (xs (ww_ix (a18.1 + 1)))]) hC (c_X6_salted hT a18.2 (xs (ww_ix (a18.1 + 1)))) mm_X6_salted mw_748 (hT 0 _ rfl) rfl (by omega) (by decide) (Nat.le_of_ble_eq_true rfl) rfl dL_law_759 (fun v759 => ?_)
          refine ww_aload_n (pc := 762) hC 2 rfl dL_law_762 rfl ?_
          refine ww_aload_n (pc := 763) hC 0 rfl dL_law_763 rfl ?_
          refine ww_iload_n (pc := 764) hC 3 rfl dL_law_764 rfl ?_
          refine ww_iconst (pc := 765) (v := 1) hC dL_law_765 rfl ?_
          refine ww_iadd (pc := 766) hC dL_law_766 ?_
          refine ww_xld (pc := 767) hC hX dL_law_767 ?_
          refine ww_callVw (pc := 768) (st := [.int v759.1]) (As := [.int (xs (ww_ix (a18.1 + 1)))]) hC (c_X7_salted 62 hMd v759.2 (xs (ww_ix (a18.1 + 1)))) mm_X7_salted mw_1209 (hMd 0 _ rfl) rfl (by omega) (by decide) (Nat.le_of_ble_eq_true rfl) rfl dL_law_768 (fun v768 => ?_)
          refine ww_icmp_eq (pc := 771) (tgt := 1245) hC dL_law_771 (by decide) ?_ ?_
          · refine ww_iinc (pc := 1245) (v := a18.1 + 5) (lv' := [(3, .int (a18.1 + 5)), (0, .ref b), (1, .ref (ad 0)), (2, .ref (ad 62))]) hC 3 rfl dL_law_1245 rfl (by decide) rfl ?_
            refine ww_goto (pc := 1248) (tgt := 18) hC dL_law_1248 (by decide) ?_
            refine ww_lv [1, 2, 3, 0] rfl ?_
            exact hc18 (a18.1 + 5, v768.2)
          · refine ww_iconst (pc := 774) (v := 0) hC dL_law_774 rfl ?_
            exact ww_lret0 (pc := 775) hC hL dL_law_775 ((hr18 _).trans rfl)
        refine ww_tab (pc := 32) (tgt := 776) hC 22 dL_law_32 (by decide) (by decide) rfl (by decide) ?_ (fun q32_22 => ?_)
        · refine ww_aload_n (pc := 776) hC 1 rfl dL_law_776 rfl ?_
          refine ww_aload_n (pc := 777) hC 0 rfl dL_law_777 rfl ?_
          refine ww_iload_n (pc := 778) hC 3 rfl dL_law_778 rfl ?_
          refine ww_iconst (pc := 779) (v := 1) hC dL_law_779 rfl ?_
          refine ww_iadd (pc := 780) hC dL_law_780 ?_
          refine ww_xld (pc := 781) hC hX dL_law_781 ?_
          refine ww_aload_n (pc := 782) hC 0 rfl dL_law_782 rfl ?_
          refine ww_iload_n (pc := 783) hC 3 rfl dL_law_783 rfl ?_
          refine ww_iconst (pc := 784) (v := 2) hC dL_law_784 rfl ?_
          refine ww_iadd (pc := 785) hC dL_law_785 ?_
          refine ww_xld (pc := 786) hC hX dL_law_786 ?_
          refine ww_callVi (pc := 787) (st := []) (As := [.int (xs (ww_ix (a18.1 + 1))), .int (xs (ww_ix (a18.1 + 2)))]) hC (c_X6_share hT a18.2 (xs (ww_ix (a18.1 + 1))) (xs (ww_ix (a18.1 + 2)))) mm_X6_share mw_752 (hT 0 _ rfl) rfl (by omega) (by decide) (Nat.le_of_ble_eq_true rfl) rfl dL_law_787 (fun v787 => ?_)
          refine ww_aload_n (pc := 790) hC 2 rfl dL_law_790 rfl ?_
          refine ww_aload_n (pc := 791) hC 0 rfl dL_law_791 rfl ?_
          refine ww_iload_n (pc := 792) hC 3 rfl dL_law_792 rfl ?_
          refine ww_iconst (pc := 793) (v := 1) hC dL_law_793 rfl ?_
          refine ww_iadd (pc := 794) hC dL_law_794 ?_
          refine ww_xld (pc := 795) hC hX dL_law_795 ?_
          refine ww_aload_n (pc := 796) hC 0 rfl dL_law_796 rfl ?_
          refine ww_iload_n (pc := 797) hC 3 rfl dL_law_797 rfl ?_
          refine ww_iconst (pc := 798) (v := 2) hC dL_law_798 rfl ?_
          refine ww_iadd (pc := 799) hC dL_law_799 ?_
          refine ww_xld (pc := 800) hC hX dL_law_800 ?_
          refine ww_callVi (pc := 801) (st := [.int v787]) (As := [.int (xs (ww_ix (a18.1 + 1))), .int (xs (ww_ix (a18.1 + 2)))]) hC (c_X7_share 62 hMd a18.2 (xs (ww_ix (a18.1 + 1))) (xs (ww_ix (a18.1 + 2)))) mm_X7_share mw_1213 (hMd 0 _ rfl) rfl (by omega) (by decide) (Nat.le_of_ble_eq_true rfl) rfl dL_law_801 (fun v801 => ?_)
          refine ww_icmp_eq (pc := 804) (tgt := 1245) hC dL_law_804 (by decide) ?_ ?_
          · refine ww_iinc (pc := 1245) (v := a18.1 + 5) (lv' := [(3, .int (a18.1 + 5)), (0, .ref b), (1, .ref (ad 0)), (2, .ref (ad 62))]) hC 3 rfl dL_law_1245 rfl (by decide) rfl ?_
            refine ww_goto (pc := 1248) (tgt := 18) hC dL_law_1248 (by decide) ?_
            refine ww_lv [1, 2, 3, 0] rfl ?_
            exact hc18 (a18.1 + 5, a18.2)
          · refine ww_iconst (pc := 807) (v := 0) hC dL_law_807 rfl ?_
            exact ww_lret0 (pc := 808) hC hL dL_law_808 ((hr18 _).trans rfl)
        refine ww_tab (pc := 32) (tgt := 809) hC 23 dL_law_32 (by decide) (by decide) rfl (by decide) ?_ (fun q32_23 => ?_)
        · refine ww_aload_n (pc := 809) hC 1 rfl dL_law_809 rfl ?_
          refine ww_aload_n (pc := 810) hC 0 rfl dL_law_810 rfl ?_
          refine ww_iload_n (pc := 811) hC 3 rfl dL_law_811 rfl ?_
          refine ww_iconst (pc := 812) (v := 1) hC dL_law_812 rfl ?_
          refine ww_iadd (pc := 813) hC dL_law_813 ?_
          refine ww_xld (pc := 814) hC hX dL_law_814 ?_
          refine ww_aload_n (pc := 815) hC 0 rfl dL_law_815 rfl ?_
          refine ww_iload_n (pc := 816) hC 3 rfl dL_law_816 rfl ?_
          refine ww_iconst (pc := 817) (v := 2) hC dL_law_817 rfl ?_
          refine ww_iadd (pc := 818) hC dL_law_818 ?_
          refine ww_xld (pc := 819) hC hX dL_law_819 ?_
          refine ww_callVw (pc := 820) (st := []) (As := [.int (xs (ww_ix (a18.1 + 1))), .int (xs (ww_ix (a18.1 + 2)))]) hC (c_X6_tell hT a18.2 (xs (ww_ix (a18.1 + 1))) (xs (ww_ix (a18.1 + 2)))) mm_X6_tell mw_760 (hT 0 _ rfl) rfl (by omega) (by decide) (Nat.le_of_ble_eq_true rfl) rfl dL_law_820 (fun v820 => ?_)
          refine ww_aload_n (pc := 823) hC 2 rfl dL_law_823 rfl ?_
          refine ww_aload_n (pc := 824) hC 0 rfl dL_law_824 rfl ?_
          refine ww_iload_n (pc := 825) hC 3 rfl dL_law_825 rfl ?_
          refine ww_iconst (pc := 826) (v := 1) hC dL_law_826 rfl ?_
          refine ww_iadd (pc := 827) hC dL_law_827 ?_
          refine ww_xld (pc := 828) hC hX dL_law_828 ?_
          refine ww_aload_n (pc := 829) hC 0 rfl dL_law_829 rfl ?_
          refine ww_iload_n (pc := 830) hC 3 rfl dL_law_830 rfl ?_
          refine ww_iconst (pc := 831) (v := 2) hC dL_law_831 rfl ?_
          refine ww_iadd (pc := 832) hC dL_law_832 ?_
          refine ww_xld (pc := 833) hC hX dL_law_833 ?_
          refine ww_callVw (pc := 834) (st := [.int v820.1]) (As := [.int (xs (ww_ix (a18.1 + 1))), .int (xs (ww_ix (a18.1 + 2)))]) hC (c_X7_tell 62 hMd v820.2 (xs (ww_ix (a18.1 + 1))) (xs (ww_ix (a18.1 + 2)))) mm_X7_tell mw_1221 (hMd 0 _ rfl) rfl (by omega) (by decide) (Nat.le_of_ble_eq_true rfl) rfl dL_law_834 (fun v834 => ?_)
          refine ww_icmp_eq (pc := 837) (tgt := 1245) hC dL_law_837 (by decide) ?_ ?_
          · refine ww_iinc (pc := 1245) (v := a18.1 + 5) (lv' := [(3, .int (a18.1 + 5)), (0, .ref b), (1, .ref (ad 0)), (2, .ref (ad 62))]) hC 3 rfl dL_law_1245 rfl (by decide) rfl ?_
            refine ww_goto (pc := 1248) (tgt := 18) hC dL_law_1248 (by decide) ?_
            refine ww_lv [1, 2, 3, 0] rfl ?_
            exact hc18 (a18.1 + 5, v834.2)
          · refine ww_iconst (pc := 840) (v := 0) hC dL_law_840 rfl ?_
            exact ww_lret0 (pc := 841) hC hL dL_law_841 ((hr18 _).trans rfl)
        refine ww_tab (pc := 32) (tgt := 842) hC 24 dL_law_32 (by decide) (by decide) rfl (by decide) ?_ (fun q32_24 => ?_)
        · refine ww_aload_n (pc := 842) hC 1 rfl dL_law_842 rfl ?_
          refine ww_aload_n (pc := 843) hC 0 rfl dL_law_843 rfl ?_
          refine ww_iload_n (pc := 844) hC 3 rfl dL_law_844 rfl ?_
          refine ww_iconst (pc := 845) (v := 1) hC dL_law_845 rfl ?_
          refine ww_iadd (pc := 846) hC dL_law_846 ?_
          refine ww_xld (pc := 847) hC hX dL_law_847 ?_
          refine ww_callVw (pc := 848) (st := []) (As := [.int (xs (ww_ix (a18.1 + 1)))]) hC (c_X6_forget hT a18.2 (xs (ww_ix (a18.1 + 1)))) mm_X6_forget mw_768 (hT 0 _ rfl) rfl (by omega) (by decide) (Nat.le_of_ble_eq_true rfl) rfl dL_law_848 (fun v848 => ?_)
          refine ww_aload_n (pc := 851) hC 2 rfl dL_law_851 rfl ?_
          refine ww_aload_n (pc := 852) hC 0 rfl dL_law_852 rfl ?_
          refine ww_iload_n (pc := 853) hC 3 rfl dL_law_853 rfl ?_
          refine ww_iconst (pc := 854) (v := 1) hC dL_law_854 rfl ?_
          refine ww_iadd (pc := 855) hC dL_law_855 ?_
          refine ww_xld (pc := 856) hC hX dL_law_856 ?_
          refine ww_callVw (pc := 857) (st := [.int v848.1]) (As := [.int (xs (ww_ix (a18.1 + 1)))]) hC (c_X7_forget 62 hMd v848.2 (xs (ww_ix (a18.1 + 1)))) mm_X7_forget mw_1226 (hMd 0 _ rfl) rfl (by omega) (by decide) (Nat.le_of_ble_eq_true rfl) rfl dL_law_857 (fun v857 => ?_)
          refine ww_icmp_eq (pc := 860) (tgt := 1245) hC dL_law_860 (by decide) ?_ ?_
          · refine ww_iinc (pc := 1245) (v := a18.1 + 5) (lv' := [(3, .int (a18.1 + 5)), (0, .ref b), (1, .ref (ad 0)), (2, .ref (ad 62))]) hC 3 rfl dL_law_1245 rfl (by decide) rfl ?_
            refine ww_goto (pc := 1248) (tgt := 18) hC dL_law_1248 (by decide) ?_
            refine ww_lv [1, 2, 3, 0] rfl ?_
            exact hc18 (a18.1 + 5, v857.2)
          · refine ww_iconst (pc := 863) (v := 0) hC dL_law_863 rfl ?_
            exact ww_lret0 (pc := 864) hC hL dL_law_864 ((hr18 _).trans rfl)
        refine ww_tab (pc := 32) (tgt := 865) hC 25 dL_law_32 (by decide) (by decide) rfl (by decide) ?_ (fun q32_25 => ?_)
        · refine ww_aload_n (pc := 865) hC 1 rfl dL_law_865 rfl ?_
          refine ww_callVi (pc := 866) (st := []) (As := []) hC (c_X6_laws hT a18.2) mm_X6_laws mw_772 (hT 0 _ rfl) rfl (by omega) (by decide) (Nat.le_of_ble_eq_true rfl) rfl dL_law_866 (fun v866 => ?_)
          refine ww_aload_n (pc := 869) hC 2 rfl dL_law_869 rfl ?_
          refine ww_callVi (pc := 870) (st := [.int v866]) (As := []) hC (c_X7_laws 62 hMd a18.2) mm_X7_laws mw_1230 (hMd 0 _ rfl) rfl (by omega) (by decide) (Nat.le_of_ble_eq_true rfl) rfl dL_law_870 (fun v870 => ?_)
          refine ww_icmp_eq (pc := 873) (tgt := 1245) hC dL_law_873 (by decide) ?_ ?_
          · refine ww_iinc (pc := 1245) (v := a18.1 + 5) (lv' := [(3, .int (a18.1 + 5)), (0, .ref b), (1, .ref (ad 0)), (2, .ref (ad 62))]) hC 3 rfl dL_law_1245 rfl (by decide) rfl ?_
            refine ww_goto (pc := 1248) (tgt := 18) hC dL_law_1248 (by decide) ?_
            refine ww_lv [1, 2, 3, 0] rfl ?_
            exact hc18 (a18.1 + 5, a18.2)
          · refine ww_iconst (pc := 876) (v := 0) hC dL_law_876 rfl ?_
            exact ww_lret0 (pc := 877) hC hL dL_law_877 ((hr18 _).trans rfl)
        refine ww_tab (pc := 32) (tgt := 878) hC 26 dL_law_32 (by decide) (by decide) rfl (by decide) ?_ (fun q32_26 => ?_)
        · refine ww_aload_n (pc := 878) hC 1 rfl dL_law_878 rfl ?_
          refine ww_aload_n (pc := 879) hC 0 rfl dL_law_879 rfl ?_
          refine ww_iload_n (pc := 880) hC 3 rfl dL_law_880 rfl ?_
          refine ww_iconst (pc := 881) (v := 1) hC dL_law_881 rfl ?_
          refine ww_iadd (pc := 882) hC dL_law_882 ?_
          refine ww_xld (pc := 883) hC hX dL_law_883 ?_
          refine ww_callVw (pc := 884) (st := []) (As := [.int (xs (ww_ix (a18.1 + 1)))]) hC (c_X6_whose hT a18.2 (xs (ww_ix (a18.1 + 1)))) mm_X6_whose mw_781 (hT 0 _ rfl) rfl (by omega) (by decide) (Nat.le_of_ble_eq_true rfl) rfl dL_law_884 (fun v884 => ?_)
          refine ww_aload_n (pc := 887) hC 2 rfl dL_law_887 rfl ?_
          refine ww_aload_n (pc := 888) hC 0 rfl dL_law_888 rfl ?_
          refine ww_iload_n (pc := 889) hC 3 rfl dL_law_889 rfl ?_
          refine ww_iconst (pc := 890) (v := 1) hC dL_law_890 rfl ?_
          refine ww_iadd (pc := 891) hC dL_law_891 ?_
          refine ww_xld (pc := 892) hC hX dL_law_892 ?_
          refine ww_callVw (pc := 893) (st := [.int v884.1]) (As := [.int (xs (ww_ix (a18.1 + 1)))]) hC (c_X7_whose 62 hMd v884.2 (xs (ww_ix (a18.1 + 1)))) mm_X7_whose mw_1238 (hMd 0 _ rfl) rfl (by omega) (by decide) (Nat.le_of_ble_eq_true rfl) rfl dL_law_893 (fun v893 => ?_)
          refine ww_icmp_eq (pc := 896) (tgt := 1245) hC dL_law_896 (by decide) ?_ ?_
          · refine ww_iinc (pc := 1245) (v := a18.1 + 5) (lv' := [(3, .int (a18.1 + 5)), (0, .ref b), (1, .ref (ad 0)), (2, .ref (ad 62))]) hC 3 rfl dL_law_1245 rfl (by decide) rfl ?_
            refine ww_goto (pc := 1248) (tgt := 18) hC dL_law_1248 (by decide) ?_
            refine ww_lv [1, 2, 3, 0] rfl ?_
            exact hc18 (a18.1 + 5, v893.2)
          · refine ww_iconst (pc := 899) (v := 0) hC dL_law_899 rfl ?_
            exact ww_lret0 (pc := 900) hC hL dL_law_900 ((hr18 _).trans rfl)
        refine ww_tab (pc := 32) (tgt := 901) hC 27 dL_law_32 (by decide) (by decide) rfl (by decide) ?_ (fun q32_27 => ?_)
        · refine ww_aload_n (pc := 901) hC 1 rfl dL_law_901 rfl ?_
          refine ww_aload_n (pc := 902) hC 0 rfl dL_law_902 rfl ?_
          refine ww_iload_n (pc := 903) hC 3 rfl dL_law_903 rfl ?_
          refine ww_iconst (pc := 904) (v := 1) hC dL_law_904 rfl ?_
          refine ww_iadd (pc := 905) hC dL_law_905 ?_
          refine ww_xld (pc := 906) hC hX dL_law_906 ?_
          refine ww_aload_n (pc := 907) hC 0 rfl dL_law_907 rfl ?_
          refine ww_iload_n (pc := 908) hC 3 rfl dL_law_908 rfl ?_
          refine ww_iconst (pc := 909) (v := 2) hC dL_law_909 rfl ?_
          refine ww_iadd (pc := 910) hC dL_law_910 ?_
          refine ww_xld (pc := 911) hC hX dL_law_911 ?_
          refine ww_callVi (pc := 912) (st := []) (As := [.int (xs (ww_ix (a18.1 + 1))), .int (xs (ww_ix (a18.1 + 2)))]) hC (c_X6_strand hT a18.2 (xs (ww_ix (a18.1 + 1))) (xs (ww_ix (a18.1 + 2)))) mm_X6_strand mw_785 (hT 0 _ rfl) rfl (by omega) (by decide) (Nat.le_of_ble_eq_true rfl) rfl dL_law_912 (fun v912 => ?_)
          refine ww_aload_n (pc := 915) hC 2 rfl dL_law_915 rfl ?_
          refine ww_aload_n (pc := 916) hC 0 rfl dL_law_916 rfl ?_
          refine ww_iload_n (pc := 917) hC 3 rfl dL_law_917 rfl ?_
          refine ww_iconst (pc := 918) (v := 1) hC dL_law_918 rfl ?_
          refine ww_iadd (pc := 919) hC dL_law_919 ?_
          refine ww_xld (pc := 920) hC hX dL_law_920 ?_
          refine ww_aload_n (pc := 921) hC 0 rfl dL_law_921 rfl ?_
          refine ww_iload_n (pc := 922) hC 3 rfl dL_law_922 rfl ?_
          refine ww_iconst (pc := 923) (v := 2) hC dL_law_923 rfl ?_
          refine ww_iadd (pc := 924) hC dL_law_924 ?_
          refine ww_xld (pc := 925) hC hX dL_law_925 ?_
          refine ww_callVi (pc := 926) (st := [.int v912]) (As := [.int (xs (ww_ix (a18.1 + 1))), .int (xs (ww_ix (a18.1 + 2)))]) hC (c_X7_strand 62 hMd a18.2 (xs (ww_ix (a18.1 + 1))) (xs (ww_ix (a18.1 + 2)))) mm_X7_strand mw_1242 (hMd 0 _ rfl) rfl (by omega) (by decide) (Nat.le_of_ble_eq_true rfl) rfl dL_law_926 (fun v926 => ?_)
          refine ww_icmp_eq (pc := 929) (tgt := 1245) hC dL_law_929 (by decide) ?_ ?_
          · refine ww_iinc (pc := 1245) (v := a18.1 + 5) (lv' := [(3, .int (a18.1 + 5)), (0, .ref b), (1, .ref (ad 0)), (2, .ref (ad 62))]) hC 3 rfl dL_law_1245 rfl (by decide) rfl ?_
            refine ww_goto (pc := 1248) (tgt := 18) hC dL_law_1248 (by decide) ?_
            refine ww_lv [1, 2, 3, 0] rfl ?_
            exact hc18 (a18.1 + 5, a18.2)
          · refine ww_iconst (pc := 932) (v := 0) hC dL_law_932 rfl ?_
            exact ww_lret0 (pc := 933) hC hL dL_law_933 ((hr18 _).trans rfl)
        refine ww_tab (pc := 32) (tgt := 934) hC 28 dL_law_32 (by decide) (by decide) rfl (by decide) ?_ (fun q32_28 => ?_)
        · refine ww_aload_n (pc := 934) hC 1 rfl dL_law_934 rfl ?_
          refine ww_aload_n (pc := 935) hC 0 rfl dL_law_935 rfl ?_
          refine ww_iload_n (pc := 936) hC 3 rfl dL_law_936 rfl ?_
          refine ww_iconst (pc := 937) (v := 1) hC dL_law_937 rfl ?_
          refine ww_iadd (pc := 938) hC dL_law_938 ?_
          refine ww_xld (pc := 939) hC hX dL_law_939 ?_
          refine ww_aload_n (pc := 940) hC 0 rfl dL_law_940 rfl ?_
          refine ww_iload_n (pc := 941) hC 3 rfl dL_law_941 rfl ?_
          refine ww_iconst (pc := 942) (v := 2) hC dL_law_942 rfl ?_
          refine ww_iadd (pc := 943) hC dL_law_943 ?_
          refine ww_xld (pc := 944) hC hX dL_law_944 ?_
          refine ww_callVl (pc := 945) (st := []) (As := [.int (xs (ww_ix (a18.1 + 1))), .int (xs (ww_ix (a18.1 + 2)))]) hC (c_X6_luck hT a18.2 (xs (ww_ix (a18.1 + 1))) (xs (ww_ix (a18.1 + 2)))) mm_X6_luck mw_794 (hT 0 _ rfl) rfl (by omega) (by decide) (Nat.le_of_ble_eq_true rfl) rfl dL_law_945 (fun v945 => ?_)
          refine ww_aload_n (pc := 948) hC 2 rfl dL_law_948 rfl ?_
          refine ww_aload_n (pc := 949) hC 0 rfl dL_law_949 rfl ?_
          refine ww_iload_n (pc := 950) hC 3 rfl dL_law_950 rfl ?_
          refine ww_iconst (pc := 951) (v := 1) hC dL_law_951 rfl ?_
          refine ww_iadd (pc := 952) hC dL_law_952 ?_
          refine ww_xld (pc := 953) hC hX dL_law_953 ?_
          refine ww_aload_n (pc := 954) hC 0 rfl dL_law_954 rfl ?_
          refine ww_iload_n (pc := 955) hC 3 rfl dL_law_955 rfl ?_
          refine ww_iconst (pc := 956) (v := 2) hC dL_law_956 rfl ?_
          refine ww_iadd (pc := 957) hC dL_law_957 ?_
          refine ww_xld (pc := 958) hC hX dL_law_958 ?_
          refine ww_callVl (pc := 959) (st := [.long v945]) (As := [.int (xs (ww_ix (a18.1 + 1))), .int (xs (ww_ix (a18.1 + 2)))]) hC (c_X7_luck 62 hMd a18.2 (xs (ww_ix (a18.1 + 1))) (xs (ww_ix (a18.1 + 2)))) mm_X7_luck mw_1247 (hMd 0 _ rfl) rfl (by omega) (by decide) (Nat.le_of_ble_eq_true rfl) rfl dL_law_959 (fun v959 => ?_)
          refine ww_lcmp (pc := 962) hC dL_law_962 ?_
          refine ww_if_eq (pc := 963) (tgt := 1245) hC dL_law_963 (by decide) ?_ ?_
          · refine ww_iinc (pc := 1245) (v := a18.1 + 5) (lv' := [(3, .int (a18.1 + 5)), (0, .ref b), (1, .ref (ad 0)), (2, .ref (ad 62))]) hC 3 rfl dL_law_1245 rfl (by decide) rfl ?_
            refine ww_goto (pc := 1248) (tgt := 18) hC dL_law_1248 (by decide) ?_
            refine ww_lv [1, 2, 3, 0] rfl ?_
            exact hc18 (a18.1 + 5, a18.2)
          · refine ww_iconst (pc := 966) (v := 0) hC dL_law_966 rfl ?_
            exact ww_lret0 (pc := 967) hC hL dL_law_967 ((hr18 _).trans rfl)
        refine ww_tab (pc := 32) (tgt := 968) hC 29 dL_law_32 (by decide) (by decide) rfl (by decide) ?_ (fun q32_29 => ?_)
        · refine ww_aload_n (pc := 968) hC 1 rfl dL_law_968 rfl ?_
          refine ww_callVi (pc := 969) (st := []) (As := []) hC (c_X6_open hT a18.2) mm_X6_open mw_801 (hT 0 _ rfl) rfl (by omega) (by decide) (Nat.le_of_ble_eq_true rfl) rfl dL_law_969 (fun v969 => ?_)
          refine ww_aload_n (pc := 972) hC 2 rfl dL_law_972 rfl ?_
          refine ww_callVi (pc := 973) (st := [.int v969]) (As := []) hC (c_X7_open 62 hMd a18.2) mm_X7_open mw_1255 (hMd 0 _ rfl) rfl (by omega) (by decide) (Nat.le_of_ble_eq_true rfl) rfl dL_law_973 (fun v973 => ?_)
          refine ww_icmp_eq (pc := 976) (tgt := 1245) hC dL_law_976 (by decide) ?_ ?_
          · refine ww_iinc (pc := 1245) (v := a18.1 + 5) (lv' := [(3, .int (a18.1 + 5)), (0, .ref b), (1, .ref (ad 0)), (2, .ref (ad 62))]) hC 3 rfl dL_law_1245 rfl (by decide) rfl ?_
            refine ww_goto (pc := 1248) (tgt := 18) hC dL_law_1248 (by decide) ?_
            refine ww_lv [1, 2, 3, 0] rfl ?_
            exact hc18 (a18.1 + 5, a18.2)
          · refine ww_iconst (pc := 979) (v := 0) hC dL_law_979 rfl ?_
            exact ww_lret0 (pc := 980) hC hL dL_law_980 ((hr18 _).trans rfl)
        refine ww_tab (pc := 32) (tgt := 981) hC 30 dL_law_32 (by decide) (by decide) rfl (by decide) ?_ (fun q32_30 => ?_)
        · refine ww_aload_n (pc := 981) hC 1 rfl dL_law_981 rfl ?_
          refine ww_aload_n (pc := 982) hC 0 rfl dL_law_982 rfl ?_
          refine ww_iload_n (pc := 983) hC 3 rfl dL_law_983 rfl ?_
          refine ww_iconst (pc := 984) (v := 1) hC dL_law_984 rfl ?_
          refine ww_iadd (pc := 985) hC dL_law_985 ?_
          refine ww_xld (pc := 986) hC hX dL_law_986 ?_
          refine ww_aload_n (pc := 987) hC 0 rfl dL_law_987 rfl ?_
          refine ww_iload_n (pc := 988) hC 3 rfl dL_law_988 rfl ?_
          refine ww_iconst (pc := 989) (v := 2) hC dL_law_989 rfl ?_
          refine ww_iadd (pc := 990) hC dL_law_990 ?_
          refine ww_xld (pc := 991) hC hX dL_law_991 ?_
          refine ww_aload_n (pc := 992) hC 0 rfl dL_law_992 rfl ?_
          refine ww_iload_n (pc := 993) hC 3 rfl dL_law_993 rfl ?_
          refine ww_iconst (pc := 994) (v := 3) hC dL_law_994 rfl ?_
          refine ww_iadd (pc := 995) hC dL_law_995 ?_
          refine ww_xld (pc := 996) hC hX dL_law_996 ?_
          refine ww_callVw (pc := 997) (st := []) (As := [.int (xs (ww_ix (a18.1 + 1))), .int (xs (ww_ix (a18.1 + 2))), .int (xs (ww_ix (a18.1 + 3)))]) hC (c_X6_drift hT a18.2 (xs (ww_ix (a18.1 + 1))) (xs (ww_ix (a18.1 + 2))) (xs (ww_ix (a18.1 + 3)))) mm_X6_drift mw_810 (hT 0 _ rfl) rfl (by omega) (by decide) (Nat.le_of_ble_eq_true rfl) rfl dL_law_997 (fun v997 => ?_)
          refine ww_aload_n (pc := 1000) hC 2 rfl dL_law_1000 rfl ?_
          refine ww_aload_n (pc := 1001) hC 0 rfl dL_law_1001 rfl ?_
          refine ww_iload_n (pc := 1002) hC 3 rfl dL_law_1002 rfl ?_
          refine ww_iconst (pc := 1003) (v := 1) hC dL_law_1003 rfl ?_
          refine ww_iadd (pc := 1004) hC dL_law_1004 ?_
          refine ww_xld (pc := 1005) hC hX dL_law_1005 ?_
          refine ww_aload_n (pc := 1006) hC 0 rfl dL_law_1006 rfl ?_
          refine ww_iload_n (pc := 1007) hC 3 rfl dL_law_1007 rfl ?_
          refine ww_iconst (pc := 1008) (v := 2) hC dL_law_1008 rfl ?_
          refine ww_iadd (pc := 1009) hC dL_law_1009 ?_
          refine ww_xld (pc := 1010) hC hX dL_law_1010 ?_
          refine ww_aload_n (pc := 1011) hC 0 rfl dL_law_1011 rfl ?_
          refine ww_iload_n (pc := 1012) hC 3 rfl dL_law_1012 rfl ?_
          refine ww_iconst (pc := 1013) (v := 3) hC dL_law_1013 rfl ?_
          refine ww_iadd (pc := 1014) hC dL_law_1014 ?_
          refine ww_xld (pc := 1015) hC hX dL_law_1015 ?_
          refine ww_callVw (pc := 1016) (st := [.int v997.1]) (As := [.int (xs (ww_ix (a18.1 + 1))), .int (xs (ww_ix (a18.1 + 2))), .int (xs (ww_ix (a18.1 + 3)))]) hC (c_X7_drift 62 hMd v997.2 (xs (ww_ix (a18.1 + 1))) (xs (ww_ix (a18.1 + 2))) (xs (ww_ix (a18.1 + 3)))) mm_X7_drift mw_1259 (hMd 0 _ rfl) rfl (by omega) (by decide) (Nat.le_of_ble_eq_true rfl) rfl dL_law_1016 (fun v1016 => ?_)
          refine ww_icmp_eq (pc := 1019) (tgt := 1245) hC dL_law_1019 (by decide) ?_ ?_
          · refine ww_iinc (pc := 1245) (v := a18.1 + 5) (lv' := [(3, .int (a18.1 + 5)), (0, .ref b), (1, .ref (ad 0)), (2, .ref (ad 62))]) hC 3 rfl dL_law_1245 rfl (by decide) rfl ?_
            refine ww_goto (pc := 1248) (tgt := 18) hC dL_law_1248 (by decide) ?_
            refine ww_lv [1, 2, 3, 0] rfl ?_
            exact hc18 (a18.1 + 5, v1016.2)
          · refine ww_iconst (pc := 1022) (v := 0) hC dL_law_1022 rfl ?_
            exact ww_lret0 (pc := 1023) hC hL dL_law_1023 ((hr18 _).trans rfl)
        refine ww_tab (pc := 32) (tgt := 1024) hC 31 dL_law_32 (by decide) (by decide) rfl (by decide) ?_ (fun q32_31 => ?_)
        · refine ww_aload_n (pc := 1024) hC 1 rfl dL_law_1024 rfl ?_
          refine ww_aload_n (pc := 1025) hC 0 rfl dL_law_1025 rfl ?_
          refine ww_iload_n (pc := 1026) hC 3 rfl dL_law_1026 rfl ?_
          refine ww_iconst (pc := 1027) (v := 1) hC dL_law_1027 rfl ?_
          refine ww_iadd (pc := 1028) hC dL_law_1028 ?_
          refine ww_xld (pc := 1029) hC hX dL_law_1029 ?_
          refine ww_callVw (pc := 1030) (st := []) (As := [.int (xs (ww_ix (a18.1 + 1)))]) hC (c_X6_keep hT a18.2 (xs (ww_ix (a18.1 + 1)))) mm_X6_keep mw_824 (hT 0 _ rfl) rfl (by omega) (by decide) (Nat.le_of_ble_eq_true rfl) rfl dL_law_1030 (fun v1030 => ?_)
          refine ww_aload_n (pc := 1033) hC 2 rfl dL_law_1033 rfl ?_
          refine ww_aload_n (pc := 1034) hC 0 rfl dL_law_1034 rfl ?_
          refine ww_iload_n (pc := 1035) hC 3 rfl dL_law_1035 rfl ?_
          refine ww_iconst (pc := 1036) (v := 1) hC dL_law_1036 rfl ?_
          refine ww_iadd (pc := 1037) hC dL_law_1037 ?_
          refine ww_xld (pc := 1038) hC hX dL_law_1038 ?_
          refine ww_callVw (pc := 1039) (st := [.int v1030.1]) (As := [.int (xs (ww_ix (a18.1 + 1)))]) hC (c_X7_keep 62 hMd v1030.2 (xs (ww_ix (a18.1 + 1)))) mm_X7_keep mw_1277 (hMd 0 _ rfl) rfl (by omega) (by decide) (Nat.le_of_ble_eq_true rfl) rfl dL_law_1039 (fun v1039 => ?_)
          refine ww_icmp_eq (pc := 1042) (tgt := 1245) hC dL_law_1042 (by decide) ?_ ?_
          · refine ww_iinc (pc := 1245) (v := a18.1 + 5) (lv' := [(3, .int (a18.1 + 5)), (0, .ref b), (1, .ref (ad 0)), (2, .ref (ad 62))]) hC 3 rfl dL_law_1245 rfl (by decide) rfl ?_
            refine ww_goto (pc := 1248) (tgt := 18) hC dL_law_1248 (by decide) ?_
            refine ww_lv [1, 2, 3, 0] rfl ?_
            exact hc18 (a18.1 + 5, v1039.2)
          · refine ww_iconst (pc := 1045) (v := 0) hC dL_law_1045 rfl ?_
            exact ww_lret0 (pc := 1046) hC hL dL_law_1046 ((hr18 _).trans rfl)
        refine ww_tab (pc := 32) (tgt := 1047) hC 32 dL_law_32 (by decide) (by decide) rfl (by decide) ?_ (fun q32_32 => ?_)
        · refine ww_aload_n (pc := 1047) hC 1 rfl dL_law_1047 rfl ?_
          refine ww_aload_n (pc := 1048) hC 0 rfl dL_law_1048 rfl ?_
          refine ww_iload_n (pc := 1049) hC 3 rfl dL_law_1049 rfl ?_
          refine ww_iconst (pc := 1050) (v := 1) hC dL_law_1050 rfl ?_
          refine ww_iadd (pc := 1051) hC dL_law_1051 ?_
          refine ww_xld (pc := 1052) hC hX dL_law_1052 ?_
          refine ww_callVw (pc := 1053) (st := []) (As := [.int (xs (ww_ix (a18.1 + 1)))]) hC (c_X6_back hT a18.2 (xs (ww_ix (a18.1 + 1)))) mm_X6_back mw_828 (hT 0 _ rfl) rfl (by omega) (by decide) (Nat.le_of_ble_eq_true rfl) rfl dL_law_1053 (fun v1053 => ?_)
          refine ww_aload_n (pc := 1056) hC 2 rfl dL_law_1056 rfl ?_
          refine ww_aload_n (pc := 1057) hC 0 rfl dL_law_1057 rfl ?_
          refine ww_iload_n (pc := 1058) hC 3 rfl dL_law_1058 rfl ?_
          refine ww_iconst (pc := 1059) (v := 1) hC dL_law_1059 rfl ?_
          refine ww_iadd (pc := 1060) hC dL_law_1060 ?_
          refine ww_xld (pc := 1061) hC hX dL_law_1061 ?_
          refine ww_callVw (pc := 1062) (st := [.int v1053.1]) (As := [.int (xs (ww_ix (a18.1 + 1)))]) hC (c_X7_back 62 hMd v1053.2 (xs (ww_ix (a18.1 + 1)))) mm_X7_back mw_1281 (hMd 0 _ rfl) rfl (by omega) (by decide) (Nat.le_of_ble_eq_true rfl) rfl dL_law_1062 (fun v1062 => ?_)
          refine ww_icmp_eq (pc := 1065) (tgt := 1245) hC dL_law_1065 (by decide) ?_ ?_
          · refine ww_iinc (pc := 1245) (v := a18.1 + 5) (lv' := [(3, .int (a18.1 + 5)), (0, .ref b), (1, .ref (ad 0)), (2, .ref (ad 62))]) hC 3 rfl dL_law_1245 rfl (by decide) rfl ?_
            refine ww_goto (pc := 1248) (tgt := 18) hC dL_law_1248 (by decide) ?_
            refine ww_lv [1, 2, 3, 0] rfl ?_
            exact hc18 (a18.1 + 5, v1062.2)
          · refine ww_iconst (pc := 1068) (v := 0) hC dL_law_1068 rfl ?_
            exact ww_lret0 (pc := 1069) hC hL dL_law_1069 ((hr18 _).trans rfl)
        refine ww_tab (pc := 32) (tgt := 1070) hC 33 dL_law_32 (by decide) (by decide) rfl (by decide) ?_ (fun q32_33 => ?_)
        · refine ww_aload_n (pc := 1070) hC 1 rfl dL_law_1070 rfl ?_
          refine ww_aload_n (pc := 1071) hC 0 rfl dL_law_1071 rfl ?_
          refine ww_iload_n (pc := 1072) hC 3 rfl dL_law_1072 rfl ?_
          refine ww_iconst (pc := 1073) (v := 1) hC dL_law_1073 rfl ?_
          refine ww_iadd (pc := 1074) hC dL_law_1074 ?_
          refine ww_xld (pc := 1075) hC hX dL_law_1075 ?_
          refine ww_aload_n (pc := 1076) hC 0 rfl dL_law_1076 rfl ?_
          refine ww_iload_n (pc := 1077) hC 3 rfl dL_law_1077 rfl ?_
          refine ww_iconst (pc := 1078) (v := 2) hC dL_law_1078 rfl ?_
          refine ww_iadd (pc := 1079) hC dL_law_1079 ?_
          refine ww_xld (pc := 1080) hC hX dL_law_1080 ?_
          refine ww_aload_n (pc := 1081) hC 0 rfl dL_law_1081 rfl ?_
          refine ww_iload_n (pc := 1082) hC 3 rfl dL_law_1082 rfl ?_
          refine ww_iconst (pc := 1083) (v := 3) hC dL_law_1083 rfl ?_
          refine ww_iadd (pc := 1084) hC dL_law_1084 ?_
          refine ww_xld (pc := 1085) hC hX dL_law_1085 ?_
          refine ww_callVw (pc := 1086) (st := []) (As := [.int (xs (ww_ix (a18.1 + 1))), .int (xs (ww_ix (a18.1 + 2))), .int (xs (ww_ix (a18.1 + 3)))]) hC (c_X6_sheet hT a18.2 (xs (ww_ix (a18.1 + 1))) (xs (ww_ix (a18.1 + 2))) (xs (ww_ix (a18.1 + 3)))) mm_X6_sheet mw_832 (hT 0 _ rfl) rfl (by omega) (by decide) (Nat.le_of_ble_eq_true rfl) rfl dL_law_1086 (fun v1086 => ?_)
          refine ww_aload_n (pc := 1089) hC 2 rfl dL_law_1089 rfl ?_
          refine ww_aload_n (pc := 1090) hC 0 rfl dL_law_1090 rfl ?_
          refine ww_iload_n (pc := 1091) hC 3 rfl dL_law_1091 rfl ?_
          refine ww_iconst (pc := 1092) (v := 1) hC dL_law_1092 rfl ?_
          refine ww_iadd (pc := 1093) hC dL_law_1093 ?_
          refine ww_xld (pc := 1094) hC hX dL_law_1094 ?_
          refine ww_aload_n (pc := 1095) hC 0 rfl dL_law_1095 rfl ?_
          refine ww_iload_n (pc := 1096) hC 3 rfl dL_law_1096 rfl ?_
          refine ww_iconst (pc := 1097) (v := 2) hC dL_law_1097 rfl ?_
          refine ww_iadd (pc := 1098) hC dL_law_1098 ?_
          refine ww_xld (pc := 1099) hC hX dL_law_1099 ?_
          refine ww_aload_n (pc := 1100) hC 0 rfl dL_law_1100 rfl ?_
          refine ww_iload_n (pc := 1101) hC 3 rfl dL_law_1101 rfl ?_
          refine ww_iconst (pc := 1102) (v := 3) hC dL_law_1102 rfl ?_
          refine ww_iadd (pc := 1103) hC dL_law_1103 ?_
          refine ww_xld (pc := 1104) hC hX dL_law_1104 ?_
          refine ww_callVw (pc := 1105) (st := [.int v1086.1]) (As := [.int (xs (ww_ix (a18.1 + 1))), .int (xs (ww_ix (a18.1 + 2))), .int (xs (ww_ix (a18.1 + 3)))]) hC (c_X7_sheet 62 hMd v1086.2 (xs (ww_ix (a18.1 + 1))) (xs (ww_ix (a18.1 + 2))) (xs (ww_ix (a18.1 + 3)))) mm_X7_sheet mw_1285 (hMd 0 _ rfl) rfl (by omega) (by decide) (Nat.le_of_ble_eq_true rfl) rfl dL_law_1105 (fun v1105 => ?_)
          refine ww_icmp_eq (pc := 1108) (tgt := 1245) hC dL_law_1108 (by decide) ?_ ?_
          · refine ww_iinc (pc := 1245) (v := a18.1 + 5) (lv' := [(3, .int (a18.1 + 5)), (0, .ref b), (1, .ref (ad 0)), (2, .ref (ad 62))]) hC 3 rfl dL_law_1245 rfl (by decide) rfl ?_
            refine ww_goto (pc := 1248) (tgt := 18) hC dL_law_1248 (by decide) ?_
            refine ww_lv [1, 2, 3, 0] rfl ?_
            exact hc18 (a18.1 + 5, v1105.2)
          · refine ww_iconst (pc := 1111) (v := 0) hC dL_law_1111 rfl ?_
            exact ww_lret0 (pc := 1112) hC hL dL_law_1112 ((hr18 _).trans rfl)
        refine ww_tab (pc := 32) (tgt := 1113) hC 34 dL_law_32 (by decide) (by decide) rfl (by decide) ?_ (fun q32_34 => ?_)
        · refine ww_aload_n (pc := 1113) hC 1 rfl dL_law_1113 rfl ?_
          refine ww_aload_n (pc := 1114) hC 0 rfl dL_law_1114 rfl ?_
          refine ww_iload_n (pc := 1115) hC 3 rfl dL_law_1115 rfl ?_
          refine ww_iconst (pc := 1116) (v := 1) hC dL_law_1116 rfl ?_
          refine ww_iadd (pc := 1117) hC dL_law_1117 ?_
          refine ww_xld (pc := 1118) hC hX dL_law_1118 ?_
          refine ww_aload_n (pc := 1119) hC 0 rfl dL_law_1119 rfl ?_
          refine ww_iload_n (pc := 1120) hC 3 rfl dL_law_1120 rfl ?_
          refine ww_iconst (pc := 1121) (v := 2) hC dL_law_1121 rfl ?_
          refine ww_iadd (pc := 1122) hC dL_law_1122 ?_
          refine ww_xld (pc := 1123) hC hX dL_law_1123 ?_
          refine ww_aload_n (pc := 1124) hC 0 rfl dL_law_1124 rfl ?_
          refine ww_iload_n (pc := 1125) hC 3 rfl dL_law_1125 rfl ?_
          refine ww_iconst (pc := 1126) (v := 3) hC dL_law_1126 rfl ?_
          refine ww_iadd (pc := 1127) hC dL_law_1127 ?_
          refine ww_xld (pc := 1128) hC hX dL_law_1128 ?_
          refine ww_callVw (pc := 1129) (st := []) (As := [.int (xs (ww_ix (a18.1 + 1))), .int (xs (ww_ix (a18.1 + 2))), .int (xs (ww_ix (a18.1 + 3)))]) hC (c_X6_lay hT a18.2 (xs (ww_ix (a18.1 + 1))) (xs (ww_ix (a18.1 + 2))) (xs (ww_ix (a18.1 + 3)))) mm_X6_lay mw_841 (hT 0 _ rfl) rfl (by omega) (by decide) (Nat.le_of_ble_eq_true rfl) rfl dL_law_1129 (fun v1129 => ?_)
          refine ww_aload_n (pc := 1132) hC 2 rfl dL_law_1132 rfl ?_
          refine ww_aload_n (pc := 1133) hC 0 rfl dL_law_1133 rfl ?_
          refine ww_iload_n (pc := 1134) hC 3 rfl dL_law_1134 rfl ?_
          refine ww_iconst (pc := 1135) (v := 1) hC dL_law_1135 rfl ?_
          refine ww_iadd (pc := 1136) hC dL_law_1136 ?_
          refine ww_xld (pc := 1137) hC hX dL_law_1137 ?_
          refine ww_aload_n (pc := 1138) hC 0 rfl dL_law_1138 rfl ?_
          refine ww_iload_n (pc := 1139) hC 3 rfl dL_law_1139 rfl ?_
          refine ww_iconst (pc := 1140) (v := 2) hC dL_law_1140 rfl ?_
          refine ww_iadd (pc := 1141) hC dL_law_1141 ?_
          refine ww_xld (pc := 1142) hC hX dL_law_1142 ?_
          refine ww_aload_n (pc := 1143) hC 0 rfl dL_law_1143 rfl ?_
          refine ww_iload_n (pc := 1144) hC 3 rfl dL_law_1144 rfl ?_
          refine ww_iconst (pc := 1145) (v := 3) hC dL_law_1145 rfl ?_
          refine ww_iadd (pc := 1146) hC dL_law_1146 ?_
          refine ww_xld (pc := 1147) hC hX dL_law_1147 ?_
          refine ww_callVw (pc := 1148) (st := [.int v1129.1]) (As := [.int (xs (ww_ix (a18.1 + 1))), .int (xs (ww_ix (a18.1 + 2))), .int (xs (ww_ix (a18.1 + 3)))]) hC (c_X7_lay 62 hMd v1129.2 (xs (ww_ix (a18.1 + 1))) (xs (ww_ix (a18.1 + 2))) (xs (ww_ix (a18.1 + 3)))) mm_X7_lay mw_1289 (hMd 0 _ rfl) rfl (by omega) (by decide) (Nat.le_of_ble_eq_true rfl) rfl dL_law_1148 (fun v1148 => ?_)
          refine ww_icmp_eq (pc := 1151) (tgt := 1245) hC dL_law_1151 (by decide) ?_ ?_
          · refine ww_iinc (pc := 1245) (v := a18.1 + 5) (lv' := [(3, .int (a18.1 + 5)), (0, .ref b), (1, .ref (ad 0)), (2, .ref (ad 62))]) hC 3 rfl dL_law_1245 rfl (by decide) rfl ?_
            refine ww_goto (pc := 1248) (tgt := 18) hC dL_law_1248 (by decide) ?_
            refine ww_lv [1, 2, 3, 0] rfl ?_
            exact hc18 (a18.1 + 5, v1148.2)
          · refine ww_iconst (pc := 1154) (v := 0) hC dL_law_1154 rfl ?_
            exact ww_lret0 (pc := 1155) hC hL dL_law_1155 ((hr18 _).trans rfl)
        refine ww_tab (pc := 32) (tgt := 1156) hC 35 dL_law_32 (by decide) (by decide) rfl (by decide) ?_ (fun q32_35 => ?_)
        · refine ww_aload_n (pc := 1156) hC 1 rfl dL_law_1156 rfl ?_
          refine ww_aload_n (pc := 1157) hC 0 rfl dL_law_1157 rfl ?_
          refine ww_iload_n (pc := 1158) hC 3 rfl dL_law_1158 rfl ?_
          refine ww_iconst (pc := 1159) (v := 1) hC dL_law_1159 rfl ?_
          refine ww_iadd (pc := 1160) hC dL_law_1160 ?_
          refine ww_xld (pc := 1161) hC hX dL_law_1161 ?_
          refine ww_aload_n (pc := 1162) hC 0 rfl dL_law_1162 rfl ?_
          refine ww_iload_n (pc := 1163) hC 3 rfl dL_law_1163 rfl ?_
          refine ww_iconst (pc := 1164) (v := 2) hC dL_law_1164 rfl ?_
          refine ww_iadd (pc := 1165) hC dL_law_1165 ?_
          refine ww_xld (pc := 1166) hC hX dL_law_1166 ?_
          refine ww_aload_n (pc := 1167) hC 0 rfl dL_law_1167 rfl ?_
          refine ww_iload_n (pc := 1168) hC 3 rfl dL_law_1168 rfl ?_
          refine ww_iconst (pc := 1169) (v := 3) hC dL_law_1169 rfl ?_
          refine ww_iadd (pc := 1170) hC dL_law_1170 ?_
          refine ww_xld (pc := 1171) hC hX dL_law_1171 ?_
          refine ww_aload_n (pc := 1172) hC 0 rfl dL_law_1172 rfl ?_
          refine ww_iload_n (pc := 1173) hC 3 rfl dL_law_1173 rfl ?_
          refine ww_iconst (pc := 1174) (v := 4) hC dL_law_1174 rfl ?_
          refine ww_iadd (pc := 1175) hC dL_law_1175 ?_
          refine ww_xld (pc := 1176) hC hX dL_law_1176 ?_
          refine ww_callVw (pc := 1177) (st := []) (As := [.int (xs (ww_ix (a18.1 + 1))), .int (xs (ww_ix (a18.1 + 2))), .int (xs (ww_ix (a18.1 + 3))), .int (xs (ww_ix (a18.1 + 4)))]) hC (c_X6_read hT a18.2 (xs (ww_ix (a18.1 + 1))) (xs (ww_ix (a18.1 + 2))) (xs (ww_ix (a18.1 + 3))) (xs (ww_ix (a18.1 + 4)))) mm_X6_read mw_854 (hT 0 _ rfl) rfl (by omega) (by decide) (Nat.le_of_ble_eq_true rfl) rfl dL_law_1177 (fun v1177 => ?_)
          refine ww_aload_n (pc := 1180) hC 2 rfl dL_law_1180 rfl ?_
          refine ww_aload_n (pc := 1181) hC 0 rfl dL_law_1181 rfl ?_
          refine ww_iload_n (pc := 1182) hC 3 rfl dL_law_1182 rfl ?_
          refine ww_iconst (pc := 1183) (v := 1) hC dL_law_1183 rfl ?_
          refine ww_iadd (pc := 1184) hC dL_law_1184 ?_
          refine ww_xld (pc := 1185) hC hX dL_law_1185 ?_
          refine ww_aload_n (pc := 1186) hC 0 rfl dL_law_1186 rfl ?_
          refine ww_iload_n (pc := 1187) hC 3 rfl dL_law_1187 rfl ?_
          refine ww_iconst (pc := 1188) (v := 2) hC dL_law_1188 rfl ?_
          refine ww_iadd (pc := 1189) hC dL_law_1189 ?_
          refine ww_xld (pc := 1190) hC hX dL_law_1190 ?_
          refine ww_aload_n (pc := 1191) hC 0 rfl dL_law_1191 rfl ?_
          refine ww_iload_n (pc := 1192) hC 3 rfl dL_law_1192 rfl ?_
          refine ww_iconst (pc := 1193) (v := 3) hC dL_law_1193 rfl ?_
          refine ww_iadd (pc := 1194) hC dL_law_1194 ?_
          refine ww_xld (pc := 1195) hC hX dL_law_1195 ?_
          refine ww_aload_n (pc := 1196) hC 0 rfl dL_law_1196 rfl ?_
          refine ww_iload_n (pc := 1197) hC 3 rfl dL_law_1197 rfl ?_
          refine ww_iconst (pc := 1198) (v := 4) hC dL_law_1198 rfl ?_
          refine ww_iadd (pc := 1199) hC dL_law_1199 ?_
          refine ww_xld (pc := 1200) hC hX dL_law_1200 ?_
          refine ww_callVw (pc := 1201) (st := [.int v1177.1]) (As := [.int (xs (ww_ix (a18.1 + 1))), .int (xs (ww_ix (a18.1 + 2))), .int (xs (ww_ix (a18.1 + 3))), .int (xs (ww_ix (a18.1 + 4)))]) hC (c_X7_read 62 hMd v1177.2 (xs (ww_ix (a18.1 + 1))) (xs (ww_ix (a18.1 + 2))) (xs (ww_ix (a18.1 + 3))) (xs (ww_ix (a18.1 + 4)))) mm_X7_read mw_1293 (hMd 0 _ rfl) rfl (by omega) (by decide) (Nat.le_of_ble_eq_true rfl) rfl dL_law_1201 (fun v1201 => ?_)
          refine ww_icmp_eq (pc := 1204) (tgt := 1245) hC dL_law_1204 (by decide) ?_ ?_
          · refine ww_iinc (pc := 1245) (v := a18.1 + 5) (lv' := [(3, .int (a18.1 + 5)), (0, .ref b), (1, .ref (ad 0)), (2, .ref (ad 62))]) hC 3 rfl dL_law_1245 rfl (by decide) rfl ?_
            refine ww_goto (pc := 1248) (tgt := 18) hC dL_law_1248 (by decide) ?_
            refine ww_lv [1, 2, 3, 0] rfl ?_
            exact hc18 (a18.1 + 5, v1201.2)
          · refine ww_iconst (pc := 1207) (v := 0) hC dL_law_1207 rfl ?_
            exact ww_lret0 (pc := 1208) hC hL dL_law_1208 ((hr18 _).trans rfl)
        refine ww_tab (pc := 32) (tgt := 1209) hC 36 dL_law_32 (by decide) (by decide) rfl (by decide) ?_ (fun q32_36 => ?_)
        · refine ww_aload_n (pc := 1209) hC 1 rfl dL_law_1209 rfl ?_
          refine ww_callVi (pc := 1210) (st := []) (As := []) hC (c_X6_torn hT a18.2) mm_X6_torn mw_858 (hT 0 _ rfl) rfl (by omega) (by decide) (Nat.le_of_ble_eq_true rfl) rfl dL_law_1210 (fun v1210 => ?_)
          refine ww_aload_n (pc := 1213) hC 2 rfl dL_law_1213 rfl ?_
          refine ww_callVi (pc := 1214) (st := [.int v1210]) (As := []) hC (c_X7_torn 62 hMd a18.2) mm_X7_torn mw_1298 (hMd 0 _ rfl) rfl (by omega) (by decide) (Nat.le_of_ble_eq_true rfl) rfl dL_law_1214 (fun v1214 => ?_)
          refine ww_icmp_eq (pc := 1217) (tgt := 1245) hC dL_law_1217 (by decide) ?_ ?_
          · refine ww_iinc (pc := 1245) (v := a18.1 + 5) (lv' := [(3, .int (a18.1 + 5)), (0, .ref b), (1, .ref (ad 0)), (2, .ref (ad 62))]) hC 3 rfl dL_law_1245 rfl (by decide) rfl ?_
            refine ww_goto (pc := 1248) (tgt := 18) hC dL_law_1248 (by decide) ?_
            refine ww_lv [1, 2, 3, 0] rfl ?_
            exact hc18 (a18.1 + 5, a18.2)
          · refine ww_iconst (pc := 1220) (v := 0) hC dL_law_1220 rfl ?_
            exact ww_lret0 (pc := 1221) hC hL dL_law_1221 ((hr18 _).trans rfl)
        refine ww_tab (pc := 32) (tgt := 1222) hC 37 dL_law_32 (by decide) (by decide) rfl (by decide) ?_ (fun q32_37 => ?_)
        · refine ww_aload_n (pc := 1222) hC 1 rfl dL_law_1222 rfl ?_
          refine ww_aload_n (pc := 1223) hC 0 rfl dL_law_1223 rfl ?_
          refine ww_iload_n (pc := 1224) hC 3 rfl dL_law_1224 rfl ?_
          refine ww_iconst (pc := 1225) (v := 1) hC dL_law_1225 rfl ?_
          refine ww_iadd (pc := 1226) hC dL_law_1226 ?_
          refine ww_xld (pc := 1227) hC hX dL_law_1227 ?_
          refine ww_callVi (pc := 1228) (st := []) (As := [.int (xs (ww_ix (a18.1 + 1)))]) hC (c_X6_count hT a18.2 (xs (ww_ix (a18.1 + 1)))) mm_X6_count mw_862 (hT 0 _ rfl) rfl (by omega) (by decide) (Nat.le_of_ble_eq_true rfl) rfl dL_law_1228 (fun v1228 => ?_)
          refine ww_aload_n (pc := 1231) hC 2 rfl dL_law_1231 rfl ?_
          refine ww_aload_n (pc := 1232) hC 0 rfl dL_law_1232 rfl ?_
          refine ww_iload_n (pc := 1233) hC 3 rfl dL_law_1233 rfl ?_
          refine ww_iconst (pc := 1234) (v := 1) hC dL_law_1234 rfl ?_
          refine ww_iadd (pc := 1235) hC dL_law_1235 ?_
          refine ww_xld (pc := 1236) hC hX dL_law_1236 ?_
          refine ww_callVi (pc := 1237) (st := [.int v1228]) (As := [.int (xs (ww_ix (a18.1 + 1)))]) hC (c_X7_count 62 hMd a18.2 (xs (ww_ix (a18.1 + 1)))) mm_X7_count mw_1302 (hMd 0 _ rfl) rfl (by omega) (by decide) (Nat.le_of_ble_eq_true rfl) rfl dL_law_1237 (fun v1237 => ?_)
          refine ww_icmp_eq (pc := 1240) (tgt := 1245) hC dL_law_1240 (by decide) ?_ ?_
          · refine ww_iinc (pc := 1245) (v := a18.1 + 5) (lv' := [(3, .int (a18.1 + 5)), (0, .ref b), (1, .ref (ad 0)), (2, .ref (ad 62))]) hC 3 rfl dL_law_1245 rfl (by decide) rfl ?_
            refine ww_goto (pc := 1248) (tgt := 18) hC dL_law_1248 (by decide) ?_
            refine ww_lv [1, 2, 3, 0] rfl ?_
            exact hc18 (a18.1 + 5, a18.2)
          · refine ww_iconst (pc := 1243) (v := 0) hC dL_law_1243 rfl ?_
            exact ww_lret0 (pc := 1244) hC hL dL_law_1244 ((hr18 _).trans rfl)
        have z32_0 : ((xs (ww_ix a18.1)) &&& 63).toInt ≠ (0 : Int) := ww_nei q32_0
        have z32_1 : ((xs (ww_ix a18.1)) &&& 63).toInt ≠ (1 : Int) := ww_nei q32_1
        have z32_2 : ((xs (ww_ix a18.1)) &&& 63).toInt ≠ (2 : Int) := ww_nei q32_2
        have z32_3 : ((xs (ww_ix a18.1)) &&& 63).toInt ≠ (3 : Int) := ww_nei q32_3
        have z32_4 : ((xs (ww_ix a18.1)) &&& 63).toInt ≠ (4 : Int) := ww_nei q32_4
        have z32_5 : ((xs (ww_ix a18.1)) &&& 63).toInt ≠ (5 : Int) := ww_nei q32_5
        have z32_6 : ((xs (ww_ix a18.1)) &&& 63).toInt ≠ (6 : Int) := ww_nei q32_6
        have z32_7 : ((xs (ww_ix a18.1)) &&& 63).toInt ≠ (7 : Int) := ww_nei q32_7
        have z32_8 : ((xs (ww_ix a18.1)) &&& 63).toInt ≠ (8 : Int) := ww_nei q32_8
        have z32_9 : ((xs (ww_ix a18.1)) &&& 63).toInt ≠ (9 : Int) := ww_nei q32_9
        have z32_10 : ((xs (ww_ix a18.1)) &&& 63).toInt ≠ (10 : Int) := ww_nei q32_10
        have z32_11 : ((xs (ww_ix a18.1)) &&& 63).toInt ≠ (11 : Int) := ww_nei q32_11
        have z32_12 : ((xs (ww_ix a18.1)) &&& 63).toInt ≠ (12 : Int) := ww_nei q32_12
        have z32_13 : ((xs (ww_ix a18.1)) &&& 63).toInt ≠ (13 : Int) := ww_nei q32_13
        have z32_14 : ((xs (ww_ix a18.1)) &&& 63).toInt ≠ (14 : Int) := ww_nei q32_14
        have z32_15 : ((xs (ww_ix a18.1)) &&& 63).toInt ≠ (15 : Int) := ww_nei q32_15
        have z32_16 : ((xs (ww_ix a18.1)) &&& 63).toInt ≠ (16 : Int) := ww_nei q32_16
        have z32_17 : ((xs (ww_ix a18.1)) &&& 63).toInt ≠ (17 : Int) := ww_nei q32_17
        have z32_18 : ((xs (ww_ix a18.1)) &&& 63).toInt ≠ (18 : Int) := ww_nei q32_18
        have z32_19 : ((xs (ww_ix a18.1)) &&& 63).toInt ≠ (19 : Int) := ww_nei q32_19
        have z32_20 : ((xs (ww_ix a18.1)) &&& 63).toInt ≠ (20 : Int) := ww_nei q32_20
        have z32_21 : ((xs (ww_ix a18.1)) &&& 63).toInt ≠ (21 : Int) := ww_nei q32_21
        have z32_22 : ((xs (ww_ix a18.1)) &&& 63).toInt ≠ (22 : Int) := ww_nei q32_22
        have z32_23 : ((xs (ww_ix a18.1)) &&& 63).toInt ≠ (23 : Int) := ww_nei q32_23
        have z32_24 : ((xs (ww_ix a18.1)) &&& 63).toInt ≠ (24 : Int) := ww_nei q32_24
        have z32_25 : ((xs (ww_ix a18.1)) &&& 63).toInt ≠ (25 : Int) := ww_nei q32_25
        have z32_26 : ((xs (ww_ix a18.1)) &&& 63).toInt ≠ (26 : Int) := ww_nei q32_26
        have z32_27 : ((xs (ww_ix a18.1)) &&& 63).toInt ≠ (27 : Int) := ww_nei q32_27
        have z32_28 : ((xs (ww_ix a18.1)) &&& 63).toInt ≠ (28 : Int) := ww_nei q32_28
        have z32_29 : ((xs (ww_ix a18.1)) &&& 63).toInt ≠ (29 : Int) := ww_nei q32_29
        have z32_30 : ((xs (ww_ix a18.1)) &&& 63).toInt ≠ (30 : Int) := ww_nei q32_30
        have z32_31 : ((xs (ww_ix a18.1)) &&& 63).toInt ≠ (31 : Int) := ww_nei q32_31
        have z32_32 : ((xs (ww_ix a18.1)) &&& 63).toInt ≠ (32 : Int) := ww_nei q32_32
        have z32_33 : ((xs (ww_ix a18.1)) &&& 63).toInt ≠ (33 : Int) := ww_nei q32_33
        have z32_34 : ((xs (ww_ix a18.1)) &&& 63).toInt ≠ (34 : Int) := ww_nei q32_34
        have z32_35 : ((xs (ww_ix a18.1)) &&& 63).toInt ≠ (35 : Int) := ww_nei q32_35
        have z32_36 : ((xs (ww_ix a18.1)) &&& 63).toInt ≠ (36 : Int) := ww_nei q32_36
        have z32_37 : ((xs (ww_ix a18.1)) &&& 63).toInt ≠ (37 : Int) := ww_nei q32_37
        refine ww_tabD (pc := 32) (tgt := 1245) hC dL_law_32 (by omega) (by decide) ?_
        refine ww_iinc (pc := 1245) (v := a18.1 + 5) (lv' := [(3, .int (a18.1 + 5)), (0, .ref b), (1, .ref (ad 0)), (2, .ref (ad 62))]) hC 3 rfl dL_law_1245 rfl (by decide) rfl ?_
        refine ww_goto (pc := 1248) (tgt := 18) hC dL_law_1248 (by decide) ?_
        refine ww_lv [1, 2, 3, 0] rfl ?_
        exact hc18 (a18.1 + 5, a18.2)
  unfold f_L_law
  refine ww_iconst (pc := 16) (v := 0) hC dL_law_16 rfl ?_
  refine ww_istore_n (pc := 17) (lv' := [(3, .int 0), (2, .ref (ad 62)), (1, .ref (ad 0)), (0, .ref b)]) hC dL_law_17 rfl (by decide) rfl ?_
  refine ww_lv [3, 2, 1, 0] rfl ?_
  exact hJ18 σ 0
