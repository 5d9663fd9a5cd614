set_option maxRecDepth 100000 in
set_option maxHeartbeats 4000000 in
theorem w_L_law_b352 {X : zX} {G : zG} {b : Nat} (C : zC X G b_L_law "GateRoadsLaw" 15 (some .boolean) 10 382) {scr : Nat → Int32} {N : Nat} {v2 : Int} (hN : zLaw X G b N scr) (r2 : zR v2) {Q : Int → zM → Prop} {k29 : zM → Int → Prop} (hk29 : ∀ (σ : zM) (v3 : Int), zRM σ → zR v3 → k29 σ v3 → zJ X G (lw_Z (xb X) #[Value.ref b] (xs X)) 15 29 [(0, .ref b), (1, .ref (gad G 54)), (2, .int (zI v2)), (3, .int (zI v3))] [] σ) (σ : zM) (v3 : Int) (hσ : zRM σ) (r3 : zR v3) (h : wp_L_law_b352 scr N v2 k29 Q σ v3) : zJ X G (lw_Z (xb X) #[Value.ref b] (xs X)) 15 352 [(0, .ref b), (1, .ref (gad G 54)), (2, .int (zI v2)), (3, .int (zI v3))] [] σ := by
  unfold wp_L_law_b352 at h
  refine j_aload_n C d_L_law_352 1 rfl rfl ?_
  refine j_callS C d_L_law_353 ml_L_114 ms_L_areRight (c_L_areRight (xl X) (gD G) (gad G) (gca G)  hσ h) rfl rfl rfl rfl rfl (fun z20 σ21 rz20 hσ21 h => ?_)
  refine j_if_ne (tgt := 361) C d_L_law_356 rfl rz20 (fun c => ?_) (fun c => ?_)
  · have h := h.1 c
    obtain ⟨g22, h⟩ := h
    refine j_iinc (L' := [(3, .int (zI (v3 + 1))), (0, .ref b), (1, .ref (gad G 54)), (2, .int (zI v2))]) C d_L_law_361 3 rfl rfl rfl ?_
    refine j_goto (tgt := 29) C d_L_law_364 rfl ?_
    refine j_sub (L' := [(0, .ref b), (1, .ref (gad G 54)), (2, .int (zI v2)), (3, .int (zI (v3 + 1)))]) [1, 2, 3, 0] rfl ?_
    exact hk29 σ21 (v3 + 1) hσ21 g22 h
  · have h := h.2 c
    refine j_iconst C d_L_law_359 ?_
    exact j_lawret C hN.2.1 d_L_law_360 h
set_option maxRecDepth 100000 in
set_option maxHeartbeats 4000000 in
theorem w_L_law_b314 {X : zX} {G : zG} {b : Nat} (C : zC X G b_L_law "GateRoadsLaw" 15 (some .boolean) 10 382) {scr : Nat → Int32} {N : Nat} {v2 : Int} (hN : zLaw X G b N scr) (r2 : zR v2) {Q : Int → zM → Prop} {k29 : zM → Int → Prop} (hk29 : ∀ (σ : zM) (v3 : Int), zRM σ → zR v3 → k29 σ v3 → zJ X G (lw_Z (xb X) #[Value.ref b] (xs X)) 15 29 [(0, .ref b), (1, .ref (gad G 54)), (2, .int (zI v2)), (3, .int (zI v3))] [] σ) (σ : zM) (v3 : Int) (v4 : Int) (v6 : Int) (v7 : Int) (hσ : zRM σ) (r3 : zR v3) (r4 : zR v4) (r6 : zR v6) (r7 : zR v7) (h : wp_L_law_b314 scr N v2 k29 Q σ v3 v4 v6 v7) : zJ X G (lw_Z (xb X) #[Value.ref b] (xs X)) 15 314 [(0, .ref b), (1, .ref (gad G 54)), (2, .int (zI v2)), (3, .int (zI v3)), (4, .int (zI v4)), (6, .int (zI v6)), (7, .int (zI v7))] [] σ := by
  unfold wp_L_law_b314 at h
  refine j_iload C d_L_law_314 4 rfl ?_
  refine j_bipush C d_L_law_316 rfl ?_
  refine j_iand C d_L_law_318 ?_
  refine j_bipush C d_L_law_319 rfl ?_
  refine j_icmp_ne (tgt := 352) C d_L_law_321 rfl (zAnd_rg _ _) (zR_of (x := 64) rfl) (fun c => ?_) (fun c => ?_)
  · have h := h.1 c
    refine j_sub (L' := [(0, .ref b), (1, .ref (gad G 54)), (2, .int (zI v2)), (3, .int (zI v3))]) [0, 1, 2, 3] rfl ?_
    refine w_L_law_b352 C hN r2 hk29 σ v3 hσ r3 h
  · have h := h.2 c
    refine j_aload_n C d_L_law_324 1 rfl rfl ?_
    refine j_iload C d_L_law_325 5 rfl ?_
    refine j_iconst C d_L_law_327 ?_
    refine j_ishr C d_L_law_328 ?_
    refine j_iconst C d_L_law_329 ?_
    refine j_callS C d_L_law_330 ml_L_58 ms_L_up (c_L_up (xl X) (gD G) (gad G) (gca G) (v0 := zShr v6 4) (v1 := 4) hσ (zShr_rg _ _) (zR_of (x := 4) rfl) h) rfl rfl rfl rfl rfl (fun z23 σ24 rz23 hσ24 h => ?_)
    obtain ⟨ez23, h⟩ := h; subst ez23
    refine j_iconst C d_L_law_333 ?_
    refine j_iconst C d_L_law_334 ?_
    refine j_iload C d_L_law_335 6 rfl ?_
    refine j_iconst C d_L_law_337 ?_
    refine j_ishr C d_L_law_338 ?_
    refine j_sipush C d_L_law_339 rfl ?_
    refine j_callS C d_L_law_342 ml_L_58 ms_L_up (c_L_up (xl X) (gD G) (gad G) (gca G) (v0 := zShr v7 4) (v1 := 200) hσ (zShr_rg _ _) (zR_of (x := 200) rfl) h) rfl rfl rfl rfl rfl (fun z25 σ26 rz25 hσ26 h => ?_)
    obtain ⟨ez25, h⟩ := h; subst ez25
    refine j_iadd C d_L_law_345 ?_
    obtain ⟨g27, h⟩ := h
    refine j_callS C d_L_law_346 ml_L_110 ms_L_isDue (c_L_isDue (xl X) (gD G) (gad G) (gca G) (v1 := z23) (v2 := 0) (v3 := 1 + z25) hσ rz23 (zR_of (x := 0) rfl) g27 h) rfl rfl rfl rfl rfl (fun z28 σ29 rz28 hσ29 h => ?_)
    refine j_if_eq (tgt := 359) C d_L_law_349 rfl rz28 (fun c => ?_) (fun c => ?_)
    · have h := h.1 c
      refine j_iconst C d_L_law_359 ?_
      exact j_lawret C hN.2.1 d_L_law_360 h
    · have h := h.2 c
      refine j_sub (L' := [(0, .ref b), (1, .ref (gad G 54)), (2, .int (zI v2)), (3, .int (zI v3))]) [0, 1, 2, 3] rfl ?_
      refine w_L_law_b352 C hN r2 hk29 σ29 v3 hσ29 r3 h
set_option maxRecDepth 100000 in
set_option maxHeartbeats 4000000 in
theorem w_L_law_b277 {X : zX} {G : zG} {b : Nat} (C : zC X G b_L_law "GateRoadsLaw" 15 (some .boolean) 10 382) {scr : Nat → Int32} {N : Nat} {v2 : Int} (hN : zLaw X G b N scr) (r2 : zR v2) {Q : Int → zM → Prop} {k29 : zM → Int → Prop} (hk29 : ∀ (σ : zM) (v3 : Int), zRM σ → zR v3 → k29 σ v3 → zJ X G (lw_Z (xb X) #[Value.ref b] (xs X)) 15 29 [(0, .ref b), (1, .ref (gad G 54)), (2, .int (zI v2)), (3, .int (zI v3))] [] σ) (σ : zM) (v3 : Int) (v4 : Int) (v6 : Int) (v7 : Int) (hσ : zRM σ) (r3 : zR v3) (r4 : zR v4) (r6 : zR v6) (r7 : zR v7) (h : wp_L_law_b277 scr N v2 k29 Q σ v3 v4 v6 v7) : zJ X G (lw_Z (xb X) #[Value.ref b] (xs X)) 15 277 [(0, .ref b), (1, .ref (gad G 54)), (2, .int (zI v2)), (3, .int (zI v3)), (4, .int (zI v4)), (6, .int (zI v6)), (7, .int (zI v7))] [] σ := by
  unfold wp_L_law_b277 at h
  refine j_iload C d_L_law_277 4 rfl ?_
  refine j_bipush C d_L_law_279 rfl ?_
  refine j_iand C d_L_law_281 ?_
  refine j_bipush C d_L_law_282 rfl ?_
  refine j_icmp_ne (tgt := 314) C d_L_law_284 rfl (zAnd_rg _ _) (zR_of (x := 32) rfl) (fun c => ?_) (fun c => ?_)
  · have h := h.1 c
    refine w_L_law_b314 C hN r2 hk29 σ v3 v4 v6 v7 hσ r3 r4 r6 r7 h
  · have h := h.2 c
    refine j_aload_n C d_L_law_287 1 rfl rfl ?_
    refine j_iload C d_L_law_288 5 rfl ?_
    refine j_iconst C d_L_law_290 ?_
    refine j_ishr C d_L_law_291 ?_
    refine j_iconst C d_L_law_292 ?_
    refine j_callS C d_L_law_293 ml_L_58 ms_L_up (c_L_up (xl X) (gD G) (gad G) (gca G) (v0 := zShr v6 4) (v1 := 4) hσ (zShr_rg _ _) (zR_of (x := 4) rfl) h) rfl rfl rfl rfl rfl (fun z30 σ31 rz30 hσ31 h => ?_)
    obtain ⟨ez30, h⟩ := h; subst ez30
    refine j_iload C d_L_law_296 6 rfl ?_
    refine j_iconst C d_L_law_298 ?_
    refine j_ishr C d_L_law_299 ?_
    refine j_bipush C d_L_law_300 rfl ?_
    refine j_callS C d_L_law_302 ml_L_58 ms_L_up (c_L_up (xl X) (gD G) (gad G) (gca G) (v0 := zShr v7 4) (v1 := 6) hσ (zShr_rg _ _) (zR_of (x := 6) rfl) h) rfl rfl rfl rfl rfl (fun z32 σ33 rz32 hσ33 h => ?_)
    obtain ⟨ez32, h⟩ := h; subst ez32
    refine j_iconst C d_L_law_305 ?_
    refine j_callS C d_L_law_306 ml_L_110 ms_L_isDue (c_L_isDue (xl X) (gD G) (gad G) (gca G) (v1 := z30) (v2 := z32) (v3 := 0) hσ rz30 rz32 (zR_of (x := 0) rfl) h) rfl rfl rfl rfl rfl (fun z34 σ35 rz34 hσ35 h => ?_)
    refine j_if_ne (tgt := 314) C d_L_law_309 rfl rz34 (fun c => ?_) (fun c => ?_)
    · have h := h.1 c
      refine w_L_law_b314 C hN r2 hk29 σ35 v3 v4 v6 v7 hσ35 r3 r4 r6 r7 h
    · have h := h.2 c
      refine j_iconst C d_L_law_312 ?_
      exact j_lawret C hN.2.1 d_L_law_313 h
set_option maxRecDepth 100000 in
set_option maxHeartbeats 4000000 in
theorem w_L_law_b258 {X : zX} {G : zG} {b : Nat} (C : zC X G b_L_law "GateRoadsLaw" 15 (some .boolean) 10 382) {scr : Nat → Int32} {N : Nat} {v2 : Int} (hN : zLaw X G b N scr) (r2 : zR v2) {Q : Int → zM → Prop} {k29 : zM → Int → Prop} (hk29 : ∀ (σ : zM) (v3 : Int), zRM σ → zR v3 → k29 σ v3 → zJ X G (lw_Z (xb X) #[Value.ref b] (xs X)) 15 29 [(0, .ref b), (1, .ref (gad G 54)), (2, .int (zI v2)), (3, .int (zI v3))] [] σ) (σ : zM) (v3 : Int) (v4 : Int) (v6 : Int) (v7 : Int) (hσ : zRM σ) (r3 : zR v3) (r4 : zR v4) (r6 : zR v6) (r7 : zR v7) (h : wp_L_law_b258 scr N v2 k29 Q σ v3 v4 v6 v7) : zJ X G (lw_Z (xb X) #[Value.ref b] (xs X)) 15 258 [(0, .ref b), (1, .ref (gad G 54)), (2, .int (zI v2)), (3, .int (zI v3)), (4, .int (zI v4)), (6, .int (zI v6)), (7, .int (zI v7))] [] σ := by
  unfold wp_L_law_b258 at h
  refine j_iload C d_L_law_258 4 rfl ?_
  refine j_bipush C d_L_law_260 rfl ?_
  refine j_iand C d_L_law_262 ?_
  refine j_if_ne (tgt := 277) C d_L_law_263 rfl (zAnd_rg _ _) (fun c => ?_) (fun c => ?_)
  · have h := h.1 c
    refine w_L_law_b277 C hN r2 hk29 σ v3 v4 v6 v7 hσ r3 r4 r6 r7 h
  · have h := h.2 c
    refine j_aload_n C d_L_law_266 1 rfl rfl ?_
    refine j_iload C d_L_law_267 5 rfl ?_
    refine j_iload C d_L_law_269 6 rfl ?_
    refine j_callS C d_L_law_271 ml_L_106 ms_L_isSaved (c_L_isSaved (xl X) (gD G) (gad G) (gca G) (v1 := v6) (v2 := v7) hσ r6 r7 h) rfl rfl rfl rfl rfl (fun z36 σ37 rz36 hσ37 h => ?_)
    refine j_if_eq (tgt := 312) C d_L_law_274 rfl rz36 (fun c => ?_) (fun c => ?_)
    · have h := h.1 c
      refine j_iconst C d_L_law_312 ?_
      exact j_lawret C hN.2.1 d_L_law_313 h
    · have h := h.2 c
      refine w_L_law_b277 C hN r2 hk29 σ37 v3 v4 v6 v7 hσ37 r3 r4 r6 r7 h
set_option maxRecDepth 100000 in
set_option maxHeartbeats 4000000 in
theorem w_L_law_b218 {X : zX} {G : zG} {b : Nat} (C : zC X G b_L_law "GateRoadsLaw" 15 (some .boolean) 10 382) {scr : Nat → Int32} {N : Nat} {v2 : Int} (hN : zLaw X G b N scr) (r2 : zR v2) {Q : Int → zM → Prop} {k29 : zM → Int → Prop} (hk29 : ∀ (σ : zM) (v3 : Int), zRM σ → zR v3 → k29 σ v3 → zJ X G (lw_Z (xb X) #[Value.ref b] (xs X)) 15 29 [(0, .ref b), (1, .ref (gad G 54)), (2, .int (zI v2)), (3, .int (zI v3))] [] σ) (σ : zM) (v3 : Int) (v4 : Int) (v5 : Int) (v6 : Int) (v7 : Int) (v8 : Int64) (v11 : Int) (v12 : Int) (s0 : Int) (s1 : Int) (hσ : zRM σ) (r3 : zR v3) (r4 : zR v4) (r5 : zR v5) (r6 : zR v6) (r7 : zR v7) (r11 : zR v11) (r12 : zR v12) (rs0 : zR s0) (rs1 : zR s1) (h : wp_L_law_b218 scr N v2 k29 Q σ v3 v4 v5 v6 v7 v8 v11 v12 s0 s1) : zJ X G (lw_Z (xb X) #[Value.ref b] (xs X)) 15 218 [(0, .ref b), (1, .ref (gad G 54)), (2, .int (zI v2)), (3, .int (zI v3)), (4, .int (zI v4)), (5, .int (zI v5)), (6, .int (zI v6)), (7, .int (zI v7)), (8, .long v8), (11, .int (zI v11)), (12, .int (zI v12))] [.int (zI s1), .int (zI s0)] σ := by
  unfold wp_L_law_b218 at h
  refine j_icmp_ne (tgt := 256) C d_L_law_218 rfl rs0 rs1 (fun c => ?_) (fun c => ?_)
  · have h := h.1 c
    refine j_iconst C d_L_law_256 ?_
    exact j_lawret C hN.2.1 d_L_law_257 h
  · have h := h.2 c
    refine j_aload_n C d_L_law_221 1 rfl rfl ?_
    refine j_iconst C d_L_law_222 ?_
    refine j_callV C d_L_law_223 ml_L_13 mi_X_count (c_X_count (xl X) (gD G) (gad G) (gca G) (v1 := 3) hσ (zR_of (x := 3) rfl) h) sh_54 rfl rfl rfl rfl rfl rfl rfl (fun z18 σ19 rz18 hσ19 h => ?_)
    obtain ⟨ez18, h⟩ := h; subst ez18
    refine j_iload C d_L_law_226 9 rfl ?_
    refine j_icmp_ne (tgt := 256) C d_L_law_228 rfl rz18 r11 (fun c => ?_) (fun c => ?_)
    · have h := h.1 c
      refine j_iconst C d_L_law_256 ?_
      exact j_lawret C hN.2.1 d_L_law_257 h
    · have h := h.2 c
      refine j_iload C d_L_law_231 4 rfl ?_
      refine j_bipush C d_L_law_233 rfl ?_
      refine j_iand C d_L_law_235 ?_
      refine j_if_ne (tgt := 258) C d_L_law_236 rfl (zAnd_rg _ _) (fun c => ?_) (fun c => ?_)
      · have h := h.1 c
        refine j_sub (L' := [(0, .ref b), (1, .ref (gad G 54)), (2, .int (zI v2)), (3, .int (zI v3)), (4, .int (zI v4)), (6, .int (zI v6)), (7, .int (zI v7))]) [0, 1, 2, 3, 4, 6, 7] rfl ?_
        refine w_L_law_b258 C hN r2 hk29 σ v3 v4 v6 v7 hσ r3 r4 r6 r7 h
      · have h := h.2 c
        refine j_aload_n C d_L_law_239 1 rfl rfl ?_
        refine j_iload C d_L_law_240 5 rfl ?_
        refine j_iload C d_L_law_242 6 rfl ?_
        refine j_iload C d_L_law_244 7 rfl ?_
        refine j_iload C d_L_law_246 10 rfl ?_
        refine j_lload C d_L_law_248 8 rfl ?_
        refine j_callS C d_L_law_250 ml_L_102 ms_L_isUndone (c_L_isUndone (xl X) (gD G) (gad G) (gca G) (v1 := v5) (v2 := v6) (v3 := v7) (v4 := v12) (v5 := v8) hσ r5 r6 r7 r12 h) rfl rfl rfl rfl rfl (fun z38 σ39 rz38 hσ39 h => ?_)
        refine j_if_ne (tgt := 258) C d_L_law_253 rfl rz38 (fun c => ?_) (fun c => ?_)
        · have h := h.1 c
          refine j_sub (L' := [(0, .ref b), (1, .ref (gad G 54)), (2, .int (zI v2)), (3, .int (zI v3)), (4, .int (zI v4)), (6, .int (zI v6)), (7, .int (zI v7))]) [0, 1, 2, 3, 4, 6, 7] rfl ?_
          refine w_L_law_b258 C hN r2 hk29 σ39 v3 v4 v6 v7 hσ39 r3 r4 r6 r7 h
        · have h := h.2 c
          refine j_iconst C d_L_law_256 ?_
          exact j_lawret C hN.2.1 d_L_law_257 h
set_option maxRecDepth 100000 in
set_option maxHeartbeats 4000000 in
theorem w_L_law_b194 {X : zX} {G : zG} {b : Nat} (C : zC X G b_L_law "GateRoadsLaw" 15 (some .boolean) 10 382) {scr : Nat → Int32} {N : Nat} {v2 : Int} (hN : zLaw X G b N scr) (r2 : zR v2) {Q : Int → zM → Prop} {k29 : zM → Int → Prop} (hk29 : ∀ (σ : zM) (v3 : Int), zRM σ → zR v3 → k29 σ v3 → zJ X G (lw_Z (xb X) #[Value.ref b] (xs X)) 15 29 [(0, .ref b), (1, .ref (gad G 54)), (2, .int (zI v2)), (3, .int (zI v3))] [] σ) (σ : zM) (v3 : Int) (v4 : Int) (v6 : Int) (v7 : Int) (hσ : zRM σ) (r3 : zR v3) (r4 : zR v4) (r6 : zR v6) (r7 : zR v7) (h : wp_L_law_b194 scr N v2 k29 Q σ v3 v4 v6 v7) : zJ X G (lw_Z (xb X) #[Value.ref b] (xs X)) 15 194 [(0, .ref b), (1, .ref (gad G 54)), (2, .int (zI v2)), (3, .int (zI v3)), (4, .int (zI v4)), (6, .int (zI v6)), (7, .int (zI v7))] [] σ := by
  unfold wp_L_law_b194 at h
  refine j_goto (tgt := 258) C d_L_law_194 rfl ?_
  refine w_L_law_b258 C hN r2 hk29 σ v3 v4 v6 v7 hσ r3 r4 r6 r7 h
set_option maxRecDepth 100000 in
set_option maxHeartbeats 4000000 in
theorem w_L_law_b148 {X : zX} {G : zG} {b : Nat} (C : zC X G b_L_law "GateRoadsLaw" 15 (some .boolean) 10 382) {scr : Nat → Int32} {N : Nat} {v2 : Int} (hN : zLaw X G b N scr) (r2 : zR v2) {Q : Int → zM → Prop} {k29 : zM → Int → Prop} (hk29 : ∀ (σ : zM) (v3 : Int), zRM σ → zR v3 → k29 σ v3 → zJ X G (lw_Z (xb X) #[Value.ref b] (xs X)) 15 29 [(0, .ref b), (1, .ref (gad G 54)), (2, .int (zI v2)), (3, .int (zI v3))] [] σ) (σ : zM) (v3 : Int) (v4 : Int) (v6 : Int) (v7 : Int) (v11 : Int) (v13 : Int) (s0 : Int) (hσ : zRM σ) (r3 : zR v3) (r4 : zR v4) (r6 : zR v6) (r7 : zR v7) (r11 : zR v11) (r13 : zR v13) (rs0 : zR s0) (h : wp_L_law_b148 scr N v2 k29 Q σ v3 v4 v6 v7 v11 v13 s0) : zJ X G (lw_Z (xb X) #[Value.ref b] (xs X)) 15 148 [(0, .ref b), (1, .ref (gad G 54)), (2, .int (zI v2)), (3, .int (zI v3)), (4, .int (zI v4)), (6, .int (zI v6)), (7, .int (zI v7)), (11, .int (zI v11)), (13, .int (zI v13))] [.int (zI s0)] σ := by
  unfold wp_L_law_b148 at h
  refine j_istore (L' := [(14, .int (zI s0)), (0, .ref b), (1, .ref (gad G 54)), (2, .int (zI v2)), (3, .int (zI v3)), (4, .int (zI v4)), (6, .int (zI v6)), (7, .int (zI v7)), (11, .int (zI v11)), (13, .int (zI v13))]) C d_L_law_148 rfl rfl ?_
  refine j_iload C d_L_law_150 0 rfl ?_
  refine j_if_eq (tgt := 192) C d_L_law_152 rfl rs0 (fun c => ?_) (fun c => ?_)
  · have h := h.1 c
    refine j_iconst C d_L_law_192 ?_
    exact j_lawret C hN.2.1 d_L_law_193 h
  · have h := h.2 c
    refine j_iload C d_L_law_155 9 rfl ?_
    refine j_if_eq (tgt := 182) C d_L_law_157 rfl r13 (fun c => ?_) (fun c => ?_)
    · have h := h.1 c
      refine j_aload_n C d_L_law_182 2 rfl rfl ?_
      refine j_iconst C d_L_law_183 ?_
      refine j_callV C d_L_law_184 ml_L_13 mi_X_count (c_X_count (xl X) (gD G) (gad G) (gca G) (v1 := 3) hσ (zR_of (x := 3) rfl) h) sh_54 rfl rfl rfl rfl rfl rfl rfl (fun z43 σ44 rz43 hσ44 h => ?_)
      obtain ⟨ez43, h⟩ := h; subst ez43
      refine j_iload C d_L_law_187 8 rfl ?_
      refine j_icmp_eq (tgt := 194) C d_L_law_189 rfl rz43 r11 (fun c => ?_) (fun c => ?_)
      · have h := h.1 c
        refine j_sub (L' := [(0, .ref b), (1, .ref (gad G 54)), (2, .int (zI v2)), (3, .int (zI v3)), (4, .int (zI v4)), (6, .int (zI v6)), (7, .int (zI v7))]) [1, 2, 3, 4, 5, 6, 7] rfl ?_
        refine w_L_law_b194 C hN r2 hk29 σ v3 v4 v6 v7 hσ r3 r4 r6 r7 h
      · have h := h.2 c
        refine j_iconst C d_L_law_192 ?_
        exact j_lawret C hN.2.1 d_L_law_193 h
    · have h := h.2 c
      refine j_aload_n C d_L_law_160 2 rfl rfl ?_
      refine j_iconst C d_L_law_161 ?_
      refine j_callV C d_L_law_162 ml_L_13 mi_X_count (c_X_count (xl X) (gD G) (gad G) (gca G) (v1 := 3) hσ (zR_of (x := 3) rfl) h) sh_54 rfl rfl rfl rfl rfl rfl rfl (fun z45 σ46 rz45 hσ46 h => ?_)
      obtain ⟨ez45, h⟩ := h; subst ez45
      refine j_iconst C d_L_law_165 ?_
      refine j_icmp_lt (tgt := 192) C d_L_law_166 rfl rz45 (zR_of (x := 1) rfl) (fun c => ?_) (fun c => ?_)
      · have h := h.1 c
        refine j_iconst C d_L_law_192 ?_
        exact j_lawret C hN.2.1 d_L_law_193 h
      · have h := h.2 c
        refine j_aload_n C d_L_law_169 2 rfl rfl ?_
        refine j_iconst C d_L_law_170 ?_
        refine j_callV C d_L_law_171 ml_L_13 mi_X_count (c_X_count (xl X) (gD G) (gad G) (gca G) (v1 := 3) hσ (zR_of (x := 3) rfl) h) sh_54 rfl rfl rfl rfl rfl rfl rfl (fun z47 σ48 rz47 hσ48 h => ?_)
        obtain ⟨ez47, h⟩ := h; subst ez47
        refine j_bipush C d_L_law_174 rfl ?_
        refine j_icmp_le (tgt := 194) C d_L_law_176 rfl rz47 (zR_of (x := 7) rfl) (fun c => ?_) (fun c => ?_)
        · have h := h.1 c
          refine j_sub (L' := [(0, .ref b), (1, .ref (gad G 54)), (2, .int (zI v2)), (3, .int (zI v3)), (4, .int (zI v4)), (6, .int (zI v6)), (7, .int (zI v7))]) [1, 2, 3, 4, 5, 6, 7] rfl ?_
          refine w_L_law_b194 C hN r2 hk29 σ v3 v4 v6 v7 hσ r3 r4 r6 r7 h
        · have h := h.2 c
          refine j_goto (tgt := 192) C d_L_law_179 rfl ?_
          refine j_iconst C d_L_law_192 ?_
          exact j_lawret C hN.2.1 d_L_law_193 h
set_option maxRecDepth 100000 in
set_option maxHeartbeats 4000000 in
theorem w_L_law_b147 {X : zX} {G : zG} {b : Nat} (C : zC X G b_L_law "GateRoadsLaw" 15 (some .boolean) 10 382) {scr : Nat → Int32} {N : Nat} {v2 : Int} (hN : zLaw X G b N scr) (r2 : zR v2) {Q : Int → zM → Prop} {k29 : zM → Int → Prop} (hk29 : ∀ (σ : zM) (v3 : Int), zRM σ → zR v3 → k29 σ v3 → zJ X G (lw_Z (xb X) #[Value.ref b] (xs X)) 15 29 [(0, .ref b), (1, .ref (gad G 54)), (2, .int (zI v2)), (3, .int (zI v3))] [] σ) (σ : zM) (v3 : Int) (v4 : Int) (v6 : Int) (v7 : Int) (v11 : Int) (v13 : Int) (hσ : zRM σ) (r3 : zR v3) (r4 : zR v4) (r6 : zR v6) (r7 : zR v7) (r11 : zR v11) (r13 : zR v13) (h : wp_L_law_b147 scr N v2 k29 Q σ v3 v4 v6 v7 v11 v13) : zJ X G (lw_Z (xb X) #[Value.ref b] (xs X)) 15 147 [(0, .ref b), (1, .ref (gad G 54)), (2, .int (zI v2)), (3, .int (zI v3)), (4, .int (zI v4)), (6, .int (zI v6)), (7, .int (zI v7)), (11, .int (zI v11)), (13, .int (zI v13))] [] σ := by
  unfold wp_L_law_b147 at h
  refine j_iconst C d_L_law_147 ?_
  refine w_L_law_b148 C hN r2 hk29 σ v3 v4 v6 v7 v11 v13 0 hσ r3 r4 r6 r7 r11 r13 (zR_of (x := 0) rfl) h
set_option maxRecDepth 100000 in
set_option maxHeartbeats 4000000 in
theorem w_L_law_b121 {X : zX} {G : zG} {b : Nat} (C : zC X G b_L_law "GateRoadsLaw" 15 (some .boolean) 10 382) {scr : Nat → Int32} {N : Nat} {v2 : Int} (hN : zLaw X G b N scr) (r2 : zR v2) {Q : Int → zM → Prop} {k29 : zM → Int → Prop} (hk29 : ∀ (σ : zM) (v3 : Int), zRM σ → zR v3 → k29 σ v3 → zJ X G (lw_Z (xb X) #[Value.ref b] (xs X)) 15 29 [(0, .ref b), (1, .ref (gad G 54)), (2, .int (zI v2)), (3, .int (zI v3))] [] σ) (σ : zM) (v3 : Int) (v4 : Int) (v6 : Int) (v7 : Int) (v8 : Int64) (v10 : Int) (v11 : Int) (s0 : Int) (hσ : zRM σ) (r3 : zR v3) (r4 : zR v4) (r6 : zR v6) (r7 : zR v7) (r10 : zR v10) (r11 : zR v11) (rs0 : zR s0) (h : wp_L_law_b121 scr N v2 k29 Q σ v3 v4 v6 v7 v8 v10 v11 s0) : zJ X G (lw_Z (xb X) #[Value.ref b] (xs X)) 15 121 [(0, .ref b), (1, .ref (gad G 54)), (2, .int (zI v2)), (3, .int (zI v3)), (4, .int (zI v4)), (6, .int (zI v6)), (7, .int (zI v7)), (8, .long v8), (10, .int (zI v10)), (11, .int (zI v11))] [.int (zI s0)] σ := by
  unfold wp_L_law_b121 at h
  refine j_istore (L' := [(13, .int (zI s0)), (0, .ref b), (1, .ref (gad G 54)), (2, .int (zI v2)), (3, .int (zI v3)), (4, .int (zI v4)), (6, .int (zI v6)), (7, .int (zI v7)), (8, .long v8), (10, .int (zI v10)), (11, .int (zI v11))]) C d_L_law_121 rfl rfl ?_
  refine j_aload_n C d_L_law_123 2 rfl rfl ?_
  refine j_callSl C d_L_law_124 ml_L_83 ms_L_view (c_L_view (xl X) (gD G) (gad G) (gca G)  hσ h) rfl rfl rfl rfl rfl (fun z41 σ42 hσ42 h => ?_)
  obtain ⟨ez41, h⟩ := h; subst ez41
  refine j_lload C d_L_law_127 8 rfl ?_
  refine j_lcmp C d_L_law_129 ?_
  refine j_if_ne (tgt := 147) C d_L_law_130 rfl (zLcmp_rg _ _) (fun c => ?_) (fun c => ?_)
  · have h := h.1 c
    refine j_sub (L' := [(0, .ref b), (1, .ref (gad G 54)), (2, .int (zI v2)), (3, .int (zI v3)), (4, .int (zI v4)), (6, .int (zI v6)), (7, .int (zI v7)), (11, .int (zI v11)), (13, .int (zI s0))]) [1, 2, 3, 4, 5, 6, 7, 10, 0] rfl ?_
    refine w_L_law_b147 C hN r2 hk29 σ v3 v4 v6 v7 v11 s0 hσ r3 r4 r6 r7 r11 rs0 h
  · have h := h.2 c
    refine j_aload_n C d_L_law_133 2 rfl rfl ?_
    refine j_iconst C d_L_law_134 ?_
    refine j_callV C d_L_law_135 ml_L_13 mi_X_count (c_X_count (xl X) (gD G) (gad G) (gca G) (v1 := 5) hσ (zR_of (x := 5) rfl) h) sh_54 rfl rfl rfl rfl rfl rfl rfl (fun z49 σ50 rz49 hσ50 h => ?_)
    obtain ⟨ez49, h⟩ := h; subst ez49
    refine j_iload C d_L_law_138 9 rfl ?_
    refine j_icmp_ne (tgt := 147) C d_L_law_140 rfl rz49 r10 (fun c => ?_) (fun c => ?_)
    · have h := h.1 c
      refine j_sub (L' := [(0, .ref b), (1, .ref (gad G 54)), (2, .int (zI v2)), (3, .int (zI v3)), (4, .int (zI v4)), (6, .int (zI v6)), (7, .int (zI v7)), (11, .int (zI v11)), (13, .int (zI s0))]) [1, 2, 3, 4, 5, 6, 7, 10, 0] rfl ?_
      refine w_L_law_b147 C hN r2 hk29 σ v3 v4 v6 v7 v11 s0 hσ r3 r4 r6 r7 r11 rs0 h
    · have h := h.2 c
      refine j_iconst C d_L_law_143 ?_
      refine j_goto (tgt := 148) C d_L_law_144 rfl ?_
      refine j_sub (L' := [(0, .ref b), (1, .ref (gad G 54)), (2, .int (zI v2)), (3, .int (zI v3)), (4, .int (zI v4)), (6, .int (zI v6)), (7, .int (zI v7)), (11, .int (zI v11)), (13, .int (zI s0))]) [1, 2, 3, 4, 5, 6, 7, 10, 0] rfl ?_
      refine w_L_law_b148 C hN r2 hk29 σ v3 v4 v6 v7 v11 s0 1 hσ r3 r4 r6 r7 r11 rs0 (zR_of (x := 1) rfl) h
set_option maxRecDepth 100000 in
set_option maxHeartbeats 4000000 in
theorem w_L_law_L29 {X : zX} {G : zG} {b : Nat} (C : zC X G b_L_law "GateRoadsLaw" 15 (some .boolean) 10 382) {scr : Nat → Int32} {N : Nat} {v2 : Int} (hN : zLaw X G b N scr) (r2 : zR v2) {Q : Int → zM → Prop} : ∀ (n : Nat) (σ : zM) (v3 : Int) (hσ : zRM σ) (r3 : zR v3), wp_L_law_L29 scr N v2 Q n σ v3 → zJ X G (lw_Z (xb X) #[Value.ref b] (xs X)) 15 29 [(0, .ref b), (1, .ref (gad G 54)), (2, .int (zI v2)), (3, .int (zI v3))] [] σ := by
  intro n
  induction n with
  | zero => intro σ v3 hσ r3 h; exact False.elim h
  | succ n ih =>
    intro σ v3 hσ r3 h
    rw [wp_L_law_L29] at h
    refine j_iload_n C d_L_law_29 3 rfl rfl ?_
    refine j_iload_n C d_L_law_30 2 rfl rfl ?_
    refine j_icmp_ge (tgt := 367) C d_L_law_31 rfl r3 r2 (fun c => ?_) (fun c => ?_)
    · have h := h.1 c
      refine j_iconst C d_L_law_367 ?_
      exact j_lawret C hN.2.1 d_L_law_368 h
    · have h := h.2 c
      refine j_aload_n C d_L_law_34 0 rfl rfl ?_
      refine j_iconst C d_L_law_35 ?_
      refine j_iload_n C d_L_law_36 3 rfl rfl ?_
      refine j_imul C d_L_law_37 ?_
      obtain ⟨g2, h⟩ := h
      obtain ⟨g3, h⟩ := h
      refine j_cell C hN.1 hσ d_L_law_38 ml_L_98 g3 rfl rfl rfl ?_
      refine j_istore (L' := [(4, .int (zI (zSx scr (3 * v3)))), (0, .ref b), (1, .ref (gad G 54)), (2, .int (zI v2)), (3, .int (zI v3))]) C d_L_law_41 rfl rfl ?_
      refine j_iload C d_L_law_43 0 rfl ?_
      refine j_bipush C d_L_law_45 rfl ?_
      refine j_iand C d_L_law_47 ?_
      refine j_istore (L' := [(5, .int (zI (zAnd (zSx scr (3 * v3)) 15))), (4, .int (zI (zSx scr (3 * v3)))), (0, .ref b), (1, .ref (gad G 54)), (2, .int (zI v2)), (3, .int (zI v3))]) C d_L_law_48 rfl rfl ?_
      refine j_aload_n C d_L_law_50 2 rfl rfl ?_
      refine j_iconst C d_L_law_51 ?_
      refine j_iload_n C d_L_law_52 5 rfl rfl ?_
      refine j_imul C d_L_law_53 ?_
      refine j_iconst C d_L_law_54 ?_
      refine j_iadd C d_L_law_55 ?_
      obtain ⟨g4, h⟩ := h
      obtain ⟨g5, h⟩ := h
      refine j_cell C hN.1 hσ d_L_law_56 ml_L_98 g5 rfl rfl rfl ?_
      refine j_istore (L' := [(6, .int (zI (zSx scr ((3 * v3) + 1)))), (5, .int (zI (zAnd (zSx scr (3 * v3)) 15))), (4, .int (zI (zSx scr (3 * v3)))), (0, .ref b), (1, .ref (gad G 54)), (2, .int (zI v2)), (3, .int (zI v3))]) C d_L_law_59 rfl rfl ?_
      refine j_aload_n C d_L_law_61 3 rfl rfl ?_
      refine j_iconst C d_L_law_62 ?_
      refine j_iload_n C d_L_law_63 6 rfl rfl ?_
      refine j_imul C d_L_law_64 ?_
      refine j_iconst C d_L_law_65 ?_
      refine j_iadd C d_L_law_66 ?_
      obtain ⟨g6, h⟩ := h
      obtain ⟨g7, h⟩ := h
      refine j_cell C hN.1 hσ d_L_law_67 ml_L_98 g7 rfl rfl rfl ?_
      refine j_istore (L' := [(7, .int (zI (zSx scr ((3 * v3) + 2)))), (6, .int (zI (zSx scr ((3 * v3) + 1)))), (5, .int (zI (zAnd (zSx scr (3 * v3)) 15))), (4, .int (zI (zSx scr (3 * v3)))), (0, .ref b), (1, .ref (gad G 54)), (2, .int (zI v2)), (3, .int (zI v3))]) C d_L_law_70 rfl rfl ?_
      refine j_aload_n C d_L_law_72 5 rfl rfl ?_
      refine j_callSl C d_L_law_73 ml_L_83 ms_L_view (c_L_view (xl X) (gD G) (gad G) (gca G)  hσ h) rfl rfl rfl rfl rfl (fun z8 σ9 hσ9 h => ?_)
      obtain ⟨ez8, h⟩ := h; subst ez8
      refine j_lstore (L' := [(8, .long z8), (7, .int (zI (zSx scr ((3 * v3) + 2)))), (6, .int (zI (zSx scr ((3 * v3) + 1)))), (5, .int (zI (zAnd (zSx scr (3 * v3)) 15))), (4, .int (zI (zSx scr (3 * v3)))), (0, .ref b), (1, .ref (gad G 54)), (2, .int (zI v2)), (3, .int (zI v3))]) C d_L_law_76 rfl rfl ?_
      refine j_aload_n C d_L_law_78 6 rfl rfl ?_
      refine j_iconst C d_L_law_79 ?_
      refine j_callV C d_L_law_80 ml_L_13 mi_X_count (c_X_count (xl X) (gD G) (gad G) (gca G) (v1 := 5) hσ (zR_of (x := 5) rfl) h) sh_54 rfl rfl rfl rfl rfl rfl rfl (fun z10 σ11 rz10 hσ11 h => ?_)
      obtain ⟨ez10, h⟩ := h; subst ez10
      refine j_istore (L' := [(10, .int (zI z10)), (8, .long z8), (7, .int (zI (zSx scr ((3 * v3) + 2)))), (6, .int (zI (zSx scr ((3 * v3) + 1)))), (5, .int (zI (zAnd (zSx scr (3 * v3)) 15))), (4, .int (zI (zSx scr (3 * v3)))), (0, .ref b), (1, .ref (gad G 54)), (2, .int (zI v2)), (3, .int (zI v3))]) C d_L_law_83 rfl rfl ?_
      refine j_aload_n C d_L_law_85 7 rfl rfl ?_
      refine j_iconst C d_L_law_86 ?_
      refine j_callV C d_L_law_87 ml_L_13 mi_X_count (c_X_count (xl X) (gD G) (gad G) (gca G) (v1 := 3) hσ (zR_of (x := 3) rfl) h) sh_54 rfl rfl rfl rfl rfl rfl rfl (fun z12 σ13 rz12 hσ13 h => ?_)
      obtain ⟨ez12, h⟩ := h; subst ez12
      refine j_istore (L' := [(11, .int (zI z12)), (10, .int (zI z10)), (8, .long z8), (7, .int (zI (zSx scr ((3 * v3) + 2)))), (6, .int (zI (zSx scr ((3 * v3) + 1)))), (5, .int (zI (zAnd (zSx scr (3 * v3)) 15))), (4, .int (zI (zSx scr (3 * v3)))), (0, .ref b), (1, .ref (gad G 54)), (2, .int (zI v2)), (3, .int (zI v3))]) C d_L_law_90 rfl rfl ?_
      refine j_aload_n C d_L_law_92 8 rfl rfl ?_
      refine j_iload C d_L_law_93 5 rfl ?_
      refine j_iload C d_L_law_95 4 rfl ?_
      refine j_iload C d_L_law_97 3 rfl ?_
      refine j_callS C d_L_law_99 ml_L_87 ms_L_turn (c_L_turn (xl X) (gD G) (gad G) (gca G) (v1 := zAnd (zSx scr (3 * v3)) 15) (v2 := zSx scr ((3 * v3) + 1)) (v3 := zSx scr ((3 * v3) + 2)) hσ (zAnd_rg _ _) (zSx_rg _ _) (zSx_rg _ _) h) rfl rfl rfl rfl rfl (fun z14 σ15 rz14 hσ15 h => ?_)
      refine j_istore (L' := [(12, .int (zI z14)), (11, .int (zI z12)), (10, .int (zI z10)), (8, .long z8), (7, .int (zI (zSx scr ((3 * v3) + 2)))), (6, .int (zI (zSx scr ((3 * v3) + 1)))), (5, .int (zI (zAnd (zSx scr (3 * v3)) 15))), (4, .int (zI (zSx scr (3 * v3)))), (0, .ref b), (1, .ref (gad G 54)), (2, .int (zI v2)), (3, .int (zI v3))]) C d_L_law_102 rfl rfl ?_
      refine j_iload C d_L_law_104 0 rfl ?_
      refine j_if_ge (tgt := 197) C d_L_law_106 rfl rz14 (fun c => ?_) (fun c => ?_)
      · have h := h.1 c
        refine j_aload_n C d_L_law_197 9 rfl rfl ?_
        refine j_iconst C d_L_law_198 ?_
        refine j_callV C d_L_law_199 ml_L_13 mi_X_count (c_X_count (xl X) (gD G) (gad G) (gca G) (v1 := 5) hσ15 (zR_of (x := 5) rfl) h) sh_54 rfl rfl rfl rfl rfl rfl rfl (fun z16 σ17 rz16 hσ17 h => ?_)
        obtain ⟨ez16, h⟩ := h; subst ez16
        refine j_iload C d_L_law_202 2 rfl ?_
        refine j_bipush C d_L_law_204 rfl ?_
        refine j_icmp_ge (tgt := 216) C d_L_law_206 rfl rz10 (zR_of (x := 6) rfl) (fun c => ?_) (fun c => ?_)
        · have h := h.1 c
          refine j_bipush C d_L_law_216 rfl ?_
          refine j_sub (L' := [(0, .ref b), (1, .ref (gad G 54)), (2, .int (zI v2)), (3, .int (zI v3)), (4, .int (zI (zSx scr (3 * v3)))), (5, .int (zI (zAnd (zSx scr (3 * v3)) 15))), (6, .int (zI (zSx scr ((3 * v3) + 1)))), (7, .int (zI (zSx scr ((3 * v3) + 2)))), (8, .long z8), (11, .int (zI z12)), (12, .int (zI z14))]) [8, 9, 10, 11, 7, 6, 5, 4, 3, 1, 0] rfl ?_
          refine w_L_law_b218 C hN r2 ih σ15 v3 (zSx scr (3 * v3)) (zAnd (zSx scr (3 * v3)) 15) (zSx scr ((3 * v3) + 1)) (zSx scr ((3 * v3) + 2)) z8 z12 z14 z16 6 hσ15 r3 (zSx_rg _ _) (zAnd_rg _ _) (zSx_rg _ _) (zSx_rg _ _) rz12 rz14 rz16 (zR_of (x := 6) rfl) h
        · have h := h.2 c
          refine j_iload C d_L_law_209 2 rfl ?_
          refine j_iconst C d_L_law_211 ?_
          refine j_iadd C d_L_law_212 ?_
          refine j_goto (tgt := 218) C d_L_law_213 rfl ?_
          obtain ⟨g40, h⟩ := h
          refine j_sub (L' := [(0, .ref b), (1, .ref (gad G 54)), (2, .int (zI v2)), (3, .int (zI v3)), (4, .int (zI (zSx scr (3 * v3)))), (5, .int (zI (zAnd (zSx scr (3 * v3)) 15))), (6, .int (zI (zSx scr ((3 * v3) + 1)))), (7, .int (zI (zSx scr ((3 * v3) + 2)))), (8, .long z8), (11, .int (zI z12)), (12, .int (zI z14))]) [8, 9, 10, 11, 7, 6, 5, 4, 3, 1, 0] rfl ?_
          refine w_L_law_b218 C hN r2 ih σ15 v3 (zSx scr (3 * v3)) (zAnd (zSx scr (3 * v3)) 15) (zSx scr ((3 * v3) + 1)) (zSx scr ((3 * v3) + 2)) z8 z12 z14 z16 (z10 + 1) hσ15 r3 (zSx_rg _ _) (zAnd_rg _ _) (zSx_rg _ _) (zSx_rg _ _) rz12 rz14 rz16 g40 h
      · have h := h.2 c
        refine j_iload C d_L_law_109 0 rfl ?_
        refine j_bipush C d_L_law_111 rfl ?_
        refine j_icmp_ne (tgt := 120) C d_L_law_113 rfl rz14 (zR_of (x := (-5)) rfl) (fun c => ?_) (fun c => ?_)
        · have h := h.1 c
          refine j_iconst C d_L_law_120 ?_
          refine j_sub (L' := [(0, .ref b), (1, .ref (gad G 54)), (2, .int (zI v2)), (3, .int (zI v3)), (4, .int (zI (zSx scr (3 * v3)))), (6, .int (zI (zSx scr ((3 * v3) + 1)))), (7, .int (zI (zSx scr ((3 * v3) + 2)))), (8, .long z8), (10, .int (zI z10)), (11, .int (zI z12))]) [8, 9, 10, 11, 7, 5, 4, 3, 2, 1] rfl ?_
          refine w_L_law_b121 C hN r2 ih σ15 v3 (zSx scr (3 * v3)) (zSx scr ((3 * v3) + 1)) (zSx scr ((3 * v3) + 2)) z8 z10 z12 0 hσ15 r3 (zSx_rg _ _) (zSx_rg _ _) (zSx_rg _ _) rz10 rz12 (zR_of (x := 0) rfl) h
        · have h := h.2 c
          refine j_iconst C d_L_law_116 ?_
          refine j_goto (tgt := 121) C d_L_law_117 rfl ?_
          refine j_sub (L' := [(0, .ref b), (1, .ref (gad G 54)), (2, .int (zI v2)), (3, .int (zI v3)), (4, .int (zI (zSx scr (3 * v3)))), (6, .int (zI (zSx scr ((3 * v3) + 1)))), (7, .int (zI (zSx scr ((3 * v3) + 2)))), (8, .long z8), (10, .int (zI z10)), (11, .int (zI z12))]) [8, 9, 10, 11, 7, 5, 4, 3, 2, 1] rfl ?_
          refine w_L_law_b121 C hN r2 ih σ15 v3 (zSx scr (3 * v3)) (zSx scr ((3 * v3) + 1)) (zSx scr ((3 * v3) + 2)) z8 z10 z12 1 hσ15 r3 (zSx_rg _ _) (zSx_rg _ _) (zSx_rg _ _) rz10 rz12 (zR_of (x := 1) rfl) h
set_option maxRecDepth 100000 in
set_option maxHeartbeats 4000000 in
theorem w_L_law_b26 {X : zX} {G : zG} {b : Nat} (C : zC X G b_L_law "GateRoadsLaw" 15 (some .boolean) 10 382) {scr : Nat → Int32} {N : Nat} (hN : zLaw X G b N scr) {Q : Int → zM → Prop} (σ : zM) (s0 : Int) (hσ : zRM σ) (rs0 : zR s0) (h : wp_L_law_b26 scr N Q σ s0) : zJ X G (lw_Z (xb X) #[Value.ref b] (xs X)) 15 26 [(0, .ref b), (1, .ref (gad G 54))] [.int (zI s0)] σ := by
  unfold wp_L_law_b26 at h
  refine j_istore_n (L' := [(2, .int (zI s0)), (0, .ref b), (1, .ref (gad G 54))]) C d_L_law_26 rfl rfl rfl ?_
  refine j_iconst C d_L_law_27 ?_
  refine j_istore_n (L' := [(3, .int (zI 0)), (2, .int (zI s0)), (0, .ref b), (1, .ref (gad G 54))]) C d_L_law_28 rfl rfl rfl ?_
  obtain ⟨n51, h⟩ := h
  refine j_sub (L' := [(0, .ref b), (1, .ref (gad G 54)), (2, .int (zI s0)), (3, .int (zI 0))]) [2, 3, 1, 0] rfl ?_
  refine w_L_law_L29 C hN rs0 n51 σ 0 hσ (zR_of (x := 0) rfl) h
set_option maxRecDepth 100000 in
set_option maxHeartbeats 4000000 in
theorem w_L_law_b8 {X : zX} {G : zG} {b : Nat} (C : zC X G b_L_law "GateRoadsLaw" 15 (some .boolean) 10 382) {scr : Nat → Int32} {N : Nat} (hN : zLaw X G b N scr) {Q : Int → zM → Prop} (σ : zM) (hσ : zRM σ) (h : wp_L_law_b8 scr N Q σ) : zJ X G (lw_Z (xb X) #[Value.ref b] (xs X)) 15 8 [(0, .ref b), (1, .ref (gad G 54))] [] σ := by
  unfold wp_L_law_b8 at h
  refine j_aload_n C d_L_law_8 0 rfl rfl ?_
  refine j_slen C hN.1 d_L_law_9 ?_
  refine j_iconst C d_L_law_10 ?_
  obtain ⟨g1, h⟩ := h
  refine j_idiv C d_L_law_11 hN.2.2 g1 (zR_of (x := 3) rfl) (by decide) ?_
  refine j_bipush C d_L_law_12 rfl ?_
  refine j_icmp_ge (tgt := 24) C d_L_law_14 rfl (zDiv_rg hN.2.2 g1 (zR_of (x := 3) rfl) (by decide)) (zR_of (x := 36) rfl) (fun c => ?_) (fun c => ?_)
  · have h := h.1 c
    refine j_bipush C d_L_law_24 rfl ?_
    refine w_L_law_b26 C hN σ 36 hσ (zR_of (x := 36) rfl) h
  · have h := h.2 c
    refine j_aload_n C d_L_law_17 0 rfl rfl ?_
    refine j_slen C hN.1 d_L_law_18 ?_
    refine j_iconst C d_L_law_19 ?_
    obtain ⟨g52, h⟩ := h
    refine j_idiv C d_L_law_20 hN.2.2 g52 (zR_of (x := 3) rfl) (by decide) ?_
    refine j_goto (tgt := 26) C d_L_law_21 rfl ?_
    refine w_L_law_b26 C hN σ ((N : Int) / 3) hσ (zDiv_rg hN.2.2 g52 (zR_of (x := 3) rfl) (by decide)) h
