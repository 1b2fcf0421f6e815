def F_L_c0 (G : pq_G) (S : pq_N) (xs : Nat → Int32) (L : Nat) (a1 a2 a3 : Nat) (x4 : Int32) : Option pq_N := (if (x4 + (1 : Int32)) < 0 ∨ L ≤ (Int32.toNatClampNeg (x4 + (1 : Int32))) then none else (pq_bd (F_L_print G S a1 (xs (Int32.toNatClampNeg (x4 + (1 : Int32)))) a3) fun v12 S13 => (if (x4 + (1 : Int32)) < 0 ∨ L ≤ (Int32.toNatClampNeg (x4 + (1 : Int32))) then none else (pq_bd (F_X11_print G S13 a2 (xs (Int32.toNatClampNeg (x4 + (1 : Int32))))) fun v16 S17 => (pq_bd (F_X11_thrown G S17 a2) fun v19 S20 => (if v19 = v12 then (if v12 = (0 : Int32) then (if (0 : Int32) < 0 ∨ pq_n G a3 ≤ (Int32.toNatClampNeg (0 : Int32)) then none else (if (lg_cmp (S20.2 a3 (Int32.toNatClampNeg (0 : Int32))) (Int32.toInt64 v16)) = (0 : Int32) then some S20 else none)) else some S20) else none))))))
set_option maxHeartbeats 4000000 in
set_option maxRecDepth 100000 in
theorem r_L_c0 {p : Program} {l : Launch} {e : Env} {s : State} {m : MethodId} {av : Array Value} {below : List Frame} {meth : Method} {c : Code} {Q : State → Prop} {D : va_G} {y : pq_Y} {G : pq_G} (hl : l.stackTraces = false) (W0 : pq_WT G) (C : pq_C p s m av c D y RL wsL_law cL_law 9) (hX : pq_X (pq_A G s.heap.size) s s.heap) {bb L : Nat} {xs : Nat → Int32} (hXs : va_X bb L xs s s.heap) (hbl : bb < s.heap.size) (hbA : ¬ pq_A G s.heap.size bb) {a1 a2 a3 : Nat} (k1_ : pq_ok G 10 a1) (k2_ : pq_ok G 11 a2) (k3_ : pq_ok G 13 a3) {x4 : Int32} {S S1 : pq_N} {cells slots : Nat} (hc : cells + 8 ≤ 601024) (hs : slots + 48 ≤ 7293034) (h : F_L_c0 G S xs L a1 a2 a3 x4 = some S1) (kk : pq_V p l e room_1 s m av below meth c (cells + 8) (slots + 48) Q D y 9 (pq_A G s.heap.size) (fun _ => True) G S1 2770 [(0, .ref bb), (1, .ref a1), (2, .ref a2), (3, .ref a3), (4, .int x4)] []) : pq_V p l e room_1 s m av below meth c cells slots Q D y 9 (pq_A G s.heap.size) (fun _ => True) G S 248 [(0, .ref bb), (1, .ref a1), (2, .ref a2), (3, .ref a3), (4, .int x4)] [] := by
  unfold F_L_c0 at h
  refine pv_aload_n C 1 dL_law_248 rfl rfl ?_
  refine pv_aload_n C 0 dL_law_249 rfl rfl ?_
  refine pv_iload C 4 dL_law_250 rfl ?_
  refine pv_iconst (v := 1) C dL_law_252 (by decide) ?_
  refine pv_iadd C dL_law_253 ?_
  obtain ⟨g11, h⟩ := pq_gd h
  refine pv_sld C hXs hbl hbA g11 dL_law_254 ?_
  refine pv_aload_n C 3 dL_law_255 rfl rfl ?_
  obtain ⟨v12, S13, e14, h⟩ := pq_bs h
  refine pv_hcalli C (kc := 1) (ks := 6) hX [.ref a1, .int (xs (Int32.toNatClampNeg (x4 + (1 : Int32)))), .ref a3] (fun sz => r_L_print hl W0 k1_ k3_ e14 sz) (vx_cwSW 3 C.1.2.2.2.2 gL_law_L_print rfl rfl rfl (by decide +kernel) ⟨Nat.le_of_ble_eq_true rfl, Nat.le_of_ble_eq_true rfl⟩) rfl rfl (Nat.le_of_ble_eq_true rfl) dL_law_256 ⟨Nat.le_trans (m := 601024) (by omega) (Nat.le_of_ble_eq_true rfl), Nat.le_trans (m := 7293034) (by omega) (Nat.le_of_ble_eq_true rfl)⟩ ?_
  refine pv_istore C [(5, .int v12), (0, .ref bb), (1, .ref a1), (2, .ref a2), (3, .ref a3), (4, .int x4)] dL_law_259 (by decide) rfl ?_
  refine pv_aload_n C 3 dL_law_261 rfl rfl ?_
  refine pv_aload_n C 1 dL_law_262 rfl rfl ?_
  refine pv_iload C 5 dL_law_263 rfl ?_
  refine pv_iconst (v := 1) C dL_law_265 (by decide) ?_
  refine pv_iadd C dL_law_266 ?_
  obtain ⟨g15, h⟩ := pq_gd h
  refine pv_sld C hXs hbl hbA g15 dL_law_267 ?_
  obtain ⟨v16, S17, e18, h⟩ := pq_bs h
  refine pv_calliV C (ci := 11) rfl (by decide) k2_ [.int (xs (Int32.toNatClampNeg (x4 + (1 : Int32))))] (fun sz => r_X11_print W0 k2_ e18 sz) (cwV 1 C.1.2.2.2.2 gL_law_X11_print rfl rfl rfl (by decide +kernel) ⟨Nat.le_of_ble_eq_true rfl, Nat.le_of_ble_eq_true rfl⟩) rfl rfl (Nat.le_of_ble_eq_true rfl) dL_law_268 ⟨Nat.le_trans (m := 601024) (by omega) (Nat.le_of_ble_eq_true rfl), Nat.le_trans (m := 7293034) (by omega) (Nat.le_of_ble_eq_true rfl)⟩ ?_
  refine pv_istore C [(6, .int v16), (5, .int v12), (0, .ref bb), (1, .ref a1), (2, .ref a2), (3, .ref a3), (4, .int x4)] dL_law_271 (by decide) rfl ?_
  refine pv_aload_n C 4 dL_law_273 rfl rfl ?_
  obtain ⟨v19, S20, e21, h⟩ := pq_bs h
  refine pv_calliV C (ci := 11) rfl (by decide) k2_ [] (fun sz => r_X11_thrown W0 k2_ e21 sz) (cwV 0 C.1.2.2.2.2 gL_law_X11_thrown rfl rfl rfl (by decide +kernel) ⟨Nat.le_of_ble_eq_true rfl, Nat.le_of_ble_eq_true rfl⟩) rfl rfl (Nat.le_of_ble_eq_true rfl) dL_law_274 ⟨Nat.le_trans (m := 601024) (by omega) (Nat.le_of_ble_eq_true rfl), Nat.le_trans (m := 7293034) (by omega) (Nat.le_of_ble_eq_true rfl)⟩ ?_
  refine pv_iload C 1 dL_law_277 rfl ?_
  refine pv_icmp_eq (tgt := 284) C dL_law_279 (by decide) (fun c22 => ?_) (fun c22 => ?_)
  · have h := pq_it c22 h
    refine pv_iload C 1 dL_law_284 rfl ?_
    refine pv_if_ne (tgt := 301) C dL_law_286 (by decide) (fun c23 => ?_) (fun c23 => ?_)
    · have h := pq_if c23 h
      refine pv_goto (tgt := 2770) C dL_law_301 (by decide) ?_
      refine pv_sub [2, 3, 4, 5, 6] rfl ?_
      cases h
      exact pv_wide (k := cells + 8) (n := slots + 48) (by omega) (by omega) kk
    · have h := pq_it c23 h
      refine pv_aload_n C 5 dL_law_289 rfl rfl ?_
      refine pv_iconst (v := 0) C dL_law_290 (by decide) ?_
      obtain ⟨g24, h⟩ := pq_gd h
      refine pv_laload C k3_ g24 dL_law_291 ?_
      refine pv_iload C 0 dL_law_292 rfl ?_
      refine pv_i2l C dL_law_294 ?_
      refine pv_lcmp C dL_law_295 ?_
      refine pv_if_eq (tgt := 301) C dL_law_296 (by decide) (fun c25 => ?_) (fun c25 => ?_)
      · have h := pq_it c25 h
        refine pv_goto (tgt := 2770) C dL_law_301 (by decide) ?_
        refine pv_sub [2, 3, 4, 5, 6] rfl ?_
        cases h
        exact pv_wide (k := cells + 8) (n := slots + 48) (by omega) (by omega) kk
      · have h := pq_if c25 h
        cases h
  · have h := pq_if c22 h
    cases h
def F_L_c1 (G : pq_G) (S : pq_N) (xs : Nat → Int32) (L : Nat) (a1 a2 a3 : Nat) (x4 : Int32) : Option pq_N := (if (x4 + (1 : Int32)) < 0 ∨ L ≤ (Int32.toNatClampNeg (x4 + (1 : Int32))) then none else (pq_bd (F_L_pass G S a1 (xs (Int32.toNatClampNeg (x4 + (1 : Int32)))) a3) fun v12 S13 => (if (x4 + (1 : Int32)) < 0 ∨ L ≤ (Int32.toNatClampNeg (x4 + (1 : Int32))) then none else (pq_bd (F_X11_pass G S13 a2 (xs (Int32.toNatClampNeg (x4 + (1 : Int32))))) fun v16 S17 => (pq_bd (F_X11_thrown G S17 a2) fun v19 S20 => (if v19 = v12 then (if v12 = (0 : Int32) then (if (0 : Int32) < 0 ∨ pq_n G a3 ≤ (Int32.toNatClampNeg (0 : Int32)) then none else (if (lg_cmp (S20.2 a3 (Int32.toNatClampNeg (0 : Int32))) (Int32.toInt64 v16)) = (0 : Int32) then some S20 else none)) else some S20) else none))))))
set_option maxHeartbeats 4000000 in
set_option maxRecDepth 100000 in
theorem r_L_c1 {p : Program} {l : Launch} {e : Env} {s : State} {m : MethodId} {av : Array Value} {below : List Frame} {meth : Method} {c : Code} {Q : State → Prop} {D : va_G} {y : pq_Y} {G : pq_G} (hl : l.stackTraces = false) (W0 : pq_WT G) (C : pq_C p s m av c D y RL wsL_law cL_law 9) (hX : pq_X (pq_A G s.heap.size) s s.heap) {bb L : Nat} {xs : Nat → Int32} (hXs : va_X bb L xs s s.heap) (hbl : bb < s.heap.size) (hbA : ¬ pq_A G s.heap.size bb) {a1 a2 a3 : Nat} (k1_ : pq_ok G 10 a1) (k2_ : pq_ok G 11 a2) (k3_ : pq_ok G 13 a3) {x4 : Int32} {S S1 : pq_N} {cells slots : Nat} (hc : cells + 8 ≤ 601024) (hs : slots + 48 ≤ 7293034) (h : F_L_c1 G S xs L a1 a2 a3 x4 = some S1) (kk : pq_V p l e room_1 s m av below meth c (cells + 8) (slots + 48) Q D y 9 (pq_A G s.heap.size) (fun _ => True) G S1 2770 [(0, .ref bb), (1, .ref a1), (2, .ref a2), (3, .ref a3), (4, .int x4)] []) : pq_V p l e room_1 s m av below meth c cells slots Q D y 9 (pq_A G s.heap.size) (fun _ => True) G S 304 [(0, .ref bb), (1, .ref a1), (2, .ref a2), (3, .ref a3), (4, .int x4)] [] := by
  unfold F_L_c1 at h
  refine pv_aload_n C 1 dL_law_304 rfl rfl ?_
  refine pv_aload_n C 0 dL_law_305 rfl rfl ?_
  refine pv_iload C 4 dL_law_306 rfl ?_
  refine pv_iconst (v := 1) C dL_law_308 (by decide) ?_
  refine pv_iadd C dL_law_309 ?_
  obtain ⟨g11, h⟩ := pq_gd h
  refine pv_sld C hXs hbl hbA g11 dL_law_310 ?_
  refine pv_aload_n C 3 dL_law_311 rfl rfl ?_
  obtain ⟨v12, S13, e14, h⟩ := pq_bs h
  refine pv_hcalli C (kc := 1) (ks := 6) hX [.ref a1, .int (xs (Int32.toNatClampNeg (x4 + (1 : Int32)))), .ref a3] (fun sz => r_L_pass hl W0 k1_ k3_ e14 sz) (vx_cwSW 3 C.1.2.2.2.2 gL_law_L_pass rfl rfl rfl (by decide +kernel) ⟨Nat.le_of_ble_eq_true rfl, Nat.le_of_ble_eq_true rfl⟩) rfl rfl (Nat.le_of_ble_eq_true rfl) dL_law_312 ⟨Nat.le_trans (m := 601024) (by omega) (Nat.le_of_ble_eq_true rfl), Nat.le_trans (m := 7293034) (by omega) (Nat.le_of_ble_eq_true rfl)⟩ ?_
  refine pv_istore C [(5, .int v12), (0, .ref bb), (1, .ref a1), (2, .ref a2), (3, .ref a3), (4, .int x4)] dL_law_315 (by decide) rfl ?_
  refine pv_aload_n C 3 dL_law_317 rfl rfl ?_
  refine pv_aload_n C 1 dL_law_318 rfl rfl ?_
  refine pv_iload C 5 dL_law_319 rfl ?_
  refine pv_iconst (v := 1) C dL_law_321 (by decide) ?_
  refine pv_iadd C dL_law_322 ?_
  obtain ⟨g15, h⟩ := pq_gd h
  refine pv_sld C hXs hbl hbA g15 dL_law_323 ?_
  obtain ⟨v16, S17, e18, h⟩ := pq_bs h
  refine pv_calliV C (ci := 11) rfl (by decide) k2_ [.int (xs (Int32.toNatClampNeg (x4 + (1 : Int32))))] (fun sz => r_X11_pass W0 k2_ e18 sz) (cwV 1 C.1.2.2.2.2 gL_law_X11_pass rfl rfl rfl (by decide +kernel) ⟨Nat.le_of_ble_eq_true rfl, Nat.le_of_ble_eq_true rfl⟩) rfl rfl (Nat.le_of_ble_eq_true rfl) dL_law_324 ⟨Nat.le_trans (m := 601024) (by omega) (Nat.le_of_ble_eq_true rfl), Nat.le_trans (m := 7293034) (by omega) (Nat.le_of_ble_eq_true rfl)⟩ ?_
  refine pv_istore C [(6, .int v16), (5, .int v12), (0, .ref bb), (1, .ref a1), (2, .ref a2), (3, .ref a3), (4, .int x4)] dL_law_327 (by decide) rfl ?_
  refine pv_aload_n C 4 dL_law_329 rfl rfl ?_
  obtain ⟨v19, S20, e21, h⟩ := pq_bs h
  refine pv_calliV C (ci := 11) rfl (by decide) k2_ [] (fun sz => r_X11_thrown W0 k2_ e21 sz) (cwV 0 C.1.2.2.2.2 gL_law_X11_thrown rfl rfl rfl (by decide +kernel) ⟨Nat.le_of_ble_eq_true rfl, Nat.le_of_ble_eq_true rfl⟩) rfl rfl (Nat.le_of_ble_eq_true rfl) dL_law_330 ⟨Nat.le_trans (m := 601024) (by omega) (Nat.le_of_ble_eq_true rfl), Nat.le_trans (m := 7293034) (by omega) (Nat.le_of_ble_eq_true rfl)⟩ ?_
  refine pv_iload C 1 dL_law_333 rfl ?_
  refine pv_icmp_eq (tgt := 340) C dL_law_335 (by decide) (fun c22 => ?_) (fun c22 => ?_)
  · have h := pq_it c22 h
    refine pv_iload C 1 dL_law_340 rfl ?_
    refine pv_if_ne (tgt := 357) C dL_law_342 (by decide) (fun c23 => ?_) (fun c23 => ?_)
    · have h := pq_if c23 h
      refine pv_goto (tgt := 2770) C dL_law_357 (by decide) ?_
      refine pv_sub [2, 3, 4, 5, 6] rfl ?_
      cases h
      exact pv_wide (k := cells + 8) (n := slots + 48) (by omega) (by omega) kk
    · have h := pq_it c23 h
      refine pv_aload_n C 5 dL_law_345 rfl rfl ?_
      refine pv_iconst (v := 0) C dL_law_346 (by decide) ?_
      obtain ⟨g24, h⟩ := pq_gd h
      refine pv_laload C k3_ g24 dL_law_347 ?_
      refine pv_iload C 0 dL_law_348 rfl ?_
      refine pv_i2l C dL_law_350 ?_
      refine pv_lcmp C dL_law_351 ?_
      refine pv_if_eq (tgt := 357) C dL_law_352 (by decide) (fun c25 => ?_) (fun c25 => ?_)
      · have h := pq_it c25 h
        refine pv_goto (tgt := 2770) C dL_law_357 (by decide) ?_
        refine pv_sub [2, 3, 4, 5, 6] rfl ?_
        cases h
        exact pv_wide (k := cells + 8) (n := slots + 48) (by omega) (by omega) kk
      · have h := pq_if c25 h
        cases h
  · have h := pq_if c22 h
    cases h
def F_L_c2 (G : pq_G) (S : pq_N) (xs : Nat → Int32) (L : Nat) (a1 a2 a3 : Nat) (x4 : Int32) : Option pq_N := (if (x4 + (1 : Int32)) < 0 ∨ L ≤ (Int32.toNatClampNeg (x4 + (1 : Int32))) then none else (if (x4 + (2 : Int32)) < 0 ∨ L ≤ (Int32.toNatClampNeg (x4 + (2 : Int32))) then none else (pq_bd (F_L_mend G S a1 (xs (Int32.toNatClampNeg (x4 + (1 : Int32)))) (xs (Int32.toNatClampNeg (x4 + (2 : Int32)))) a3) fun v13 S14 => (if (x4 + (1 : Int32)) < 0 ∨ L ≤ (Int32.toNatClampNeg (x4 + (1 : Int32))) then none else (if (x4 + (2 : Int32)) < 0 ∨ L ≤ (Int32.toNatClampNeg (x4 + (2 : Int32))) then none else (pq_bd (F_X11_mend G S14 a2 (xs (Int32.toNatClampNeg (x4 + (1 : Int32)))) (xs (Int32.toNatClampNeg (x4 + (2 : Int32))))) fun v18 S19 => (pq_bd (F_X11_thrown G S19 a2) fun v21 S22 => (if v21 = v13 then (if v13 = (0 : Int32) then (if (0 : Int32) < 0 ∨ pq_n G a3 ≤ (Int32.toNatClampNeg (0 : Int32)) then none else (if (lg_cmp (S22.2 a3 (Int32.toNatClampNeg (0 : Int32))) (Int32.toInt64 v18)) = (0 : Int32) then some S22 else none)) else some S22) else none))))))))
set_option maxHeartbeats 4000000 in
set_option maxRecDepth 100000 in
theorem r_L_c2 {p : Program} {l : Launch} {e : Env} {s : State} {m : MethodId} {av : Array Value} {below : List Frame} {meth : Method} {c : Code} {Q : State → Prop} {D : va_G} {y : pq_Y} {G : pq_G} (hl : l.stackTraces = false) (W0 : pq_WT G) (C : pq_C p s m av c D y RL wsL_law cL_law 9) (hX : pq_X (pq_A G s.heap.size) s s.heap) {bb L : Nat} {xs : Nat → Int32} (hXs : va_X bb L xs s s.heap) (hbl : bb < s.heap.size) (hbA : ¬ pq_A G s.heap.size bb) {a1 a2 a3 : Nat} (k1_ : pq_ok G 10 a1) (k2_ : pq_ok G 11 a2) (k3_ : pq_ok G 13 a3) {x4 : Int32} {S S1 : pq_N} {cells slots : Nat} (hc : cells + 8 ≤ 601024) (hs : slots + 48 ≤ 7293034) (h : F_L_c2 G S xs L a1 a2 a3 x4 = some S1) (kk : pq_V p l e room_1 s m av below meth c (cells + 8) (slots + 48) Q D y 9 (pq_A G s.heap.size) (fun _ => True) G S1 2770 [(0, .ref bb), (1, .ref a1), (2, .ref a2), (3, .ref a3), (4, .int x4)] []) : pq_V p l e room_1 s m av below meth c cells slots Q D y 9 (pq_A G s.heap.size) (fun _ => True) G S 360 [(0, .ref bb), (1, .ref a1), (2, .ref a2), (3, .ref a3), (4, .int x4)] [] := by
  unfold F_L_c2 at h
  refine pv_aload_n C 1 dL_law_360 rfl rfl ?_
  refine pv_aload_n C 0 dL_law_361 rfl rfl ?_
  refine pv_iload C 4 dL_law_362 rfl ?_
  refine pv_iconst (v := 1) C dL_law_364 (by decide) ?_
  refine pv_iadd C dL_law_365 ?_
  obtain ⟨g11, h⟩ := pq_gd h
  refine pv_sld C hXs hbl hbA g11 dL_law_366 ?_
  refine pv_aload_n C 0 dL_law_367 rfl rfl ?_
  refine pv_iload C 4 dL_law_368 rfl ?_
  refine pv_iconst (v := 2) C dL_law_370 (by decide) ?_
  refine pv_iadd C dL_law_371 ?_
  obtain ⟨g12, h⟩ := pq_gd h
  refine pv_sld C hXs hbl hbA g12 dL_law_372 ?_
  refine pv_aload_n C 3 dL_law_373 rfl rfl ?_
  obtain ⟨v13, S14, e15, h⟩ := pq_bs h
  refine pv_hcalli C (kc := 3) (ks := 18) hX [.ref a1, .int (xs (Int32.toNatClampNeg (x4 + (1 : Int32)))), .int (xs (Int32.toNatClampNeg (x4 + (2 : Int32)))), .ref a3] (fun sz => r_L_mend hl W0 k1_ k3_ e15 sz) (vx_cwSW 4 C.1.2.2.2.2 gL_law_L_mend rfl rfl rfl (by decide +kernel) ⟨Nat.le_of_ble_eq_true rfl, Nat.le_of_ble_eq_true rfl⟩) rfl rfl (Nat.le_of_ble_eq_true rfl) dL_law_374 ⟨Nat.le_trans (m := 601024) (by omega) (Nat.le_of_ble_eq_true rfl), Nat.le_trans (m := 7293034) (by omega) (Nat.le_of_ble_eq_true rfl)⟩ ?_
  refine pv_istore C [(5, .int v13), (0, .ref bb), (1, .ref a1), (2, .ref a2), (3, .ref a3), (4, .int x4)] dL_law_377 (by decide) rfl ?_
  refine pv_aload_n C 3 dL_law_379 rfl rfl ?_
  refine pv_aload_n C 1 dL_law_380 rfl rfl ?_
  refine pv_iload C 5 dL_law_381 rfl ?_
  refine pv_iconst (v := 1) C dL_law_383 (by decide) ?_
  refine pv_iadd C dL_law_384 ?_
  obtain ⟨g16, h⟩ := pq_gd h
  refine pv_sld C hXs hbl hbA g16 dL_law_385 ?_
  refine pv_aload_n C 1 dL_law_386 rfl rfl ?_
  refine pv_iload C 5 dL_law_387 rfl ?_
  refine pv_iconst (v := 2) C dL_law_389 (by decide) ?_
  refine pv_iadd C dL_law_390 ?_
  obtain ⟨g17, h⟩ := pq_gd h
  refine pv_sld C hXs hbl hbA g17 dL_law_391 ?_
  obtain ⟨v18, S19, e20, h⟩ := pq_bs h
  refine pv_calliV C (ci := 11) rfl (by decide) k2_ [.int (xs (Int32.toNatClampNeg (x4 + (1 : Int32)))), .int (xs (Int32.toNatClampNeg (x4 + (2 : Int32))))] (fun sz => r_X11_mend W0 k2_ e20 sz) (cwV 2 C.1.2.2.2.2 gL_law_X11_mend rfl rfl rfl (by decide +kernel) ⟨Nat.le_of_ble_eq_true rfl, Nat.le_of_ble_eq_true rfl⟩) rfl rfl (Nat.le_of_ble_eq_true rfl) dL_law_392 ⟨Nat.le_trans (m := 601024) (by omega) (Nat.le_of_ble_eq_true rfl), Nat.le_trans (m := 7293034) (by omega) (Nat.le_of_ble_eq_true rfl)⟩ ?_
  refine pv_istore C [(6, .int v18), (5, .int v13), (0, .ref bb), (1, .ref a1), (2, .ref a2), (3, .ref a3), (4, .int x4)] dL_law_395 (by decide) rfl ?_
  refine pv_aload_n C 4 dL_law_397 rfl rfl ?_
  obtain ⟨v21, S22, e23, h⟩ := pq_bs h
  refine pv_calliV C (ci := 11) rfl (by decide) k2_ [] (fun sz => r_X11_thrown W0 k2_ e23 sz) (cwV 0 C.1.2.2.2.2 gL_law_X11_thrown rfl rfl rfl (by decide +kernel) ⟨Nat.le_of_ble_eq_true rfl, Nat.le_of_ble_eq_true rfl⟩) rfl rfl (Nat.le_of_ble_eq_true rfl) dL_law_398 ⟨Nat.le_trans (m := 601024) (by omega) (Nat.le_of_ble_eq_true rfl), Nat.le_trans (m := 7293034) (by omega) (Nat.le_of_ble_eq_true rfl)⟩ ?_
  refine pv_iload C 1 dL_law_401 rfl ?_
  refine pv_icmp_eq (tgt := 408) C dL_law_403 (by decide) (fun c24 => ?_) (fun c24 => ?_)
  · have h := pq_it c24 h
    refine pv_iload C 1 dL_law_408 rfl ?_
    refine pv_if_ne (tgt := 425) C dL_law_410 (by decide) (fun c25 => ?_) (fun c25 => ?_)
    · have h := pq_if c25 h
      refine pv_goto (tgt := 2770) C dL_law_425 (by decide) ?_
      refine pv_sub [2, 3, 4, 5, 6] rfl ?_
      cases h
      exact pv_wide (k := cells + 8) (n := slots + 48) (by omega) (by omega) kk
    · have h := pq_it c25 h
      refine pv_aload_n C 5 dL_law_413 rfl rfl ?_
      refine pv_iconst (v := 0) C dL_law_414 (by decide) ?_
      obtain ⟨g26, h⟩ := pq_gd h
      refine pv_laload C k3_ g26 dL_law_415 ?_
      refine pv_iload C 0 dL_law_416 rfl ?_
      refine pv_i2l C dL_law_418 ?_
      refine pv_lcmp C dL_law_419 ?_
      refine pv_if_eq (tgt := 425) C dL_law_420 (by decide) (fun c27 => ?_) (fun c27 => ?_)
      · have h := pq_it c27 h
        refine pv_goto (tgt := 2770) C dL_law_425 (by decide) ?_
        refine pv_sub [2, 3, 4, 5, 6] rfl ?_
        cases h
        exact pv_wide (k := cells + 8) (n := slots + 48) (by omega) (by omega) kk
      · have h := pq_if c27 h
        cases h
  · have h := pq_if c24 h
    cases h
def F_L_c3 (G : pq_G) (S : pq_N) (xs : Nat → Int32) (L : Nat) (a1 a2 a3 : Nat) (x4 : Int32) : Option pq_N := (pq_bd (F_X10_mendAll G S a1) fun v11 S12 => (pq_bd (F_X11_mendAll G S12 a2) fun v14 S15 => (if v11 = v14 then some S15 else none)))
set_option maxHeartbeats 4000000 in
set_option maxRecDepth 100000 in
theorem r_L_c3 {p : Program} {l : Launch} {e : Env} {s : State} {m : MethodId} {av : Array Value} {below : List Frame} {meth : Method} {c : Code} {Q : State → Prop} {D : va_G} {y : pq_Y} {G : pq_G} (hl : l.stackTraces = false) (W0 : pq_WT G) (C : pq_C p s m av c D y RL wsL_law cL_law 9) (hX : pq_X (pq_A G s.heap.size) s s.heap) {bb L : Nat} {xs : Nat → Int32} (hXs : va_X bb L xs s s.heap) (hbl : bb < s.heap.size) (hbA : ¬ pq_A G s.heap.size bb) {a1 a2 a3 : Nat} (k1_ : pq_ok G 10 a1) (k2_ : pq_ok G 11 a2) (k3_ : pq_ok G 13 a3) {x4 : Int32} {S S1 : pq_N} {cells slots : Nat} (hc : cells + 8 ≤ 601024) (hs : slots + 48 ≤ 7293034) (h : F_L_c3 G S xs L a1 a2 a3 x4 = some S1) (kk : pq_V p l e room_1 s m av below meth c (cells + 8) (slots + 48) Q D y 9 (pq_A G s.heap.size) (fun _ => True) G S1 2770 [(0, .ref bb), (1, .ref a1), (2, .ref a2), (3, .ref a3), (4, .int x4)] []) : pq_V p l e room_1 s m av below meth c cells slots Q D y 9 (pq_A G s.heap.size) (fun _ => True) G S 428 [(0, .ref bb), (1, .ref a1), (2, .ref a2), (3, .ref a3), (4, .int x4)] [] := by
  unfold F_L_c3 at h
  refine pv_aload_n C 1 dL_law_428 rfl rfl ?_
  obtain ⟨v11, S12, e13, h⟩ := pq_bs h
  refine pv_calliV C (ci := 10) rfl (by decide) k1_ [] (fun sz => r_X10_mendAll W0 k1_ e13 sz) (cwV 0 C.1.2.2.2.2 gL_law_X10_mendAll rfl rfl rfl (by decide +kernel) ⟨Nat.le_of_ble_eq_true rfl, Nat.le_of_ble_eq_true rfl⟩) rfl rfl (Nat.le_of_ble_eq_true rfl) dL_law_429 ⟨Nat.le_trans (m := 601024) (by omega) (Nat.le_of_ble_eq_true rfl), Nat.le_trans (m := 7293034) (by omega) (Nat.le_of_ble_eq_true rfl)⟩ ?_
  refine pv_aload_n C 2 dL_law_432 rfl rfl ?_
  obtain ⟨v14, S15, e16, h⟩ := pq_bs h
  refine pv_calliV C (ci := 11) rfl (by decide) k2_ [] (fun sz => r_X11_mendAll W0 k2_ e16 sz) (cwV 0 C.1.2.2.2.2 gL_law_X11_mendAll rfl rfl rfl (by decide +kernel) ⟨Nat.le_of_ble_eq_true rfl, Nat.le_of_ble_eq_true rfl⟩) rfl rfl (Nat.le_of_ble_eq_true rfl) dL_law_433 ⟨Nat.le_trans (m := 601024) (by omega) (Nat.le_of_ble_eq_true rfl), Nat.le_trans (m := 7293034) (by omega) (Nat.le_of_ble_eq_true rfl)⟩ ?_
  refine pv_icmp_eq (tgt := 2770) C dL_law_436 (by decide) (fun c17 => ?_) (fun c17 => ?_)
  · have h := pq_it c17 h
    refine pv_sub [0, 1, 2, 3, 4] rfl ?_
    cases h
    exact pv_wide (k := cells + 8) (n := slots + 48) (by omega) (by omega) kk
  · have h := pq_if c17 h
    cases h
def F_L_c4 (G : pq_G) (S : pq_N) (xs : Nat → Int32) (L : Nat) (a1 a2 a3 : Nat) (x4 : Int32) : Option pq_N := (pq_bd (F_L_withdraw G S a1 a3) fun v11 S12 => (pq_bd (F_X11_withdraw G S12 a2) fun v14 S15 => (pq_bd (F_X11_thrown G S15 a2) fun v17 S18 => (if v17 = v11 then (if v11 = (0 : Int32) then (if (0 : Int32) < 0 ∨ pq_n G a3 ≤ (Int32.toNatClampNeg (0 : Int32)) then none else (if (lg_cmp (S18.2 a3 (Int32.toNatClampNeg (0 : Int32))) (Int32.toInt64 v14)) = (0 : Int32) then some S18 else none)) else some S18) else none))))
set_option maxHeartbeats 4000000 in
set_option maxRecDepth 100000 in
theorem r_L_c4 {p : Program} {l : Launch} {e : Env} {s : State} {m : MethodId} {av : Array Value} {below : List Frame} {meth : Method} {c : Code} {Q : State → Prop} {D : va_G} {y : pq_Y} {G : pq_G} (hl : l.stackTraces = false) (W0 : pq_WT G) (C : pq_C p s m av c D y RL wsL_law cL_law 9) (hX : pq_X (pq_A G s.heap.size) s s.heap) {bb L : Nat} {xs : Nat → Int32} (hXs : va_X bb L xs s s.heap) (hbl : bb < s.heap.size) (hbA : ¬ pq_A G s.heap.size bb) {a1 a2 a3 : Nat} (k1_ : pq_ok G 10 a1) (k2_ : pq_ok G 11 a2) (k3_ : pq_ok G 13 a3) {x4 : Int32} {S S1 : pq_N} {cells slots : Nat} (hc : cells + 8 ≤ 601024) (hs : slots + 48 ≤ 7293034) (h : F_L_c4 G S xs L a1 a2 a3 x4 = some S1) (kk : pq_V p l e room_1 s m av below meth c (cells + 8) (slots + 48) Q D y 9 (pq_A G s.heap.size) (fun _ => True) G S1 2770 [(0, .ref bb), (1, .ref a1), (2, .ref a2), (3, .ref a3), (4, .int x4)] []) : pq_V p l e room_1 s m av below meth c cells slots Q D y 9 (pq_A G s.heap.size) (fun _ => True) G S 441 [(0, .ref bb), (1, .ref a1), (2, .ref a2), (3, .ref a3), (4, .int x4)] [] := by
  unfold F_L_c4 at h
  refine pv_aload_n C 1 dL_law_441 rfl rfl ?_
  refine pv_aload_n C 3 dL_law_442 rfl rfl ?_
  obtain ⟨v11, S12, e13, h⟩ := pq_bs h
  refine pv_hcalli C (kc := 1) (ks := 6) hX [.ref a1, .ref a3] (fun sz => r_L_withdraw hl W0 k1_ k3_ e13 sz) (vx_cwSW 2 C.1.2.2.2.2 gL_law_L_withdraw rfl rfl rfl (by decide +kernel) ⟨Nat.le_of_ble_eq_true rfl, Nat.le_of_ble_eq_true rfl⟩) rfl rfl (Nat.le_of_ble_eq_true rfl) dL_law_443 ⟨Nat.le_trans (m := 601024) (by omega) (Nat.le_of_ble_eq_true rfl), Nat.le_trans (m := 7293034) (by omega) (Nat.le_of_ble_eq_true rfl)⟩ ?_
  refine pv_istore C [(5, .int v11), (0, .ref bb), (1, .ref a1), (2, .ref a2), (3, .ref a3), (4, .int x4)] dL_law_446 (by decide) rfl ?_
  refine pv_aload_n C 3 dL_law_448 rfl rfl ?_
  obtain ⟨v14, S15, e16, h⟩ := pq_bs h
  refine pv_calliV C (ci := 11) rfl (by decide) k2_ [] (fun sz => r_X11_withdraw W0 k2_ e16 sz) (cwV 0 C.1.2.2.2.2 gL_law_X11_withdraw rfl rfl rfl (by decide +kernel) ⟨Nat.le_of_ble_eq_true rfl, Nat.le_of_ble_eq_true rfl⟩) rfl rfl (Nat.le_of_ble_eq_true rfl) dL_law_449 ⟨Nat.le_trans (m := 601024) (by omega) (Nat.le_of_ble_eq_true rfl), Nat.le_trans (m := 7293034) (by omega) (Nat.le_of_ble_eq_true rfl)⟩ ?_
  refine pv_istore C [(6, .int v14), (5, .int v11), (0, .ref bb), (1, .ref a1), (2, .ref a2), (3, .ref a3), (4, .int x4)] dL_law_452 (by decide) rfl ?_
  refine pv_aload_n C 4 dL_law_454 rfl rfl ?_
  obtain ⟨v17, S18, e19, h⟩ := pq_bs h
  refine pv_calliV C (ci := 11) rfl (by decide) k2_ [] (fun sz => r_X11_thrown W0 k2_ e19 sz) (cwV 0 C.1.2.2.2.2 gL_law_X11_thrown rfl rfl rfl (by decide +kernel) ⟨Nat.le_of_ble_eq_true rfl, Nat.le_of_ble_eq_true rfl⟩) rfl rfl (Nat.le_of_ble_eq_true rfl) dL_law_455 ⟨Nat.le_trans (m := 601024) (by omega) (Nat.le_of_ble_eq_true rfl), Nat.le_trans (m := 7293034) (by omega) (Nat.le_of_ble_eq_true rfl)⟩ ?_
  refine pv_iload C 1 dL_law_458 rfl ?_
  refine pv_icmp_eq (tgt := 465) C dL_law_460 (by decide) (fun c20 => ?_) (fun c20 => ?_)
  · have h := pq_it c20 h
    refine pv_iload C 1 dL_law_465 rfl ?_
    refine pv_if_ne (tgt := 482) C dL_law_467 (by decide) (fun c21 => ?_) (fun c21 => ?_)
    · have h := pq_if c21 h
      refine pv_goto (tgt := 2770) C dL_law_482 (by decide) ?_
      refine pv_sub [2, 3, 4, 5, 6] rfl ?_
      cases h
      exact pv_wide (k := cells + 8) (n := slots + 48) (by omega) (by omega) kk
    · have h := pq_it c21 h
      refine pv_aload_n C 5 dL_law_470 rfl rfl ?_
      refine pv_iconst (v := 0) C dL_law_471 (by decide) ?_
      obtain ⟨g22, h⟩ := pq_gd h
      refine pv_laload C k3_ g22 dL_law_472 ?_
      refine pv_iload C 0 dL_law_473 rfl ?_
      refine pv_i2l C dL_law_475 ?_
      refine pv_lcmp C dL_law_476 ?_
      refine pv_if_eq (tgt := 482) C dL_law_477 (by decide) (fun c23 => ?_) (fun c23 => ?_)
      · have h := pq_it c23 h
        refine pv_goto (tgt := 2770) C dL_law_482 (by decide) ?_
        refine pv_sub [2, 3, 4, 5, 6] rfl ?_
        cases h
        exact pv_wide (k := cells + 8) (n := slots + 48) (by omega) (by omega) kk
      · have h := pq_if c23 h
        cases h
  · have h := pq_if c20 h
    cases h
def F_L_c5 (G : pq_G) (S : pq_N) (xs : Nat → Int32) (L : Nat) (a1 a2 a3 : Nat) (x4 : Int32) : Option pq_N := (pq_bd (F_X10_day G S a1) fun v11 S12 => (pq_bd (F_X11_day G S12 a2) fun v14 S15 => (if v11 = v14 then some S15 else none)))
set_option maxHeartbeats 4000000 in
set_option maxRecDepth 100000 in
theorem r_L_c5 {p : Program} {l : Launch} {e : Env} {s : State} {m : MethodId} {av : Array Value} {below : List Frame} {meth : Method} {c : Code} {Q : State → Prop} {D : va_G} {y : pq_Y} {G : pq_G} (hl : l.stackTraces = false) (W0 : pq_WT G) (C : pq_C p s m av c D y RL wsL_law cL_law 9) (hX : pq_X (pq_A G s.heap.size) s s.heap) {bb L : Nat} {xs : Nat → Int32} (hXs : va_X bb L xs s s.heap) (hbl : bb < s.heap.size) (hbA : ¬ pq_A G s.heap.size bb) {a1 a2 a3 : Nat} (k1_ : pq_ok G 10 a1) (k2_ : pq_ok G 11 a2) (k3_ : pq_ok G 13 a3) {x4 : Int32} {S S1 : pq_N} {cells slots : Nat} (hc : cells + 8 ≤ 601024) (hs : slots + 48 ≤ 7293034) (h : F_L_c5 G S xs L a1 a2 a3 x4 = some S1) (kk : pq_V p l e room_1 s m av below meth c (cells + 8) (slots + 48) Q D y 9 (pq_A G s.heap.size) (fun _ => True) G S1 2770 [(0, .ref bb), (1, .ref a1), (2, .ref a2), (3, .ref a3), (4, .int x4)] []) : pq_V p l e room_1 s m av below meth c cells slots Q D y 9 (pq_A G s.heap.size) (fun _ => True) G S 485 [(0, .ref bb), (1, .ref a1), (2, .ref a2), (3, .ref a3), (4, .int x4)] [] := by
  unfold F_L_c5 at h
  refine pv_aload_n C 1 dL_law_485 rfl rfl ?_
  obtain ⟨v11, S12, e13, h⟩ := pq_bs h
  refine pv_calliV C (ci := 10) rfl (by decide) k1_ [] (fun sz => r_X10_day W0 k1_ e13 sz) (cwV 0 C.1.2.2.2.2 gL_law_X10_day rfl rfl rfl (by decide +kernel) ⟨Nat.le_of_ble_eq_true rfl, Nat.le_of_ble_eq_true rfl⟩) rfl rfl (Nat.le_of_ble_eq_true rfl) dL_law_486 ⟨Nat.le_trans (m := 601024) (by omega) (Nat.le_of_ble_eq_true rfl), Nat.le_trans (m := 7293034) (by omega) (Nat.le_of_ble_eq_true rfl)⟩ ?_
  refine pv_aload_n C 2 dL_law_489 rfl rfl ?_
  obtain ⟨v14, S15, e16, h⟩ := pq_bs h
  refine pv_calliV C (ci := 11) rfl (by decide) k2_ [] (fun sz => r_X11_day W0 k2_ e16 sz) (cwV 0 C.1.2.2.2.2 gL_law_X11_day rfl rfl rfl (by decide +kernel) ⟨Nat.le_of_ble_eq_true rfl, Nat.le_of_ble_eq_true rfl⟩) rfl rfl (Nat.le_of_ble_eq_true rfl) dL_law_490 ⟨Nat.le_trans (m := 601024) (by omega) (Nat.le_of_ble_eq_true rfl), Nat.le_trans (m := 7293034) (by omega) (Nat.le_of_ble_eq_true rfl)⟩ ?_
  refine pv_icmp_eq (tgt := 2770) C dL_law_493 (by decide) (fun c17 => ?_) (fun c17 => ?_)
  · have h := pq_it c17 h
    refine pv_sub [0, 1, 2, 3, 4] rfl ?_
    cases h
    exact pv_wide (k := cells + 8) (n := slots + 48) (by omega) (by omega) kk
  · have h := pq_if c17 h
    cases h
def F_L_c6 (G : pq_G) (S : pq_N) (xs : Nat → Int32) (L : Nat) (a1 a2 a3 : Nat) (x4 : Int32) : Option pq_N := (pq_bd (F_X10_pamphlets G S a1) fun v11 S12 => (pq_bd (F_X11_pamphlets G S12 a2) fun v14 S15 => (if v11 = v14 then some S15 else none)))
set_option maxHeartbeats 4000000 in
set_option maxRecDepth 100000 in
theorem r_L_c6 {p : Program} {l : Launch} {e : Env} {s : State} {m : MethodId} {av : Array Value} {below : List Frame} {meth : Method} {c : Code} {Q : State → Prop} {D : va_G} {y : pq_Y} {G : pq_G} (hl : l.stackTraces = false) (W0 : pq_WT G) (C : pq_C p s m av c D y RL wsL_law cL_law 9) (hX : pq_X (pq_A G s.heap.size) s s.heap) {bb L : Nat} {xs : Nat → Int32} (hXs : va_X bb L xs s s.heap) (hbl : bb < s.heap.size) (hbA : ¬ pq_A G s.heap.size bb) {a1 a2 a3 : Nat} (k1_ : pq_ok G 10 a1) (k2_ : pq_ok G 11 a2) (k3_ : pq_ok G 13 a3) {x4 : Int32} {S S1 : pq_N} {cells slots : Nat} (hc : cells + 8 ≤ 601024) (hs : slots + 48 ≤ 7293034) (h : F_L_c6 G S xs L a1 a2 a3 x4 = some S1) (kk : pq_V p l e room_1 s m av below meth c (cells + 8) (slots + 48) Q D y 9 (pq_A G s.heap.size) (fun _ => True) G S1 2770 [(0, .ref bb), (1, .ref a1), (2, .ref a2), (3, .ref a3), (4, .int x4)] []) : pq_V p l e room_1 s m av below meth c cells slots Q D y 9 (pq_A G s.heap.size) (fun _ => True) G S 498 [(0, .ref bb), (1, .ref a1), (2, .ref a2), (3, .ref a3), (4, .int x4)] [] := by
  unfold F_L_c6 at h
  refine pv_aload_n C 1 dL_law_498 rfl rfl ?_
  obtain ⟨v11, S12, e13, h⟩ := pq_bs h
  refine pv_calliV C (ci := 10) rfl (by decide) k1_ [] (fun sz => r_X10_pamphlets W0 k1_ e13 sz) (cwV 0 C.1.2.2.2.2 gL_law_X10_pamphlets rfl rfl rfl (by decide +kernel) ⟨Nat.le_of_ble_eq_true rfl, Nat.le_of_ble_eq_true rfl⟩) rfl rfl (Nat.le_of_ble_eq_true rfl) dL_law_499 ⟨Nat.le_trans (m := 601024) (by omega) (Nat.le_of_ble_eq_true rfl), Nat.le_trans (m := 7293034) (by omega) (Nat.le_of_ble_eq_true rfl)⟩ ?_
  refine pv_aload_n C 2 dL_law_502 rfl rfl ?_
  obtain ⟨v14, S15, e16, h⟩ := pq_bs h
  refine pv_calliV C (ci := 11) rfl (by decide) k2_ [] (fun sz => r_X11_pamphlets W0 k2_ e16 sz) (cwV 0 C.1.2.2.2.2 gL_law_X11_pamphlets rfl rfl rfl (by decide +kernel) ⟨Nat.le_of_ble_eq_true rfl, Nat.le_of_ble_eq_true rfl⟩) rfl rfl (Nat.le_of_ble_eq_true rfl) dL_law_503 ⟨Nat.le_trans (m := 601024) (by omega) (Nat.le_of_ble_eq_true rfl), Nat.le_trans (m := 7293034) (by omega) (Nat.le_of_ble_eq_true rfl)⟩ ?_
  refine pv_icmp_eq (tgt := 2770) C dL_law_506 (by decide) (fun c17 => ?_) (fun c17 => ?_)
  · have h := pq_it c17 h
    refine pv_sub [0, 1, 2, 3, 4] rfl ?_
    cases h
    exact pv_wide (k := cells + 8) (n := slots + 48) (by omega) (by omega) kk
  · have h := pq_if c17 h
    cases h
def F_L_c7 (G : pq_G) (S : pq_N) (xs : Nat → Int32) (L : Nat) (a1 a2 a3 : Nat) (x4 : Int32) : Option pq_N := (if (x4 + (1 : Int32)) < 0 ∨ L ≤ (Int32.toNatClampNeg (x4 + (1 : Int32))) then none else (pq_bd (F_L_authorOf G S a1 (xs (Int32.toNatClampNeg (x4 + (1 : Int32)))) a3) fun v12 S13 => (if (x4 + (1 : Int32)) < 0 ∨ L ≤ (Int32.toNatClampNeg (x4 + (1 : Int32))) then none else (pq_bd (F_X11_authorOf G S13 a2 (xs (Int32.toNatClampNeg (x4 + (1 : Int32))))) fun v16 S17 => (pq_bd (F_X11_thrown G S17 a2) fun v19 S20 => (if v19 = v12 then (if v12 = (0 : Int32) then (if (0 : Int32) < 0 ∨ pq_n G a3 ≤ (Int32.toNatClampNeg (0 : Int32)) then none else (if (lg_cmp (S20.2 a3 (Int32.toNatClampNeg (0 : Int32))) (Int32.toInt64 v16)) = (0 : Int32) then some S20 else none)) else some S20) else none))))))
set_option maxHeartbeats 4000000 in
set_option maxRecDepth 100000 in
theorem r_L_c7 {p : Program} {l : Launch} {e : Env} {s : State} {m : MethodId} {av : Array Value} {below : List Frame} {meth : Method} {c : Code} {Q : State → Prop} {D : va_G} {y : pq_Y} {G : pq_G} (hl : l.stackTraces = false) (W0 : pq_WT G) (C : pq_C p s m av c D y RL wsL_law cL_law 9) (hX : pq_X (pq_A G s.heap.size) s s.heap) {bb L : Nat} {xs : Nat → Int32} (hXs : va_X bb L xs s s.heap) (hbl : bb < s.heap.size) (hbA : ¬ pq_A G s.heap.size bb) {a1 a2 a3 : Nat} (k1_ : pq_ok G 10 a1) (k2_ : pq_ok G 11 a2) (k3_ : pq_ok G 13 a3) {x4 : Int32} {S S1 : pq_N} {cells slots : Nat} (hc : cells + 8 ≤ 601024) (hs : slots + 48 ≤ 7293034) (h : F_L_c7 G S xs L a1 a2 a3 x4 = some S1) (kk : pq_V p l e room_1 s m av below meth c (cells + 8) (slots + 48) Q D y 9 (pq_A G s.heap.size) (fun _ => True) G S1 2770 [(0, .ref bb), (1, .ref a1), (2, .ref a2), (3, .ref a3), (4, .int x4)] []) : pq_V p l e room_1 s m av below meth c cells slots Q D y 9 (pq_A G s.heap.size) (fun _ => True) G S 511 [(0, .ref bb), (1, .ref a1), (2, .ref a2), (3, .ref a3), (4, .int x4)] [] := by
  unfold F_L_c7 at h
  refine pv_aload_n C 1 dL_law_511 rfl rfl ?_
  refine pv_aload_n C 0 dL_law_512 rfl rfl ?_
  refine pv_iload C 4 dL_law_513 rfl ?_
  refine pv_iconst (v := 1) C dL_law_515 (by decide) ?_
  refine pv_iadd C dL_law_516 ?_
  obtain ⟨g11, h⟩ := pq_gd h
  refine pv_sld C hXs hbl hbA g11 dL_law_517 ?_
  refine pv_aload_n C 3 dL_law_518 rfl rfl ?_
  obtain ⟨v12, S13, e14, h⟩ := pq_bs h
  refine pv_hcalli C (kc := 1) (ks := 6) hX [.ref a1, .int (xs (Int32.toNatClampNeg (x4 + (1 : Int32)))), .ref a3] (fun sz => r_L_authorOf hl W0 k1_ k3_ e14 sz) (vx_cwSW 3 C.1.2.2.2.2 gL_law_L_authorOf rfl rfl rfl (by decide +kernel) ⟨Nat.le_of_ble_eq_true rfl, Nat.le_of_ble_eq_true rfl⟩) rfl rfl (Nat.le_of_ble_eq_true rfl) dL_law_519 ⟨Nat.le_trans (m := 601024) (by omega) (Nat.le_of_ble_eq_true rfl), Nat.le_trans (m := 7293034) (by omega) (Nat.le_of_ble_eq_true rfl)⟩ ?_
  refine pv_istore C [(5, .int v12), (0, .ref bb), (1, .ref a1), (2, .ref a2), (3, .ref a3), (4, .int x4)] dL_law_522 (by decide) rfl ?_
  refine pv_aload_n C 3 dL_law_524 rfl rfl ?_
  refine pv_aload_n C 1 dL_law_525 rfl rfl ?_
  refine pv_iload C 5 dL_law_526 rfl ?_
  refine pv_iconst (v := 1) C dL_law_528 (by decide) ?_
  refine pv_iadd C dL_law_529 ?_
  obtain ⟨g15, h⟩ := pq_gd h
  refine pv_sld C hXs hbl hbA g15 dL_law_530 ?_
  obtain ⟨v16, S17, e18, h⟩ := pq_bs h
  refine pv_calliV C (ci := 11) rfl (by decide) k2_ [.int (xs (Int32.toNatClampNeg (x4 + (1 : Int32))))] (fun sz => r_X11_authorOf W0 k2_ e18 sz) (cwV 1 C.1.2.2.2.2 gL_law_X11_authorOf rfl rfl rfl (by decide +kernel) ⟨Nat.le_of_ble_eq_true rfl, Nat.le_of_ble_eq_true rfl⟩) rfl rfl (Nat.le_of_ble_eq_true rfl) dL_law_531 ⟨Nat.le_trans (m := 601024) (by omega) (Nat.le_of_ble_eq_true rfl), Nat.le_trans (m := 7293034) (by omega) (Nat.le_of_ble_eq_true rfl)⟩ ?_
  refine pv_istore C [(6, .int v16), (5, .int v12), (0, .ref bb), (1, .ref a1), (2, .ref a2), (3, .ref a3), (4, .int x4)] dL_law_534 (by decide) rfl ?_
  refine pv_aload_n C 4 dL_law_536 rfl rfl ?_
  obtain ⟨v19, S20, e21, h⟩ := pq_bs h
  refine pv_calliV C (ci := 11) rfl (by decide) k2_ [] (fun sz => r_X11_thrown W0 k2_ e21 sz) (cwV 0 C.1.2.2.2.2 gL_law_X11_thrown rfl rfl rfl (by decide +kernel) ⟨Nat.le_of_ble_eq_true rfl, Nat.le_of_ble_eq_true rfl⟩) rfl rfl (Nat.le_of_ble_eq_true rfl) dL_law_537 ⟨Nat.le_trans (m := 601024) (by omega) (Nat.le_of_ble_eq_true rfl), Nat.le_trans (m := 7293034) (by omega) (Nat.le_of_ble_eq_true rfl)⟩ ?_
  refine pv_iload C 1 dL_law_540 rfl ?_
  refine pv_icmp_eq (tgt := 547) C dL_law_542 (by decide) (fun c22 => ?_) (fun c22 => ?_)
  · have h := pq_it c22 h
    refine pv_iload C 1 dL_law_547 rfl ?_
    refine pv_if_ne (tgt := 564) C dL_law_549 (by decide) (fun c23 => ?_) (fun c23 => ?_)
    · have h := pq_if c23 h
      refine pv_goto (tgt := 2770) C dL_law_564 (by decide) ?_
      refine pv_sub [2, 3, 4, 5, 6] rfl ?_
      cases h
      exact pv_wide (k := cells + 8) (n := slots + 48) (by omega) (by omega) kk
    · have h := pq_it c23 h
      refine pv_aload_n C 5 dL_law_552 rfl rfl ?_
      refine pv_iconst (v := 0) C dL_law_553 (by decide) ?_
      obtain ⟨g24, h⟩ := pq_gd h
      refine pv_laload C k3_ g24 dL_law_554 ?_
      refine pv_iload C 0 dL_law_555 rfl ?_
      refine pv_i2l C dL_law_557 ?_
      refine pv_lcmp C dL_law_558 ?_
      refine pv_if_eq (tgt := 564) C dL_law_559 (by decide) (fun c25 => ?_) (fun c25 => ?_)
      · have h := pq_it c25 h
        refine pv_goto (tgt := 2770) C dL_law_564 (by decide) ?_
        refine pv_sub [2, 3, 4, 5, 6] rfl ?_
        cases h
        exact pv_wide (k := cells + 8) (n := slots + 48) (by omega) (by omega) kk
      · have h := pq_if c25 h
        cases h
  · have h := pq_if c22 h
    cases h
def F_L_c8 (G : pq_G) (S : pq_N) (xs : Nat → Int32) (L : Nat) (a1 a2 a3 : Nat) (x4 : Int32) : Option pq_N := (if (x4 + (1 : Int32)) < 0 ∨ L ≤ (Int32.toNatClampNeg (x4 + (1 : Int32))) then none else (pq_bd (F_L_dayOf G S a1 (xs (Int32.toNatClampNeg (x4 + (1 : Int32)))) a3) fun v12 S13 => (if (x4 + (1 : Int32)) < 0 ∨ L ≤ (Int32.toNatClampNeg (x4 + (1 : Int32))) then none else (pq_bd (F_X11_dayOf G S13 a2 (xs (Int32.toNatClampNeg (x4 + (1 : Int32))))) fun v16 S17 => (pq_bd (F_X11_thrown G S17 a2) fun v19 S20 => (if v19 = v12 then (if v12 = (0 : Int32) then (if (0 : Int32) < 0 ∨ pq_n G a3 ≤ (Int32.toNatClampNeg (0 : Int32)) then none else (if (lg_cmp (S20.2 a3 (Int32.toNatClampNeg (0 : Int32))) (Int32.toInt64 v16)) = (0 : Int32) then some S20 else none)) else some S20) else none))))))
set_option maxHeartbeats 4000000 in
set_option maxRecDepth 100000 in
theorem r_L_c8 {p : Program} {l : Launch} {e : Env} {s : State} {m : MethodId} {av : Array Value} {below : List Frame} {meth : Method} {c : Code} {Q : State → Prop} {D : va_G} {y : pq_Y} {G : pq_G} (hl : l.stackTraces = false) (W0 : pq_WT G) (C : pq_C p s m av c D y RL wsL_law cL_law 9) (hX : pq_X (pq_A G s.heap.size) s s.heap) {bb L : Nat} {xs : Nat → Int32} (hXs : va_X bb L xs s s.heap) (hbl : bb < s.heap.size) (hbA : ¬ pq_A G s.heap.size bb) {a1 a2 a3 : Nat} (k1_ : pq_ok G 10 a1) (k2_ : pq_ok G 11 a2) (k3_ : pq_ok G 13 a3) {x4 : Int32} {S S1 : pq_N} {cells slots : Nat} (hc : cells + 8 ≤ 601024) (hs : slots + 48 ≤ 7293034) (h : F_L_c8 G S xs L a1 a2 a3 x4 = some S1) (kk : pq_V p l e room_1 s m av below meth c (cells + 8) (slots + 48) Q D y 9 (pq_A G s.heap.size) (fun _ => True) G S1 2770 [(0, .ref bb), (1, .ref a1), (2, .ref a2), (3, .ref a3), (4, .int x4)] []) : pq_V p l e room_1 s m av below meth c cells slots Q D y 9 (pq_A G s.heap.size) (fun _ => True) G S 567 [(0, .ref bb), (1, .ref a1), (2, .ref a2), (3, .ref a3), (4, .int x4)] [] := by
  unfold F_L_c8 at h
  refine pv_aload_n C 1 dL_law_567 rfl rfl ?_
  refine pv_aload_n C 0 dL_law_568 rfl rfl ?_
  refine pv_iload C 4 dL_law_569 rfl ?_
  refine pv_iconst (v := 1) C dL_law_571 (by decide) ?_
  refine pv_iadd C dL_law_572 ?_
  obtain ⟨g11, h⟩ := pq_gd h
  refine pv_sld C hXs hbl hbA g11 dL_law_573 ?_
  refine pv_aload_n C 3 dL_law_574 rfl rfl ?_
  obtain ⟨v12, S13, e14, h⟩ := pq_bs h
  refine pv_hcalli C (kc := 1) (ks := 6) hX [.ref a1, .int (xs (Int32.toNatClampNeg (x4 + (1 : Int32)))), .ref a3] (fun sz => r_L_dayOf hl W0 k1_ k3_ e14 sz) (vx_cwSW 3 C.1.2.2.2.2 gL_law_L_dayOf rfl rfl rfl (by decide +kernel) ⟨Nat.le_of_ble_eq_true rfl, Nat.le_of_ble_eq_true rfl⟩) rfl rfl (Nat.le_of_ble_eq_true rfl) dL_law_575 ⟨Nat.le_trans (m := 601024) (by omega) (Nat.le_of_ble_eq_true rfl), Nat.le_trans (m := 7293034) (by omega) (Nat.le_of_ble_eq_true rfl)⟩ ?_
  refine pv_istore C [(5, .int v12), (0, .ref bb), (1, .ref a1), (2, .ref a2), (3, .ref a3), (4, .int x4)] dL_law_578 (by decide) rfl ?_
  refine pv_aload_n C 3 dL_law_580 rfl rfl ?_
  refine pv_aload_n C 1 dL_law_581 rfl rfl ?_
  refine pv_iload C 5 dL_law_582 rfl ?_
  refine pv_iconst (v := 1) C dL_law_584 (by decide) ?_
  refine pv_iadd C dL_law_585 ?_
  obtain ⟨g15, h⟩ := pq_gd h
  refine pv_sld C hXs hbl hbA g15 dL_law_586 ?_
  obtain ⟨v16, S17, e18, h⟩ := pq_bs h
  refine pv_calliV C (ci := 11) rfl (by decide) k2_ [.int (xs (Int32.toNatClampNeg (x4 + (1 : Int32))))] (fun sz => r_X11_dayOf W0 k2_ e18 sz) (cwV 1 C.1.2.2.2.2 gL_law_X11_dayOf rfl rfl rfl (by decide +kernel) ⟨Nat.le_of_ble_eq_true rfl, Nat.le_of_ble_eq_true rfl⟩) rfl rfl (Nat.le_of_ble_eq_true rfl) dL_law_587 ⟨Nat.le_trans (m := 601024) (by omega) (Nat.le_of_ble_eq_true rfl), Nat.le_trans (m := 7293034) (by omega) (Nat.le_of_ble_eq_true rfl)⟩ ?_
  refine pv_istore C [(6, .int v16), (5, .int v12), (0, .ref bb), (1, .ref a1), (2, .ref a2), (3, .ref a3), (4, .int x4)] dL_law_590 (by decide) rfl ?_
  refine pv_aload_n C 4 dL_law_592 rfl rfl ?_
  obtain ⟨v19, S20, e21, h⟩ := pq_bs h
  refine pv_calliV C (ci := 11) rfl (by decide) k2_ [] (fun sz => r_X11_thrown W0 k2_ e21 sz) (cwV 0 C.1.2.2.2.2 gL_law_X11_thrown rfl rfl rfl (by decide +kernel) ⟨Nat.le_of_ble_eq_true rfl, Nat.le_of_ble_eq_true rfl⟩) rfl rfl (Nat.le_of_ble_eq_true rfl) dL_law_593 ⟨Nat.le_trans (m := 601024) (by omega) (Nat.le_of_ble_eq_true rfl), Nat.le_trans (m := 7293034) (by omega) (Nat.le_of_ble_eq_true rfl)⟩ ?_
  refine pv_iload C 1 dL_law_596 rfl ?_
  refine pv_icmp_eq (tgt := 603) C dL_law_598 (by decide) (fun c22 => ?_) (fun c22 => ?_)
  · have h := pq_it c22 h
    refine pv_iload C 1 dL_law_603 rfl ?_
    refine pv_if_ne (tgt := 620) C dL_law_605 (by decide) (fun c23 => ?_) (fun c23 => ?_)
    · have h := pq_if c23 h
      refine pv_goto (tgt := 2770) C dL_law_620 (by decide) ?_
      refine pv_sub [2, 3, 4, 5, 6] rfl ?_
      cases h
      exact pv_wide (k := cells + 8) (n := slots + 48) (by omega) (by omega) kk
    · have h := pq_it c23 h
      refine pv_aload_n C 5 dL_law_608 rfl rfl ?_
      refine pv_iconst (v := 0) C dL_law_609 (by decide) ?_
      obtain ⟨g24, h⟩ := pq_gd h
      refine pv_laload C k3_ g24 dL_law_610 ?_
      refine pv_iload C 0 dL_law_611 rfl ?_
      refine pv_i2l C dL_law_613 ?_
      refine pv_lcmp C dL_law_614 ?_
      refine pv_if_eq (tgt := 620) C dL_law_615 (by decide) (fun c25 => ?_) (fun c25 => ?_)
      · have h := pq_it c25 h
        refine pv_goto (tgt := 2770) C dL_law_620 (by decide) ?_
        refine pv_sub [2, 3, 4, 5, 6] rfl ?_
        cases h
        exact pv_wide (k := cells + 8) (n := slots + 48) (by omega) (by omega) kk
      · have h := pq_if c25 h
        cases h
  · have h := pq_if c22 h
    cases h
def F_L_c9 (G : pq_G) (S : pq_N) (xs : Nat → Int32) (L : Nat) (a1 a2 a3 : Nat) (x4 : Int32) : Option pq_N := (if (x4 + (1 : Int32)) < 0 ∨ L ≤ (Int32.toNatClampNeg (x4 + (1 : Int32))) then none else (pq_bd (F_L_wordsOf G S a1 (xs (Int32.toNatClampNeg (x4 + (1 : Int32)))) a3) fun v12 S13 => (if (x4 + (1 : Int32)) < 0 ∨ L ≤ (Int32.toNatClampNeg (x4 + (1 : Int32))) then none else (pq_bd (F_X11_wordsOf G S13 a2 (xs (Int32.toNatClampNeg (x4 + (1 : Int32))))) fun v16 S17 => (pq_bd (F_X11_thrown G S17 a2) fun v19 S20 => (if v19 = v12 then (if v12 = (0 : Int32) then (if (0 : Int32) < 0 ∨ pq_n G a3 ≤ (Int32.toNatClampNeg (0 : Int32)) then none else (if (lg_cmp (S20.2 a3 (Int32.toNatClampNeg (0 : Int32))) (Int32.toInt64 v16)) = (0 : Int32) then some S20 else none)) else some S20) else none))))))
set_option maxHeartbeats 4000000 in
set_option maxRecDepth 100000 in
theorem r_L_c9 {p : Program} {l : Launch} {e : Env} {s : State} {m : MethodId} {av : Array Value} {below : List Frame} {meth : Method} {c : Code} {Q : State → Prop} {D : va_G} {y : pq_Y} {G : pq_G} (hl : l.stackTraces = false) (W0 : pq_WT G) (C : pq_C p s m av c D y RL wsL_law cL_law 9) (hX : pq_X (pq_A G s.heap.size) s s.heap) {bb L : Nat} {xs : Nat → Int32} (hXs : va_X bb L xs s s.heap) (hbl : bb < s.heap.size) (hbA : ¬ pq_A G s.heap.size bb) {a1 a2 a3 : Nat} (k1_ : pq_ok G 10 a1) (k2_ : pq_ok G 11 a2) (k3_ : pq_ok G 13 a3) {x4 : Int32} {S S1 : pq_N} {cells slots : Nat} (hc : cells + 8 ≤ 601024) (hs : slots + 48 ≤ 7293034) (h : F_L_c9 G S xs L a1 a2 a3 x4 = some S1) (kk : pq_V p l e room_1 s m av below meth c (cells + 8) (slots + 48) Q D y 9 (pq_A G s.heap.size) (fun _ => True) G S1 2770 [(0, .ref bb), (1, .ref a1), (2, .ref a2), (3, .ref a3), (4, .int x4)] []) : pq_V p l e room_1 s m av below meth c cells slots Q D y 9 (pq_A G s.heap.size) (fun _ => True) G S 623 [(0, .ref bb), (1, .ref a1), (2, .ref a2), (3, .ref a3), (4, .int x4)] [] := by
  unfold F_L_c9 at h
  refine pv_aload_n C 1 dL_law_623 rfl rfl ?_
  refine pv_aload_n C 0 dL_law_624 rfl rfl ?_
  refine pv_iload C 4 dL_law_625 rfl ?_
  refine pv_iconst (v := 1) C dL_law_627 (by decide) ?_
  refine pv_iadd C dL_law_628 ?_
  obtain ⟨g11, h⟩ := pq_gd h
  refine pv_sld C hXs hbl hbA g11 dL_law_629 ?_
  refine pv_aload_n C 3 dL_law_630 rfl rfl ?_
  obtain ⟨v12, S13, e14, h⟩ := pq_bs h
  refine pv_hcalli C (kc := 1) (ks := 6) hX [.ref a1, .int (xs (Int32.toNatClampNeg (x4 + (1 : Int32)))), .ref a3] (fun sz => r_L_wordsOf hl W0 k1_ k3_ e14 sz) (vx_cwSW 3 C.1.2.2.2.2 gL_law_L_wordsOf rfl rfl rfl (by decide +kernel) ⟨Nat.le_of_ble_eq_true rfl, Nat.le_of_ble_eq_true rfl⟩) rfl rfl (Nat.le_of_ble_eq_true rfl) dL_law_631 ⟨Nat.le_trans (m := 601024) (by omega) (Nat.le_of_ble_eq_true rfl), Nat.le_trans (m := 7293034) (by omega) (Nat.le_of_ble_eq_true rfl)⟩ ?_
  refine pv_istore C [(5, .int v12), (0, .ref bb), (1, .ref a1), (2, .ref a2), (3, .ref a3), (4, .int x4)] dL_law_634 (by decide) rfl ?_
  refine pv_aload_n C 3 dL_law_636 rfl rfl ?_
  refine pv_aload_n C 1 dL_law_637 rfl rfl ?_
  refine pv_iload C 5 dL_law_638 rfl ?_
  refine pv_iconst (v := 1) C dL_law_640 (by decide) ?_
  refine pv_iadd C dL_law_641 ?_
  obtain ⟨g15, h⟩ := pq_gd h
  refine pv_sld C hXs hbl hbA g15 dL_law_642 ?_
  obtain ⟨v16, S17, e18, h⟩ := pq_bs h
  refine pv_calliV C (ci := 11) rfl (by decide) k2_ [.int (xs (Int32.toNatClampNeg (x4 + (1 : Int32))))] (fun sz => r_X11_wordsOf W0 k2_ e18 sz) (cwV 1 C.1.2.2.2.2 gL_law_X11_wordsOf rfl rfl rfl (by decide +kernel) ⟨Nat.le_of_ble_eq_true rfl, Nat.le_of_ble_eq_true rfl⟩) rfl rfl (Nat.le_of_ble_eq_true rfl) dL_law_643 ⟨Nat.le_trans (m := 601024) (by omega) (Nat.le_of_ble_eq_true rfl), Nat.le_trans (m := 7293034) (by omega) (Nat.le_of_ble_eq_true rfl)⟩ ?_
  refine pv_istore C [(6, .int v16), (5, .int v12), (0, .ref bb), (1, .ref a1), (2, .ref a2), (3, .ref a3), (4, .int x4)] dL_law_646 (by decide) rfl ?_
  refine pv_aload_n C 4 dL_law_648 rfl rfl ?_
  obtain ⟨v19, S20, e21, h⟩ := pq_bs h
  refine pv_calliV C (ci := 11) rfl (by decide) k2_ [] (fun sz => r_X11_thrown W0 k2_ e21 sz) (cwV 0 C.1.2.2.2.2 gL_law_X11_thrown rfl rfl rfl (by decide +kernel) ⟨Nat.le_of_ble_eq_true rfl, Nat.le_of_ble_eq_true rfl⟩) rfl rfl (Nat.le_of_ble_eq_true rfl) dL_law_649 ⟨Nat.le_trans (m := 601024) (by omega) (Nat.le_of_ble_eq_true rfl), Nat.le_trans (m := 7293034) (by omega) (Nat.le_of_ble_eq_true rfl)⟩ ?_
  refine pv_iload C 1 dL_law_652 rfl ?_
  refine pv_icmp_eq (tgt := 659) C dL_law_654 (by decide) (fun c22 => ?_) (fun c22 => ?_)
  · have h := pq_it c22 h
    refine pv_iload C 1 dL_law_659 rfl ?_
    refine pv_if_ne (tgt := 676) C dL_law_661 (by decide) (fun c23 => ?_) (fun c23 => ?_)
    · have h := pq_if c23 h
      refine pv_goto (tgt := 2770) C dL_law_676 (by decide) ?_
      refine pv_sub [2, 3, 4, 5, 6] rfl ?_
      cases h
      exact pv_wide (k := cells + 8) (n := slots + 48) (by omega) (by omega) kk
    · have h := pq_it c23 h
      refine pv_aload_n C 5 dL_law_664 rfl rfl ?_
      refine pv_iconst (v := 0) C dL_law_665 (by decide) ?_
      obtain ⟨g24, h⟩ := pq_gd h
      refine pv_laload C k3_ g24 dL_law_666 ?_
      refine pv_iload C 0 dL_law_667 rfl ?_
      refine pv_i2l C dL_law_669 ?_
      refine pv_lcmp C dL_law_670 ?_
      refine pv_if_eq (tgt := 676) C dL_law_671 (by decide) (fun c25 => ?_) (fun c25 => ?_)
      · have h := pq_it c25 h
        refine pv_goto (tgt := 2770) C dL_law_676 (by decide) ?_
        refine pv_sub [2, 3, 4, 5, 6] rfl ?_
        cases h
        exact pv_wide (k := cells + 8) (n := slots + 48) (by omega) (by omega) kk
      · have h := pq_if c25 h
        cases h
  · have h := pq_if c22 h
    cases h
def F_L_c10 (G : pq_G) (S : pq_N) (xs : Nat → Int32) (L : Nat) (a1 a2 a3 : Nat) (x4 : Int32) : Option pq_N := (if (x4 + (1 : Int32)) < 0 ∨ L ≤ (Int32.toNatClampNeg (x4 + (1 : Int32))) then none else (pq_bd (F_L_pagesOf G S a1 (xs (Int32.toNatClampNeg (x4 + (1 : Int32)))) a3) fun v12 S13 => (if (x4 + (1 : Int32)) < 0 ∨ L ≤ (Int32.toNatClampNeg (x4 + (1 : Int32))) then none else (pq_bd (F_X11_pagesOf G S13 a2 (xs (Int32.toNatClampNeg (x4 + (1 : Int32))))) fun v16 S17 => (pq_bd (F_X11_thrown G S17 a2) fun v19 S20 => (if v19 = v12 then (if v12 = (0 : Int32) then (if (0 : Int32) < 0 ∨ pq_n G a3 ≤ (Int32.toNatClampNeg (0 : Int32)) then none else (if (lg_cmp (S20.2 a3 (Int32.toNatClampNeg (0 : Int32))) (Int32.toInt64 v16)) = (0 : Int32) then some S20 else none)) else some S20) else none))))))
set_option maxHeartbeats 4000000 in
set_option maxRecDepth 100000 in
theorem r_L_c10 {p : Program} {l : Launch} {e : Env} {s : State} {m : MethodId} {av : Array Value} {below : List Frame} {meth : Method} {c : Code} {Q : State → Prop} {D : va_G} {y : pq_Y} {G : pq_G} (hl : l.stackTraces = false) (W0 : pq_WT G) (C : pq_C p s m av c D y RL wsL_law cL_law 9) (hX : pq_X (pq_A G s.heap.size) s s.heap) {bb L : Nat} {xs : Nat → Int32} (hXs : va_X bb L xs s s.heap) (hbl : bb < s.heap.size) (hbA : ¬ pq_A G s.heap.size bb) {a1 a2 a3 : Nat} (k1_ : pq_ok G 10 a1) (k2_ : pq_ok G 11 a2) (k3_ : pq_ok G 13 a3) {x4 : Int32} {S S1 : pq_N} {cells slots : Nat} (hc : cells + 8 ≤ 601024) (hs : slots + 48 ≤ 7293034) (h : F_L_c10 G S xs L a1 a2 a3 x4 = some S1) (kk : pq_V p l e room_1 s m av below meth c (cells + 8) (slots + 48) Q D y 9 (pq_A G s.heap.size) (fun _ => True) G S1 2770 [(0, .ref bb), (1, .ref a1), (2, .ref a2), (3, .ref a3), (4, .int x4)] []) : pq_V p l e room_1 s m av below meth c cells slots Q D y 9 (pq_A G s.heap.size) (fun _ => True) G S 679 [(0, .ref bb), (1, .ref a1), (2, .ref a2), (3, .ref a3), (4, .int x4)] [] := by
  unfold F_L_c10 at h
  refine pv_aload_n C 1 dL_law_679 rfl rfl ?_
  refine pv_aload_n C 0 dL_law_680 rfl rfl ?_
  refine pv_iload C 4 dL_law_681 rfl ?_
  refine pv_iconst (v := 1) C dL_law_683 (by decide) ?_
  refine pv_iadd C dL_law_684 ?_
  obtain ⟨g11, h⟩ := pq_gd h
  refine pv_sld C hXs hbl hbA g11 dL_law_685 ?_
  refine pv_aload_n C 3 dL_law_686 rfl rfl ?_
  obtain ⟨v12, S13, e14, h⟩ := pq_bs h
  refine pv_hcalli C (kc := 1) (ks := 6) hX [.ref a1, .int (xs (Int32.toNatClampNeg (x4 + (1 : Int32)))), .ref a3] (fun sz => r_L_pagesOf hl W0 k1_ k3_ e14 sz) (vx_cwSW 3 C.1.2.2.2.2 gL_law_L_pagesOf rfl rfl rfl (by decide +kernel) ⟨Nat.le_of_ble_eq_true rfl, Nat.le_of_ble_eq_true rfl⟩) rfl rfl (Nat.le_of_ble_eq_true rfl) dL_law_687 ⟨Nat.le_trans (m := 601024) (by omega) (Nat.le_of_ble_eq_true rfl), Nat.le_trans (m := 7293034) (by omega) (Nat.le_of_ble_eq_true rfl)⟩ ?_
  refine pv_istore C [(5, .int v12), (0, .ref bb), (1, .ref a1), (2, .ref a2), (3, .ref a3), (4, .int x4)] dL_law_690 (by decide) rfl ?_
  refine pv_aload_n C 3 dL_law_692 rfl rfl ?_
  refine pv_aload_n C 1 dL_law_693 rfl rfl ?_
  refine pv_iload C 5 dL_law_694 rfl ?_
  refine pv_iconst (v := 1) C dL_law_696 (by decide) ?_
  refine pv_iadd C dL_law_697 ?_
  obtain ⟨g15, h⟩ := pq_gd h
  refine pv_sld C hXs hbl hbA g15 dL_law_698 ?_
  obtain ⟨v16, S17, e18, h⟩ := pq_bs h
  refine pv_calliV C (ci := 11) rfl (by decide) k2_ [.int (xs (Int32.toNatClampNeg (x4 + (1 : Int32))))] (fun sz => r_X11_pagesOf W0 k2_ e18 sz) (cwV 1 C.1.2.2.2.2 gL_law_X11_pagesOf rfl rfl rfl (by decide +kernel) ⟨Nat.le_of_ble_eq_true rfl, Nat.le_of_ble_eq_true rfl⟩) rfl rfl (Nat.le_of_ble_eq_true rfl) dL_law_699 ⟨Nat.le_trans (m := 601024) (by omega) (Nat.le_of_ble_eq_true rfl), Nat.le_trans (m := 7293034) (by omega) (Nat.le_of_ble_eq_true rfl)⟩ ?_
  refine pv_istore C [(6, .int v16), (5, .int v12), (0, .ref bb), (1, .ref a1), (2, .ref a2), (3, .ref a3), (4, .int x4)] dL_law_702 (by decide) rfl ?_
  refine pv_aload_n C 4 dL_law_704 rfl rfl ?_
  obtain ⟨v19, S20, e21, h⟩ := pq_bs h
  refine pv_calliV C (ci := 11) rfl (by decide) k2_ [] (fun sz => r_X11_thrown W0 k2_ e21 sz) (cwV 0 C.1.2.2.2.2 gL_law_X11_thrown rfl rfl rfl (by decide +kernel) ⟨Nat.le_of_ble_eq_true rfl, Nat.le_of_ble_eq_true rfl⟩) rfl rfl (Nat.le_of_ble_eq_true rfl) dL_law_705 ⟨Nat.le_trans (m := 601024) (by omega) (Nat.le_of_ble_eq_true rfl), Nat.le_trans (m := 7293034) (by omega) (Nat.le_of_ble_eq_true rfl)⟩ ?_
  refine pv_iload C 1 dL_law_708 rfl ?_
  refine pv_icmp_eq (tgt := 715) C dL_law_710 (by decide) (fun c22 => ?_) (fun c22 => ?_)
  · have h := pq_it c22 h
    refine pv_iload C 1 dL_law_715 rfl ?_
    refine pv_if_ne (tgt := 732) C dL_law_717 (by decide) (fun c23 => ?_) (fun c23 => ?_)
    · have h := pq_if c23 h
      refine pv_goto (tgt := 2770) C dL_law_732 (by decide) ?_
      refine pv_sub [2, 3, 4, 5, 6] rfl ?_
      cases h
      exact pv_wide (k := cells + 8) (n := slots + 48) (by omega) (by omega) kk
    · have h := pq_it c23 h
      refine pv_aload_n C 5 dL_law_720 rfl rfl ?_
      refine pv_iconst (v := 0) C dL_law_721 (by decide) ?_
      obtain ⟨g24, h⟩ := pq_gd h
      refine pv_laload C k3_ g24 dL_law_722 ?_
      refine pv_iload C 0 dL_law_723 rfl ?_
      refine pv_i2l C dL_law_725 ?_
      refine pv_lcmp C dL_law_726 ?_
      refine pv_if_eq (tgt := 732) C dL_law_727 (by decide) (fun c25 => ?_) (fun c25 => ?_)
      · have h := pq_it c25 h
        refine pv_goto (tgt := 2770) C dL_law_732 (by decide) ?_
        refine pv_sub [2, 3, 4, 5, 6] rfl ?_
        cases h
        exact pv_wide (k := cells + 8) (n := slots + 48) (by omega) (by omega) kk
      · have h := pq_if c25 h
        cases h
  · have h := pq_if c22 h
    cases h
def F_L_c11 (G : pq_G) (S : pq_N) (xs : Nat → Int32) (L : Nat) (a1 a2 a3 : Nat) (x4 : Int32) : Option pq_N := (if (x4 + (1 : Int32)) < 0 ∨ L ≤ (Int32.toNatClampNeg (x4 + (1 : Int32))) then none else (if (x4 + (2 : Int32)) < 0 ∨ L ≤ (Int32.toNatClampNeg (x4 + (2 : Int32))) then none else (pq_bd (F_L_wordsOn G S a1 (xs (Int32.toNatClampNeg (x4 + (1 : Int32)))) (xs (Int32.toNatClampNeg (x4 + (2 : Int32)))) a3) fun v13 S14 => (if (x4 + (1 : Int32)) < 0 ∨ L ≤ (Int32.toNatClampNeg (x4 + (1 : Int32))) then none else (if (x4 + (2 : Int32)) < 0 ∨ L ≤ (Int32.toNatClampNeg (x4 + (2 : Int32))) then none else (pq_bd (F_X11_wordsOn G S14 a2 (xs (Int32.toNatClampNeg (x4 + (1 : Int32)))) (xs (Int32.toNatClampNeg (x4 + (2 : Int32))))) fun v18 S19 => (pq_bd (F_X11_thrown G S19 a2) fun v21 S22 => (if v21 = v13 then (if v13 = (0 : Int32) then (if (0 : Int32) < 0 ∨ pq_n G a3 ≤ (Int32.toNatClampNeg (0 : Int32)) then none else (if (lg_cmp (S22.2 a3 (Int32.toNatClampNeg (0 : Int32))) (Int32.toInt64 v18)) = (0 : Int32) then some S22 else none)) else some S22) else none))))))))
set_option maxHeartbeats 4000000 in
set_option maxRecDepth 100000 in
theorem r_L_c11 {p : Program} {l : Launch} {e : Env} {s : State} {m : MethodId} {av : Array Value} {below : List Frame} {meth : Method} {c : Code} {Q : State → Prop} {D : va_G} {y : pq_Y} {G : pq_G} (hl : l.stackTraces = false) (W0 : pq_WT G) (C : pq_C p s m av c D y RL wsL_law cL_law 9) (hX : pq_X (pq_A G s.heap.size) s s.heap) {bb L : Nat} {xs : Nat → Int32} (hXs : va_X bb L xs s s.heap) (hbl : bb < s.heap.size) (hbA : ¬ pq_A G s.heap.size bb) {a1 a2 a3 : Nat} (k1_ : pq_ok G 10 a1) (k2_ : pq_ok G 11 a2) (k3_ : pq_ok G 13 a3) {x4 : Int32} {S S1 : pq_N} {cells slots : Nat} (hc : cells + 8 ≤ 601024) (hs : slots + 48 ≤ 7293034) (h : F_L_c11 G S xs L a1 a2 a3 x4 = some S1) (kk : pq_V p l e room_1 s m av below meth c (cells + 8) (slots + 48) Q D y 9 (pq_A G s.heap.size) (fun _ => True) G S1 2770 [(0, .ref bb), (1, .ref a1), (2, .ref a2), (3, .ref a3), (4, .int x4)] []) : pq_V p l e room_1 s m av below meth c cells slots Q D y 9 (pq_A G s.heap.size) (fun _ => True) G S 735 [(0, .ref bb), (1, .ref a1), (2, .ref a2), (3, .ref a3), (4, .int x4)] [] := by
  unfold F_L_c11 at h
  refine pv_aload_n C 1 dL_law_735 rfl rfl ?_
  refine pv_aload_n C 0 dL_law_736 rfl rfl ?_
  refine pv_iload C 4 dL_law_737 rfl ?_
  refine pv_iconst (v := 1) C dL_law_739 (by decide) ?_
  refine pv_iadd C dL_law_740 ?_
  obtain ⟨g11, h⟩ := pq_gd h
  refine pv_sld C hXs hbl hbA g11 dL_law_741 ?_
  refine pv_aload_n C 0 dL_law_742 rfl rfl ?_
  refine pv_iload C 4 dL_law_743 rfl ?_
  refine pv_iconst (v := 2) C dL_law_745 (by decide) ?_
  refine pv_iadd C dL_law_746 ?_
  obtain ⟨g12, h⟩ := pq_gd h
  refine pv_sld C hXs hbl hbA g12 dL_law_747 ?_
  refine pv_aload_n C 3 dL_law_748 rfl rfl ?_
  obtain ⟨v13, S14, e15, h⟩ := pq_bs h
  refine pv_hcalli C (kc := 2) (ks := 12) hX [.ref a1, .int (xs (Int32.toNatClampNeg (x4 + (1 : Int32)))), .int (xs (Int32.toNatClampNeg (x4 + (2 : Int32)))), .ref a3] (fun sz => r_L_wordsOn hl W0 k1_ k3_ e15 sz) (vx_cwSW 4 C.1.2.2.2.2 gL_law_L_wordsOn rfl rfl rfl (by decide +kernel) ⟨Nat.le_of_ble_eq_true rfl, Nat.le_of_ble_eq_true rfl⟩) rfl rfl (Nat.le_of_ble_eq_true rfl) dL_law_749 ⟨Nat.le_trans (m := 601024) (by omega) (Nat.le_of_ble_eq_true rfl), Nat.le_trans (m := 7293034) (by omega) (Nat.le_of_ble_eq_true rfl)⟩ ?_
  refine pv_istore C [(5, .int v13), (0, .ref bb), (1, .ref a1), (2, .ref a2), (3, .ref a3), (4, .int x4)] dL_law_752 (by decide) rfl ?_
  refine pv_aload_n C 3 dL_law_754 rfl rfl ?_
  refine pv_aload_n C 1 dL_law_755 rfl rfl ?_
  refine pv_iload C 5 dL_law_756 rfl ?_
  refine pv_iconst (v := 1) C dL_law_758 (by decide) ?_
  refine pv_iadd C dL_law_759 ?_
  obtain ⟨g16, h⟩ := pq_gd h
  refine pv_sld C hXs hbl hbA g16 dL_law_760 ?_
  refine pv_aload_n C 1 dL_law_761 rfl rfl ?_
  refine pv_iload C 5 dL_law_762 rfl ?_
  refine pv_iconst (v := 2) C dL_law_764 (by decide) ?_
  refine pv_iadd C dL_law_765 ?_
  obtain ⟨g17, h⟩ := pq_gd h
  refine pv_sld C hXs hbl hbA g17 dL_law_766 ?_
  obtain ⟨v18, S19, e20, h⟩ := pq_bs h
  refine pv_calliV C (ci := 11) rfl (by decide) k2_ [.int (xs (Int32.toNatClampNeg (x4 + (1 : Int32)))), .int (xs (Int32.toNatClampNeg (x4 + (2 : Int32))))] (fun sz => r_X11_wordsOn W0 k2_ e20 sz) (cwV 2 C.1.2.2.2.2 gL_law_X11_wordsOn rfl rfl rfl (by decide +kernel) ⟨Nat.le_of_ble_eq_true rfl, Nat.le_of_ble_eq_true rfl⟩) rfl rfl (Nat.le_of_ble_eq_true rfl) dL_law_767 ⟨Nat.le_trans (m := 601024) (by omega) (Nat.le_of_ble_eq_true rfl), Nat.le_trans (m := 7293034) (by omega) (Nat.le_of_ble_eq_true rfl)⟩ ?_
  refine pv_istore C [(6, .int v18), (5, .int v13), (0, .ref bb), (1, .ref a1), (2, .ref a2), (3, .ref a3), (4, .int x4)] dL_law_770 (by decide) rfl ?_
  refine pv_aload_n C 4 dL_law_772 rfl rfl ?_
  obtain ⟨v21, S22, e23, h⟩ := pq_bs h
  refine pv_calliV C (ci := 11) rfl (by decide) k2_ [] (fun sz => r_X11_thrown W0 k2_ e23 sz) (cwV 0 C.1.2.2.2.2 gL_law_X11_thrown rfl rfl rfl (by decide +kernel) ⟨Nat.le_of_ble_eq_true rfl, Nat.le_of_ble_eq_true rfl⟩) rfl rfl (Nat.le_of_ble_eq_true rfl) dL_law_773 ⟨Nat.le_trans (m := 601024) (by omega) (Nat.le_of_ble_eq_true rfl), Nat.le_trans (m := 7293034) (by omega) (Nat.le_of_ble_eq_true rfl)⟩ ?_
  refine pv_iload C 1 dL_law_776 rfl ?_
  refine pv_icmp_eq (tgt := 783) C dL_law_778 (by decide) (fun c24 => ?_) (fun c24 => ?_)
  · have h := pq_it c24 h
    refine pv_iload C 1 dL_law_783 rfl ?_
    refine pv_if_ne (tgt := 800) C dL_law_785 (by decide) (fun c25 => ?_) (fun c25 => ?_)
    · have h := pq_if c25 h
      refine pv_goto (tgt := 2770) C dL_law_800 (by decide) ?_
      refine pv_sub [2, 3, 4, 5, 6] rfl ?_
      cases h
      exact pv_wide (k := cells + 8) (n := slots + 48) (by omega) (by omega) kk
    · have h := pq_it c25 h
      refine pv_aload_n C 5 dL_law_788 rfl rfl ?_
      refine pv_iconst (v := 0) C dL_law_789 (by decide) ?_
      obtain ⟨g26, h⟩ := pq_gd h
      refine pv_laload C k3_ g26 dL_law_790 ?_
      refine pv_iload C 0 dL_law_791 rfl ?_
      refine pv_i2l C dL_law_793 ?_
      refine pv_lcmp C dL_law_794 ?_
      refine pv_if_eq (tgt := 800) C dL_law_795 (by decide) (fun c27 => ?_) (fun c27 => ?_)
      · have h := pq_it c27 h
        refine pv_goto (tgt := 2770) C dL_law_800 (by decide) ?_
        refine pv_sub [2, 3, 4, 5, 6] rfl ?_
        cases h
        exact pv_wide (k := cells + 8) (n := slots + 48) (by omega) (by omega) kk
      · have h := pq_if c27 h
        cases h
  · have h := pq_if c24 h
    cases h
def F_L_c12 (G : pq_G) (S : pq_N) (xs : Nat → Int32) (L : Nat) (a1 a2 a3 : Nat) (x4 : Int32) : Option pq_N := (if (x4 + (1 : Int32)) < 0 ∨ L ≤ (Int32.toNatClampNeg (x4 + (1 : Int32))) then none else (if (x4 + (2 : Int32)) < 0 ∨ L ≤ (Int32.toNatClampNeg (x4 + (2 : Int32))) then none else (if (x4 + (3 : Int32)) < 0 ∨ L ≤ (Int32.toNatClampNeg (x4 + (3 : Int32))) then none else (pq_bd (F_L_letterOf G S a1 (xs (Int32.toNatClampNeg (x4 + (1 : Int32)))) (xs (Int32.toNatClampNeg (x4 + (2 : Int32)))) (xs (Int32.toNatClampNeg (x4 + (3 : Int32)))) a3) fun v14 S15 => (if (x4 + (1 : Int32)) < 0 ∨ L ≤ (Int32.toNatClampNeg (x4 + (1 : Int32))) then none else (if (x4 + (2 : Int32)) < 0 ∨ L ≤ (Int32.toNatClampNeg (x4 + (2 : Int32))) then none else (if (x4 + (3 : Int32)) < 0 ∨ L ≤ (Int32.toNatClampNeg (x4 + (3 : Int32))) then none else (pq_bd (F_X11_letterOf G S15 a2 (xs (Int32.toNatClampNeg (x4 + (1 : Int32)))) (xs (Int32.toNatClampNeg (x4 + (2 : Int32)))) (xs (Int32.toNatClampNeg (x4 + (3 : Int32))))) fun v20 S21 => (pq_bd (F_X11_thrown G S21 a2) fun v23 S24 => (if v23 = v14 then (if v14 = (0 : Int32) then (if (0 : Int32) < 0 ∨ pq_n G a3 ≤ (Int32.toNatClampNeg (0 : Int32)) then none else (if (lg_cmp (S24.2 a3 (Int32.toNatClampNeg (0 : Int32))) (Int32.toInt64 v20)) = (0 : Int32) then some S24 else none)) else some S24) else none))))))))))
set_option maxHeartbeats 4000000 in
set_option maxRecDepth 100000 in
theorem r_L_c12 {p : Program} {l : Launch} {e : Env} {s : State} {m : MethodId} {av : Array Value} {below : List Frame} {meth : Method} {c : Code} {Q : State → Prop} {D : va_G} {y : pq_Y} {G : pq_G} (hl : l.stackTraces = false) (W0 : pq_WT G) (C : pq_C p s m av c D y RL wsL_law cL_law 9) (hX : pq_X (pq_A G s.heap.size) s s.heap) {bb L : Nat} {xs : Nat → Int32} (hXs : va_X bb L xs s s.heap) (hbl : bb < s.heap.size) (hbA : ¬ pq_A G s.heap.size bb) {a1 a2 a3 : Nat} (k1_ : pq_ok G 10 a1) (k2_ : pq_ok G 11 a2) (k3_ : pq_ok G 13 a3) {x4 : Int32} {S S1 : pq_N} {cells slots : Nat} (hc : cells + 8 ≤ 601024) (hs : slots + 48 ≤ 7293034) (h : F_L_c12 G S xs L a1 a2 a3 x4 = some S1) (kk : pq_V p l e room_1 s m av below meth c (cells + 8) (slots + 48) Q D y 9 (pq_A G s.heap.size) (fun _ => True) G S1 2770 [(0, .ref bb), (1, .ref a1), (2, .ref a2), (3, .ref a3), (4, .int x4)] []) : pq_V p l e room_1 s m av below meth c cells slots Q D y 9 (pq_A G s.heap.size) (fun _ => True) G S 803 [(0, .ref bb), (1, .ref a1), (2, .ref a2), (3, .ref a3), (4, .int x4)] [] := by
  unfold F_L_c12 at h
  refine pv_aload_n C 1 dL_law_803 rfl rfl ?_
  refine pv_aload_n C 0 dL_law_804 rfl rfl ?_
  refine pv_iload C 4 dL_law_805 rfl ?_
  refine pv_iconst (v := 1) C dL_law_807 (by decide) ?_
  refine pv_iadd C dL_law_808 ?_
  obtain ⟨g11, h⟩ := pq_gd h
  refine pv_sld C hXs hbl hbA g11 dL_law_809 ?_
  refine pv_aload_n C 0 dL_law_810 rfl rfl ?_
  refine pv_iload C 4 dL_law_811 rfl ?_
  refine pv_iconst (v := 2) C dL_law_813 (by decide) ?_
  refine pv_iadd C dL_law_814 ?_
  obtain ⟨g12, h⟩ := pq_gd h
  refine pv_sld C hXs hbl hbA g12 dL_law_815 ?_
  refine pv_aload_n C 0 dL_law_816 rfl rfl ?_
  refine pv_iload C 4 dL_law_817 rfl ?_
  refine pv_iconst (v := 3) C dL_law_819 (by decide) ?_
  refine pv_iadd C dL_law_820 ?_
  obtain ⟨g13, h⟩ := pq_gd h
  refine pv_sld C hXs hbl hbA g13 dL_law_821 ?_
  refine pv_aload_n C 3 dL_law_822 rfl rfl ?_
  obtain ⟨v14, S15, e16, h⟩ := pq_bs h
  refine pv_hcalli C (kc := 3) (ks := 18) hX [.ref a1, .int (xs (Int32.toNatClampNeg (x4 + (1 : Int32)))), .int (xs (Int32.toNatClampNeg (x4 + (2 : Int32)))), .int (xs (Int32.toNatClampNeg (x4 + (3 : Int32)))), .ref a3] (fun sz => r_L_letterOf hl W0 k1_ k3_ e16 sz) (vx_cwSW 5 C.1.2.2.2.2 gL_law_L_letterOf rfl rfl rfl (by decide +kernel) ⟨Nat.le_of_ble_eq_true rfl, Nat.le_of_ble_eq_true rfl⟩) rfl rfl (Nat.le_of_ble_eq_true rfl) dL_law_823 ⟨Nat.le_trans (m := 601024) (by omega) (Nat.le_of_ble_eq_true rfl), Nat.le_trans (m := 7293034) (by omega) (Nat.le_of_ble_eq_true rfl)⟩ ?_
  refine pv_istore C [(5, .int v14), (0, .ref bb), (1, .ref a1), (2, .ref a2), (3, .ref a3), (4, .int x4)] dL_law_826 (by decide) rfl ?_
  refine pv_aload_n C 3 dL_law_828 rfl rfl ?_
  refine pv_aload_n C 1 dL_law_829 rfl rfl ?_
  refine pv_iload C 5 dL_law_830 rfl ?_
  refine pv_iconst (v := 1) C dL_law_832 (by decide) ?_
  refine pv_iadd C dL_law_833 ?_
  obtain ⟨g17, h⟩ := pq_gd h
  refine pv_sld C hXs hbl hbA g17 dL_law_834 ?_
  refine pv_aload_n C 1 dL_law_835 rfl rfl ?_
  refine pv_iload C 5 dL_law_836 rfl ?_
  refine pv_iconst (v := 2) C dL_law_838 (by decide) ?_
  refine pv_iadd C dL_law_839 ?_
  obtain ⟨g18, h⟩ := pq_gd h
  refine pv_sld C hXs hbl hbA g18 dL_law_840 ?_
  refine pv_aload_n C 1 dL_law_841 rfl rfl ?_
  refine pv_iload C 5 dL_law_842 rfl ?_
  refine pv_iconst (v := 3) C dL_law_844 (by decide) ?_
  refine pv_iadd C dL_law_845 ?_
  obtain ⟨g19, h⟩ := pq_gd h
  refine pv_sld C hXs hbl hbA g19 dL_law_846 ?_
  obtain ⟨v20, S21, e22, h⟩ := pq_bs h
  refine pv_calliV C (ci := 11) rfl (by decide) k2_ [.int (xs (Int32.toNatClampNeg (x4 + (1 : Int32)))), .int (xs (Int32.toNatClampNeg (x4 + (2 : Int32)))), .int (xs (Int32.toNatClampNeg (x4 + (3 : Int32))))] (fun sz => r_X11_letterOf W0 k2_ e22 sz) (cwV 3 C.1.2.2.2.2 gL_law_X11_letterOf rfl rfl rfl (by decide +kernel) ⟨Nat.le_of_ble_eq_true rfl, Nat.le_of_ble_eq_true rfl⟩) rfl rfl (Nat.le_of_ble_eq_true rfl) dL_law_847 ⟨Nat.le_trans (m := 601024) (by omega) (Nat.le_of_ble_eq_true rfl), Nat.le_trans (m := 7293034) (by omega) (Nat.le_of_ble_eq_true rfl)⟩ ?_
  refine pv_istore C [(6, .int v20), (5, .int v14), (0, .ref bb), (1, .ref a1), (2, .ref a2), (3, .ref a3), (4, .int x4)] dL_law_850 (by decide) rfl ?_
  refine pv_aload_n C 4 dL_law_852 rfl rfl ?_
  obtain ⟨v23, S24, e25, h⟩ := pq_bs h
  refine pv_calliV C (ci := 11) rfl (by decide) k2_ [] (fun sz => r_X11_thrown W0 k2_ e25 sz) (cwV 0 C.1.2.2.2.2 gL_law_X11_thrown rfl rfl rfl (by decide +kernel) ⟨Nat.le_of_ble_eq_true rfl, Nat.le_of_ble_eq_true rfl⟩) rfl rfl (Nat.le_of_ble_eq_true rfl) dL_law_853 ⟨Nat.le_trans (m := 601024) (by omega) (Nat.le_of_ble_eq_true rfl), Nat.le_trans (m := 7293034) (by omega) (Nat.le_of_ble_eq_true rfl)⟩ ?_
  refine pv_iload C 1 dL_law_856 rfl ?_
  refine pv_icmp_eq (tgt := 863) C dL_law_858 (by decide) (fun c26 => ?_) (fun c26 => ?_)
  · have h := pq_it c26 h
    refine pv_iload C 1 dL_law_863 rfl ?_
    refine pv_if_ne (tgt := 880) C dL_law_865 (by decide) (fun c27 => ?_) (fun c27 => ?_)
    · have h := pq_if c27 h
      refine pv_goto (tgt := 2770) C dL_law_880 (by decide) ?_
      refine pv_sub [2, 3, 4, 5, 6] rfl ?_
      cases h
      exact pv_wide (k := cells + 8) (n := slots + 48) (by omega) (by omega) kk
    · have h := pq_it c27 h
      refine pv_aload_n C 5 dL_law_868 rfl rfl ?_
      refine pv_iconst (v := 0) C dL_law_869 (by decide) ?_
      obtain ⟨g28, h⟩ := pq_gd h
      refine pv_laload C k3_ g28 dL_law_870 ?_
      refine pv_iload C 0 dL_law_871 rfl ?_
      refine pv_i2l C dL_law_873 ?_
      refine pv_lcmp C dL_law_874 ?_
      refine pv_if_eq (tgt := 880) C dL_law_875 (by decide) (fun c29 => ?_) (fun c29 => ?_)
      · have h := pq_it c29 h
        refine pv_goto (tgt := 2770) C dL_law_880 (by decide) ?_
        refine pv_sub [2, 3, 4, 5, 6] rfl ?_
        cases h
        exact pv_wide (k := cells + 8) (n := slots + 48) (by omega) (by omega) kk
      · have h := pq_if c29 h
        cases h
  · have h := pq_if c26 h
    cases h
def F_L_c13 (G : pq_G) (S : pq_N) (xs : Nat → Int32) (L : Nat) (a1 a2 a3 : Nat) (x4 : Int32) : Option pq_N := (if (x4 + (1 : Int32)) < 0 ∨ L ≤ (Int32.toNatClampNeg (x4 + (1 : Int32))) then none else (if (x4 + (2 : Int32)) < 0 ∨ L ≤ (Int32.toNatClampNeg (x4 + (2 : Int32))) then none else (if (x4 + (3 : Int32)) < 0 ∨ L ≤ (Int32.toNatClampNeg (x4 + (3 : Int32))) then none else (if (x4 + (4 : Int32)) < 0 ∨ L ≤ (Int32.toNatClampNeg (x4 + (4 : Int32))) then none else (pq_bd (F_L_isSameWord G S a1 (xs (Int32.toNatClampNeg (x4 + (1 : Int32)))) (xs (Int32.toNatClampNeg (x4 + (2 : Int32)))) (xs (Int32.toNatClampNeg (x4 + (3 : Int32)))) (xs (Int32.toNatClampNeg (x4 + (4 : Int32)))) a3) fun v15 S16 => (if (x4 + (1 : Int32)) < 0 ∨ L ≤ (Int32.toNatClampNeg (x4 + (1 : Int32))) then none else (if (x4 + (2 : Int32)) < 0 ∨ L ≤ (Int32.toNatClampNeg (x4 + (2 : Int32))) then none else (if (x4 + (3 : Int32)) < 0 ∨ L ≤ (Int32.toNatClampNeg (x4 + (3 : Int32))) then none else (if (x4 + (4 : Int32)) < 0 ∨ L ≤ (Int32.toNatClampNeg (x4 + (4 : Int32))) then none else (pq_bd (F_X11_isSameWord G S16 a2 (xs (Int32.toNatClampNeg (x4 + (1 : Int32)))) (xs (Int32.toNatClampNeg (x4 + (2 : Int32)))) (xs (Int32.toNatClampNeg (x4 + (3 : Int32)))) (xs (Int32.toNatClampNeg (x4 + (4 : Int32))))) fun v22 S23 => (pq_bd (F_X11_thrown G S23 a2) fun v25 S26 => (if v25 = v15 then (if v15 = (0 : Int32) then (if (0 : Int32) < 0 ∨ pq_n G a3 ≤ (Int32.toNatClampNeg (0 : Int32)) then none else (if v22 = (0 : Int32) then (if (lg_cmp (S26.2 a3 (Int32.toNatClampNeg (0 : Int32))) (0 : Int64)) = (0 : Int32) then some S26 else none) else (if (lg_cmp (S26.2 a3 (Int32.toNatClampNeg (0 : Int32))) (1 : Int64)) = (0 : Int32) then some S26 else none))) else some S26) else none))))))))))))
set_option maxHeartbeats 4000000 in
set_option maxRecDepth 100000 in
theorem r_L_c13 {p : Program} {l : Launch} {e : Env} {s : State} {m : MethodId} {av : Array Value} {below : List Frame} {meth : Method} {c : Code} {Q : State → Prop} {D : va_G} {y : pq_Y} {G : pq_G} (hl : l.stackTraces = false) (W0 : pq_WT G) (C : pq_C p s m av c D y RL wsL_law cL_law 9) (hX : pq_X (pq_A G s.heap.size) s s.heap) {bb L : Nat} {xs : Nat → Int32} (hXs : va_X bb L xs s s.heap) (hbl : bb < s.heap.size) (hbA : ¬ pq_A G s.heap.size bb) {a1 a2 a3 : Nat} (k1_ : pq_ok G 10 a1) (k2_ : pq_ok G 11 a2) (k3_ : pq_ok G 13 a3) {x4 : Int32} {S S1 : pq_N} {cells slots : Nat} (hc : cells + 8 ≤ 601024) (hs : slots + 48 ≤ 7293034) (h : F_L_c13 G S xs L a1 a2 a3 x4 = some S1) (kk : pq_V p l e room_1 s m av below meth c (cells + 8) (slots + 48) Q D y 9 (pq_A G s.heap.size) (fun _ => True) G S1 2770 [(0, .ref bb), (1, .ref a1), (2, .ref a2), (3, .ref a3), (4, .int x4)] []) : pq_V p l e room_1 s m av below meth c cells slots Q D y 9 (pq_A G s.heap.size) (fun _ => True) G S 883 [(0, .ref bb), (1, .ref a1), (2, .ref a2), (3, .ref a3), (4, .int x4)] [] := by
  unfold F_L_c13 at h
  refine pv_aload_n C 1 dL_law_883 rfl rfl ?_
  refine pv_aload_n C 0 dL_law_884 rfl rfl ?_
  refine pv_iload C 4 dL_law_885 rfl ?_
  refine pv_iconst (v := 1) C dL_law_887 (by decide) ?_
  refine pv_iadd C dL_law_888 ?_
  obtain ⟨g11, h⟩ := pq_gd h
  refine pv_sld C hXs hbl hbA g11 dL_law_889 ?_
  refine pv_aload_n C 0 dL_law_890 rfl rfl ?_
  refine pv_iload C 4 dL_law_891 rfl ?_
  refine pv_iconst (v := 2) C dL_law_893 (by decide) ?_
  refine pv_iadd C dL_law_894 ?_
  obtain ⟨g12, h⟩ := pq_gd h
  refine pv_sld C hXs hbl hbA g12 dL_law_895 ?_
  refine pv_aload_n C 0 dL_law_896 rfl rfl ?_
  refine pv_iload C 4 dL_law_897 rfl ?_
  refine pv_iconst (v := 3) C dL_law_899 (by decide) ?_
  refine pv_iadd C dL_law_900 ?_
  obtain ⟨g13, h⟩ := pq_gd h
  refine pv_sld C hXs hbl hbA g13 dL_law_901 ?_
  refine pv_aload_n C 0 dL_law_902 rfl rfl ?_
  refine pv_iload C 4 dL_law_903 rfl ?_
  refine pv_iconst (v := 4) C dL_law_905 (by decide) ?_
  refine pv_iadd C dL_law_906 ?_
  obtain ⟨g14, h⟩ := pq_gd h
  refine pv_sld C hXs hbl hbA g14 dL_law_907 ?_
  refine pv_aload_n C 3 dL_law_908 rfl rfl ?_
  obtain ⟨v15, S16, e17, h⟩ := pq_bs h
  refine pv_hcalli C (kc := 4) (ks := 24) hX [.ref a1, .int (xs (Int32.toNatClampNeg (x4 + (1 : Int32)))), .int (xs (Int32.toNatClampNeg (x4 + (2 : Int32)))), .int (xs (Int32.toNatClampNeg (x4 + (3 : Int32)))), .int (xs (Int32.toNatClampNeg (x4 + (4 : Int32)))), .ref a3] (fun sz => r_L_isSameWord hl W0 k1_ k3_ e17 sz) (vx_cwSW 6 C.1.2.2.2.2 gL_law_L_isSameWord rfl rfl rfl (by decide +kernel) ⟨Nat.le_of_ble_eq_true rfl, Nat.le_of_ble_eq_true rfl⟩) rfl rfl (Nat.le_of_ble_eq_true rfl) dL_law_909 ⟨Nat.le_trans (m := 601024) (by omega) (Nat.le_of_ble_eq_true rfl), Nat.le_trans (m := 7293034) (by omega) (Nat.le_of_ble_eq_true rfl)⟩ ?_
  refine pv_istore C [(5, .int v15), (0, .ref bb), (1, .ref a1), (2, .ref a2), (3, .ref a3), (4, .int x4)] dL_law_912 (by decide) rfl ?_
  refine pv_aload_n C 3 dL_law_914 rfl rfl ?_
  refine pv_aload_n C 1 dL_law_915 rfl rfl ?_
  refine pv_iload C 5 dL_law_916 rfl ?_
  refine pv_iconst (v := 1) C dL_law_918 (by decide) ?_
  refine pv_iadd C dL_law_919 ?_
  obtain ⟨g18, h⟩ := pq_gd h
  refine pv_sld C hXs hbl hbA g18 dL_law_920 ?_
  refine pv_aload_n C 1 dL_law_921 rfl rfl ?_
  refine pv_iload C 5 dL_law_922 rfl ?_
  refine pv_iconst (v := 2) C dL_law_924 (by decide) ?_
  refine pv_iadd C dL_law_925 ?_
  obtain ⟨g19, h⟩ := pq_gd h
  refine pv_sld C hXs hbl hbA g19 dL_law_926 ?_
  refine pv_aload_n C 1 dL_law_927 rfl rfl ?_
  refine pv_iload C 5 dL_law_928 rfl ?_
  refine pv_iconst (v := 3) C dL_law_930 (by decide) ?_
  refine pv_iadd C dL_law_931 ?_
  obtain ⟨g20, h⟩ := pq_gd h
  refine pv_sld C hXs hbl hbA g20 dL_law_932 ?_
  refine pv_aload_n C 1 dL_law_933 rfl rfl ?_
  refine pv_iload C 5 dL_law_934 rfl ?_
  refine pv_iconst (v := 4) C dL_law_936 (by decide) ?_
  refine pv_iadd C dL_law_937 ?_
  obtain ⟨g21, h⟩ := pq_gd h
  refine pv_sld C hXs hbl hbA g21 dL_law_938 ?_
  obtain ⟨v22, S23, e24, h⟩ := pq_bs h
  refine pv_calliV C (ci := 11) rfl (by decide) k2_ [.int (xs (Int32.toNatClampNeg (x4 + (1 : Int32)))), .int (xs (Int32.toNatClampNeg (x4 + (2 : Int32)))), .int (xs (Int32.toNatClampNeg (x4 + (3 : Int32)))), .int (xs (Int32.toNatClampNeg (x4 + (4 : Int32))))] (fun sz => r_X11_isSameWord W0 k2_ e24 sz) (cwV 4 C.1.2.2.2.2 gL_law_X11_isSameWord rfl rfl rfl (by decide +kernel) ⟨Nat.le_of_ble_eq_true rfl, Nat.le_of_ble_eq_true rfl⟩) rfl rfl (Nat.le_of_ble_eq_true rfl) dL_law_939 ⟨Nat.le_trans (m := 601024) (by omega) (Nat.le_of_ble_eq_true rfl), Nat.le_trans (m := 7293034) (by omega) (Nat.le_of_ble_eq_true rfl)⟩ ?_
  refine pv_istore C [(6, .int v22), (5, .int v15), (0, .ref bb), (1, .ref a1), (2, .ref a2), (3, .ref a3), (4, .int x4)] dL_law_942 (by decide) rfl ?_
  refine pv_aload_n C 4 dL_law_944 rfl rfl ?_
  obtain ⟨v25, S26, e27, h⟩ := pq_bs h
  refine pv_calliV C (ci := 11) rfl (by decide) k2_ [] (fun sz => r_X11_thrown W0 k2_ e27 sz) (cwV 0 C.1.2.2.2.2 gL_law_X11_thrown rfl rfl rfl (by decide +kernel) ⟨Nat.le_of_ble_eq_true rfl, Nat.le_of_ble_eq_true rfl⟩) rfl rfl (Nat.le_of_ble_eq_true rfl) dL_law_945 ⟨Nat.le_trans (m := 601024) (by omega) (Nat.le_of_ble_eq_true rfl), Nat.le_trans (m := 7293034) (by omega) (Nat.le_of_ble_eq_true rfl)⟩ ?_
  refine pv_iload C 1 dL_law_948 rfl ?_
  refine pv_icmp_eq (tgt := 955) C dL_law_950 (by decide) (fun c28 => ?_) (fun c28 => ?_)
  · have h := pq_it c28 h
    refine pv_iload C 1 dL_law_955 rfl ?_
    refine pv_if_ne (tgt := 979) C dL_law_957 (by decide) (fun c29 => ?_) (fun c29 => ?_)
    · have h := pq_if c29 h
      refine pv_goto (tgt := 2770) C dL_law_979 (by decide) ?_
      refine pv_sub [2, 3, 4, 5, 6] rfl ?_
      cases h
      exact pv_wide (k := cells + 8) (n := slots + 48) (by omega) (by omega) kk
    · have h := pq_it c29 h
      refine pv_aload_n C 5 dL_law_960 rfl rfl ?_
      refine pv_iconst (v := 0) C dL_law_961 (by decide) ?_
      obtain ⟨g30, h⟩ := pq_gd h
      refine pv_laload C k3_ g30 dL_law_962 ?_
      refine pv_iload C 0 dL_law_963 rfl ?_
      refine pv_if_eq (tgt := 972) C dL_law_965 (by decide) (fun c31 => ?_) (fun c31 => ?_)
      · have h := pq_it c31 h
        refine pv_lconst (v := 0) C dL_law_972 (by decide) ?_
        refine pv_lcmp C dL_law_973 ?_
        refine pv_if_eq (tgt := 979) C dL_law_974 (by decide) (fun c32 => ?_) (fun c32 => ?_)
        · have h := pq_it c32 h
          refine pv_goto (tgt := 2770) C dL_law_979 (by decide) ?_
          refine pv_sub [2, 3, 4, 5, 6] rfl ?_
          cases h
          exact pv_wide (k := cells + 8) (n := slots + 48) (by omega) (by omega) kk
        · have h := pq_if c32 h
          cases h
      · have h := pq_if c31 h
        refine pv_lconst (v := 1) C dL_law_968 (by decide) ?_
        refine pv_goto (tgt := 973) C dL_law_969 (by decide) ?_
        refine pv_lcmp C dL_law_973 ?_
        refine pv_if_eq (tgt := 979) C dL_law_974 (by decide) (fun c33 => ?_) (fun c33 => ?_)
        · have h := pq_it c33 h
          refine pv_goto (tgt := 2770) C dL_law_979 (by decide) ?_
          refine pv_sub [2, 3, 4, 5, 6] rfl ?_
          cases h
          exact pv_wide (k := cells + 8) (n := slots + 48) (by omega) (by omega) kk
        · have h := pq_if c33 h
          cases h
  · have h := pq_if c28 h
    cases h
def F_L_c14 (G : pq_G) (S : pq_N) (xs : Nat → Int32) (L : Nat) (a1 a2 a3 : Nat) (x4 : Int32) : Option pq_N := (pq_bd (F_X10_whyNotPrinted G S a1) fun v11 S12 => (pq_bd (F_X11_whyNotPrinted G S12 a2) fun v14 S15 => (if v11 = v14 then some S15 else none)))
set_option maxHeartbeats 4000000 in
set_option maxRecDepth 100000 in
theorem r_L_c14 {p : Program} {l : Launch} {e : Env} {s : State} {m : MethodId} {av : Array Value} {below : List Frame} {meth : Method} {c : Code} {Q : State → Prop} {D : va_G} {y : pq_Y} {G : pq_G} (hl : l.stackTraces = false) (W0 : pq_WT G) (C : pq_C p s m av c D y RL wsL_law cL_law 9) (hX : pq_X (pq_A G s.heap.size) s s.heap) {bb L : Nat} {xs : Nat → Int32} (hXs : va_X bb L xs s s.heap) (hbl : bb < s.heap.size) (hbA : ¬ pq_A G s.heap.size bb) {a1 a2 a3 : Nat} (k1_ : pq_ok G 10 a1) (k2_ : pq_ok G 11 a2) (k3_ : pq_ok G 13 a3) {x4 : Int32} {S S1 : pq_N} {cells slots : Nat} (hc : cells + 8 ≤ 601024) (hs : slots + 48 ≤ 7293034) (h : F_L_c14 G S xs L a1 a2 a3 x4 = some S1) (kk : pq_V p l e room_1 s m av below meth c (cells + 8) (slots + 48) Q D y 9 (pq_A G s.heap.size) (fun _ => True) G S1 2770 [(0, .ref bb), (1, .ref a1), (2, .ref a2), (3, .ref a3), (4, .int x4)] []) : pq_V p l e room_1 s m av below meth c cells slots Q D y 9 (pq_A G s.heap.size) (fun _ => True) G S 982 [(0, .ref bb), (1, .ref a1), (2, .ref a2), (3, .ref a3), (4, .int x4)] [] := by
  unfold F_L_c14 at h
  refine pv_aload_n C 1 dL_law_982 rfl rfl ?_
  obtain ⟨v11, S12, e13, h⟩ := pq_bs h
  refine pv_calliV C (ci := 10) rfl (by decide) k1_ [] (fun sz => r_X10_whyNotPrinted W0 k1_ e13 sz) (cwV 0 C.1.2.2.2.2 gL_law_X10_whyNotPrinted rfl rfl rfl (by decide +kernel) ⟨Nat.le_of_ble_eq_true rfl, Nat.le_of_ble_eq_true rfl⟩) rfl rfl (Nat.le_of_ble_eq_true rfl) dL_law_983 ⟨Nat.le_trans (m := 601024) (by omega) (Nat.le_of_ble_eq_true rfl), Nat.le_trans (m := 7293034) (by omega) (Nat.le_of_ble_eq_true rfl)⟩ ?_
  refine pv_aload_n C 2 dL_law_986 rfl rfl ?_
  obtain ⟨v14, S15, e16, h⟩ := pq_bs h
  refine pv_calliV C (ci := 11) rfl (by decide) k2_ [] (fun sz => r_X11_whyNotPrinted W0 k2_ e16 sz) (cwV 0 C.1.2.2.2.2 gL_law_X11_whyNotPrinted rfl rfl rfl (by decide +kernel) ⟨Nat.le_of_ble_eq_true rfl, Nat.le_of_ble_eq_true rfl⟩) rfl rfl (Nat.le_of_ble_eq_true rfl) dL_law_987 ⟨Nat.le_trans (m := 601024) (by omega) (Nat.le_of_ble_eq_true rfl), Nat.le_trans (m := 7293034) (by omega) (Nat.le_of_ble_eq_true rfl)⟩ ?_
  refine pv_icmp_eq (tgt := 2770) C dL_law_990 (by decide) (fun c17 => ?_) (fun c17 => ?_)
  · have h := pq_it c17 h
    refine pv_sub [0, 1, 2, 3, 4] rfl ?_
    cases h
    exact pv_wide (k := cells + 8) (n := slots + 48) (by omega) (by omega) kk
  · have h := pq_if c17 h
    cases h
def F_L_c15 (G : pq_G) (S : pq_N) (xs : Nat → Int32) (L : Nat) (a1 a2 a3 : Nat) (x4 : Int32) : Option pq_N := (if (x4 + (1 : Int32)) < 0 ∨ L ≤ (Int32.toNatClampNeg (x4 + (1 : Int32))) then none else (pq_bd (F_L_quotationsOf G S a1 (xs (Int32.toNatClampNeg (x4 + (1 : Int32)))) a3) fun v12 S13 => (if (x4 + (1 : Int32)) < 0 ∨ L ≤ (Int32.toNatClampNeg (x4 + (1 : Int32))) then none else (pq_bd (F_X11_quotationsOf G S13 a2 (xs (Int32.toNatClampNeg (x4 + (1 : Int32))))) fun v16 S17 => (pq_bd (F_X11_thrown G S17 a2) fun v19 S20 => (if v19 = v12 then (if v12 = (0 : Int32) then (if (0 : Int32) < 0 ∨ pq_n G a3 ≤ (Int32.toNatClampNeg (0 : Int32)) then none else (if (lg_cmp (S20.2 a3 (Int32.toNatClampNeg (0 : Int32))) (Int32.toInt64 v16)) = (0 : Int32) then some S20 else none)) else some S20) else none))))))
set_option maxHeartbeats 4000000 in
set_option maxRecDepth 100000 in
theorem r_L_c15 {p : Program} {l : Launch} {e : Env} {s : State} {m : MethodId} {av : Array Value} {below : List Frame} {meth : Method} {c : Code} {Q : State → Prop} {D : va_G} {y : pq_Y} {G : pq_G} (hl : l.stackTraces = false) (W0 : pq_WT G) (C : pq_C p s m av c D y RL wsL_law cL_law 9) (hX : pq_X (pq_A G s.heap.size) s s.heap) {bb L : Nat} {xs : Nat → Int32} (hXs : va_X bb L xs s s.heap) (hbl : bb < s.heap.size) (hbA : ¬ pq_A G s.heap.size bb) {a1 a2 a3 : Nat} (k1_ : pq_ok G 10 a1) (k2_ : pq_ok G 11 a2) (k3_ : pq_ok G 13 a3) {x4 : Int32} {S S1 : pq_N} {cells slots : Nat} (hc : cells + 8 ≤ 601024) (hs : slots + 48 ≤ 7293034) (h : F_L_c15 G S xs L a1 a2 a3 x4 = some S1) (kk : pq_V p l e room_1 s m av below meth c (cells + 8) (slots + 48) Q D y 9 (pq_A G s.heap.size) (fun _ => True) G S1 2770 [(0, .ref bb), (1, .ref a1), (2, .ref a2), (3, .ref a3), (4, .int x4)] []) : pq_V p l e room_1 s m av below meth c cells slots Q D y 9 (pq_A G s.heap.size) (fun _ => True) G S 995 [(0, .ref bb), (1, .ref a1), (2, .ref a2), (3, .ref a3), (4, .int x4)] [] := by
  unfold F_L_c15 at h
  refine pv_aload_n C 1 dL_law_995 rfl rfl ?_
  refine pv_aload_n C 0 dL_law_996 rfl rfl ?_
  refine pv_iload C 4 dL_law_997 rfl ?_
  refine pv_iconst (v := 1) C dL_law_999 (by decide) ?_
  refine pv_iadd C dL_law_1000 ?_
  obtain ⟨g11, h⟩ := pq_gd h
  refine pv_sld C hXs hbl hbA g11 dL_law_1001 ?_
  refine pv_aload_n C 3 dL_law_1002 rfl rfl ?_
  obtain ⟨v12, S13, e14, h⟩ := pq_bs h
  refine pv_hcalli C (kc := 1) (ks := 6) hX [.ref a1, .int (xs (Int32.toNatClampNeg (x4 + (1 : Int32)))), .ref a3] (fun sz => r_L_quotationsOf hl W0 k1_ k3_ e14 sz) (vx_cwSW 3 C.1.2.2.2.2 gL_law_L_quotationsOf rfl rfl rfl (by decide +kernel) ⟨Nat.le_of_ble_eq_true rfl, Nat.le_of_ble_eq_true rfl⟩) rfl rfl (Nat.le_of_ble_eq_true rfl) dL_law_1003 ⟨Nat.le_trans (m := 601024) (by omega) (Nat.le_of_ble_eq_true rfl), Nat.le_trans (m := 7293034) (by omega) (Nat.le_of_ble_eq_true rfl)⟩ ?_
  refine pv_istore C [(5, .int v12), (0, .ref bb), (1, .ref a1), (2, .ref a2), (3, .ref a3), (4, .int x4)] dL_law_1006 (by decide) rfl ?_
  refine pv_aload_n C 3 dL_law_1008 rfl rfl ?_
  refine pv_aload_n C 1 dL_law_1009 rfl rfl ?_
  refine pv_iload C 5 dL_law_1010 rfl ?_
  refine pv_iconst (v := 1) C dL_law_1012 (by decide) ?_
  refine pv_iadd C dL_law_1013 ?_
  obtain ⟨g15, h⟩ := pq_gd h
  refine pv_sld C hXs hbl hbA g15 dL_law_1014 ?_
  obtain ⟨v16, S17, e18, h⟩ := pq_bs h
  refine pv_calliV C (ci := 11) rfl (by decide) k2_ [.int (xs (Int32.toNatClampNeg (x4 + (1 : Int32))))] (fun sz => r_X11_quotationsOf W0 k2_ e18 sz) (cwV 1 C.1.2.2.2.2 gL_law_X11_quotationsOf rfl rfl rfl (by decide +kernel) ⟨Nat.le_of_ble_eq_true rfl, Nat.le_of_ble_eq_true rfl⟩) rfl rfl (Nat.le_of_ble_eq_true rfl) dL_law_1015 ⟨Nat.le_trans (m := 601024) (by omega) (Nat.le_of_ble_eq_true rfl), Nat.le_trans (m := 7293034) (by omega) (Nat.le_of_ble_eq_true rfl)⟩ ?_
  refine pv_istore C [(6, .int v16), (5, .int v12), (0, .ref bb), (1, .ref a1), (2, .ref a2), (3, .ref a3), (4, .int x4)] dL_law_1018 (by decide) rfl ?_
  refine pv_aload_n C 4 dL_law_1020 rfl rfl ?_
  obtain ⟨v19, S20, e21, h⟩ := pq_bs h
  refine pv_calliV C (ci := 11) rfl (by decide) k2_ [] (fun sz => r_X11_thrown W0 k2_ e21 sz) (cwV 0 C.1.2.2.2.2 gL_law_X11_thrown rfl rfl rfl (by decide +kernel) ⟨Nat.le_of_ble_eq_true rfl, Nat.le_of_ble_eq_true rfl⟩) rfl rfl (Nat.le_of_ble_eq_true rfl) dL_law_1021 ⟨Nat.le_trans (m := 601024) (by omega) (Nat.le_of_ble_eq_true rfl), Nat.le_trans (m := 7293034) (by omega) (Nat.le_of_ble_eq_true rfl)⟩ ?_
  refine pv_iload C 1 dL_law_1024 rfl ?_
  refine pv_icmp_eq (tgt := 1031) C dL_law_1026 (by decide) (fun c22 => ?_) (fun c22 => ?_)
  · have h := pq_it c22 h
    refine pv_iload C 1 dL_law_1031 rfl ?_
    refine pv_if_ne (tgt := 1048) C dL_law_1033 (by decide) (fun c23 => ?_) (fun c23 => ?_)
    · have h := pq_if c23 h
      refine pv_goto (tgt := 2770) C dL_law_1048 (by decide) ?_
      refine pv_sub [2, 3, 4, 5, 6] rfl ?_
      cases h
      exact pv_wide (k := cells + 8) (n := slots + 48) (by omega) (by omega) kk
    · have h := pq_it c23 h
      refine pv_aload_n C 5 dL_law_1036 rfl rfl ?_
      refine pv_iconst (v := 0) C dL_law_1037 (by decide) ?_
      obtain ⟨g24, h⟩ := pq_gd h
      refine pv_laload C k3_ g24 dL_law_1038 ?_
      refine pv_iload C 0 dL_law_1039 rfl ?_
      refine pv_i2l C dL_law_1041 ?_
      refine pv_lcmp C dL_law_1042 ?_
      refine pv_if_eq (tgt := 1048) C dL_law_1043 (by decide) (fun c25 => ?_) (fun c25 => ?_)
      · have h := pq_it c25 h
        refine pv_goto (tgt := 2770) C dL_law_1048 (by decide) ?_
        refine pv_sub [2, 3, 4, 5, 6] rfl ?_
        cases h
        exact pv_wide (k := cells + 8) (n := slots + 48) (by omega) (by omega) kk
      · have h := pq_if c25 h
        cases h
  · have h := pq_if c22 h
    cases h
def F_L_c16 (G : pq_G) (S : pq_N) (xs : Nat → Int32) (L : Nat) (a1 a2 a3 : Nat) (x4 : Int32) : Option pq_N := (if (x4 + (1 : Int32)) < 0 ∨ L ≤ (Int32.toNatClampNeg (x4 + (1 : Int32))) then none else (if (x4 + (2 : Int32)) < 0 ∨ L ≤ (Int32.toNatClampNeg (x4 + (2 : Int32))) then none else (pq_bd (F_L_sourceOf G S a1 (xs (Int32.toNatClampNeg (x4 + (1 : Int32)))) (xs (Int32.toNatClampNeg (x4 + (2 : Int32)))) a3) fun v13 S14 => (if (x4 + (1 : Int32)) < 0 ∨ L ≤ (Int32.toNatClampNeg (x4 + (1 : Int32))) then none else (if (x4 + (2 : Int32)) < 0 ∨ L ≤ (Int32.toNatClampNeg (x4 + (2 : Int32))) then none else (pq_bd (F_X11_sourceOf G S14 a2 (xs (Int32.toNatClampNeg (x4 + (1 : Int32)))) (xs (Int32.toNatClampNeg (x4 + (2 : Int32))))) fun v18 S19 => (pq_bd (F_X11_thrown G S19 a2) fun v21 S22 => (if v21 = v13 then (if v13 = (0 : Int32) then (if (0 : Int32) < 0 ∨ pq_n G a3 ≤ (Int32.toNatClampNeg (0 : Int32)) then none else (if (lg_cmp (S22.2 a3 (Int32.toNatClampNeg (0 : Int32))) (Int32.toInt64 v18)) = (0 : Int32) then some S22 else none)) else some S22) else none))))))))
set_option maxHeartbeats 4000000 in
set_option maxRecDepth 100000 in
theorem r_L_c16 {p : Program} {l : Launch} {e : Env} {s : State} {m : MethodId} {av : Array Value} {below : List Frame} {meth : Method} {c : Code} {Q : State → Prop} {D : va_G} {y : pq_Y} {G : pq_G} (hl : l.stackTraces = false) (W0 : pq_WT G) (C : pq_C p s m av c D y RL wsL_law cL_law 9) (hX : pq_X (pq_A G s.heap.size) s s.heap) {bb L : Nat} {xs : Nat → Int32} (hXs : va_X bb L xs s s.heap) (hbl : bb < s.heap.size) (hbA : ¬ pq_A G s.heap.size bb) {a1 a2 a3 : Nat} (k1_ : pq_ok G 10 a1) (k2_ : pq_ok G 11 a2) (k3_ : pq_ok G 13 a3) {x4 : Int32} {S S1 : pq_N} {cells slots : Nat} (hc : cells + 8 ≤ 601024) (hs : slots + 48 ≤ 7293034) (h : F_L_c16 G S xs L a1 a2 a3 x4 = some S1) (kk : pq_V p l e room_1 s m av below meth c (cells + 8) (slots + 48) Q D y 9 (pq_A G s.heap.size) (fun _ => True) G S1 2770 [(0, .ref bb), (1, .ref a1), (2, .ref a2), (3, .ref a3), (4, .int x4)] []) : pq_V p l e room_1 s m av below meth c cells slots Q D y 9 (pq_A G s.heap.size) (fun _ => True) G S 1051 [(0, .ref bb), (1, .ref a1), (2, .ref a2), (3, .ref a3), (4, .int x4)] [] := by
  unfold F_L_c16 at h
  refine pv_aload_n C 1 dL_law_1051 rfl rfl ?_
  refine pv_aload_n C 0 dL_law_1052 rfl rfl ?_
  refine pv_iload C 4 dL_law_1053 rfl ?_
  refine pv_iconst (v := 1) C dL_law_1055 (by decide) ?_
  refine pv_iadd C dL_law_1056 ?_
  obtain ⟨g11, h⟩ := pq_gd h
  refine pv_sld C hXs hbl hbA g11 dL_law_1057 ?_
  refine pv_aload_n C 0 dL_law_1058 rfl rfl ?_
  refine pv_iload C 4 dL_law_1059 rfl ?_
  refine pv_iconst (v := 2) C dL_law_1061 (by decide) ?_
  refine pv_iadd C dL_law_1062 ?_
  obtain ⟨g12, h⟩ := pq_gd h
  refine pv_sld C hXs hbl hbA g12 dL_law_1063 ?_
  refine pv_aload_n C 3 dL_law_1064 rfl rfl ?_
  obtain ⟨v13, S14, e15, h⟩ := pq_bs h
  refine pv_hcalli C (kc := 2) (ks := 12) hX [.ref a1, .int (xs (Int32.toNatClampNeg (x4 + (1 : Int32)))), .int (xs (Int32.toNatClampNeg (x4 + (2 : Int32)))), .ref a3] (fun sz => r_L_sourceOf hl W0 k1_ k3_ e15 sz) (vx_cwSW 4 C.1.2.2.2.2 gL_law_L_sourceOf rfl rfl rfl (by decide +kernel) ⟨Nat.le_of_ble_eq_true rfl, Nat.le_of_ble_eq_true rfl⟩) rfl rfl (Nat.le_of_ble_eq_true rfl) dL_law_1065 ⟨Nat.le_trans (m := 601024) (by omega) (Nat.le_of_ble_eq_true rfl), Nat.le_trans (m := 7293034) (by omega) (Nat.le_of_ble_eq_true rfl)⟩ ?_
  refine pv_istore C [(5, .int v13), (0, .ref bb), (1, .ref a1), (2, .ref a2), (3, .ref a3), (4, .int x4)] dL_law_1068 (by decide) rfl ?_
  refine pv_aload_n C 3 dL_law_1070 rfl rfl ?_
  refine pv_aload_n C 1 dL_law_1071 rfl rfl ?_
  refine pv_iload C 5 dL_law_1072 rfl ?_
  refine pv_iconst (v := 1) C dL_law_1074 (by decide) ?_
  refine pv_iadd C dL_law_1075 ?_
  obtain ⟨g16, h⟩ := pq_gd h
  refine pv_sld C hXs hbl hbA g16 dL_law_1076 ?_
  refine pv_aload_n C 1 dL_law_1077 rfl rfl ?_
  refine pv_iload C 5 dL_law_1078 rfl ?_
  refine pv_iconst (v := 2) C dL_law_1080 (by decide) ?_
  refine pv_iadd C dL_law_1081 ?_
  obtain ⟨g17, h⟩ := pq_gd h
  refine pv_sld C hXs hbl hbA g17 dL_law_1082 ?_
  obtain ⟨v18, S19, e20, h⟩ := pq_bs h
  refine pv_calliV C (ci := 11) rfl (by decide) k2_ [.int (xs (Int32.toNatClampNeg (x4 + (1 : Int32)))), .int (xs (Int32.toNatClampNeg (x4 + (2 : Int32))))] (fun sz => r_X11_sourceOf W0 k2_ e20 sz) (cwV 2 C.1.2.2.2.2 gL_law_X11_sourceOf rfl rfl rfl (by decide +kernel) ⟨Nat.le_of_ble_eq_true rfl, Nat.le_of_ble_eq_true rfl⟩) rfl rfl (Nat.le_of_ble_eq_true rfl) dL_law_1083 ⟨Nat.le_trans (m := 601024) (by omega) (Nat.le_of_ble_eq_true rfl), Nat.le_trans (m := 7293034) (by omega) (Nat.le_of_ble_eq_true rfl)⟩ ?_
  refine pv_istore C [(6, .int v18), (5, .int v13), (0, .ref bb), (1, .ref a1), (2, .ref a2), (3, .ref a3), (4, .int x4)] dL_law_1086 (by decide) rfl ?_
  refine pv_aload_n C 4 dL_law_1088 rfl rfl ?_
  obtain ⟨v21, S22, e23, h⟩ := pq_bs h
  refine pv_calliV C (ci := 11) rfl (by decide) k2_ [] (fun sz => r_X11_thrown W0 k2_ e23 sz) (cwV 0 C.1.2.2.2.2 gL_law_X11_thrown rfl rfl rfl (by decide +kernel) ⟨Nat.le_of_ble_eq_true rfl, Nat.le_of_ble_eq_true rfl⟩) rfl rfl (Nat.le_of_ble_eq_true rfl) dL_law_1089 ⟨Nat.le_trans (m := 601024) (by omega) (Nat.le_of_ble_eq_true rfl), Nat.le_trans (m := 7293034) (by omega) (Nat.le_of_ble_eq_true rfl)⟩ ?_
  refine pv_iload C 1 dL_law_1092 rfl ?_
  refine pv_icmp_eq (tgt := 1099) C dL_law_1094 (by decide) (fun c24 => ?_) (fun c24 => ?_)
  · have h := pq_it c24 h
    refine pv_iload C 1 dL_law_1099 rfl ?_
    refine pv_if_ne (tgt := 1116) C dL_law_1101 (by decide) (fun c25 => ?_) (fun c25 => ?_)
    · have h := pq_if c25 h
      refine pv_goto (tgt := 2770) C dL_law_1116 (by decide) ?_
      refine pv_sub [2, 3, 4, 5, 6] rfl ?_
      cases h
      exact pv_wide (k := cells + 8) (n := slots + 48) (by omega) (by omega) kk
    · have h := pq_it c25 h
      refine pv_aload_n C 5 dL_law_1104 rfl rfl ?_
      refine pv_iconst (v := 0) C dL_law_1105 (by decide) ?_
      obtain ⟨g26, h⟩ := pq_gd h
      refine pv_laload C k3_ g26 dL_law_1106 ?_
      refine pv_iload C 0 dL_law_1107 rfl ?_
      refine pv_i2l C dL_law_1109 ?_
      refine pv_lcmp C dL_law_1110 ?_
      refine pv_if_eq (tgt := 1116) C dL_law_1111 (by decide) (fun c27 => ?_) (fun c27 => ?_)
      · have h := pq_it c27 h
        refine pv_goto (tgt := 2770) C dL_law_1116 (by decide) ?_
        refine pv_sub [2, 3, 4, 5, 6] rfl ?_
        cases h
        exact pv_wide (k := cells + 8) (n := slots + 48) (by omega) (by omega) kk
      · have h := pq_if c27 h
        cases h
  · have h := pq_if c24 h
    cases h
def F_L_c17 (G : pq_G) (S : pq_N) (xs : Nat → Int32) (L : Nat) (a1 a2 a3 : Nat) (x4 : Int32) : Option pq_N := (if (x4 + (1 : Int32)) < 0 ∨ L ≤ (Int32.toNatClampNeg (x4 + (1 : Int32))) then none else (if (x4 + (2 : Int32)) < 0 ∨ L ≤ (Int32.toNatClampNeg (x4 + (2 : Int32))) then none else (pq_bd (F_L_beginOf G S a1 (xs (Int32.toNatClampNeg (x4 + (1 : Int32)))) (xs (Int32.toNatClampNeg (x4 + (2 : Int32)))) a3) fun v13 S14 => (if (x4 + (1 : Int32)) < 0 ∨ L ≤ (Int32.toNatClampNeg (x4 + (1 : Int32))) then none else (if (x4 + (2 : Int32)) < 0 ∨ L ≤ (Int32.toNatClampNeg (x4 + (2 : Int32))) then none else (pq_bd (F_X11_beginOf G S14 a2 (xs (Int32.toNatClampNeg (x4 + (1 : Int32)))) (xs (Int32.toNatClampNeg (x4 + (2 : Int32))))) fun v18 S19 => (pq_bd (F_X11_thrown G S19 a2) fun v21 S22 => (if v21 = v13 then (if v13 = (0 : Int32) then (if (0 : Int32) < 0 ∨ pq_n G a3 ≤ (Int32.toNatClampNeg (0 : Int32)) then none else (if (lg_cmp (S22.2 a3 (Int32.toNatClampNeg (0 : Int32))) (Int32.toInt64 v18)) = (0 : Int32) then some S22 else none)) else some S22) else none))))))))
set_option maxHeartbeats 4000000 in
set_option maxRecDepth 100000 in
theorem r_L_c17 {p : Program} {l : Launch} {e : Env} {s : State} {m : MethodId} {av : Array Value} {below : List Frame} {meth : Method} {c : Code} {Q : State → Prop} {D : va_G} {y : pq_Y} {G : pq_G} (hl : l.stackTraces = false) (W0 : pq_WT G) (C : pq_C p s m av c D y RL wsL_law cL_law 9) (hX : pq_X (pq_A G s.heap.size) s s.heap) {bb L : Nat} {xs : Nat → Int32} (hXs : va_X bb L xs s s.heap) (hbl : bb < s.heap.size) (hbA : ¬ pq_A G s.heap.size bb) {a1 a2 a3 : Nat} (k1_ : pq_ok G 10 a1) (k2_ : pq_ok G 11 a2) (k3_ : pq_ok G 13 a3) {x4 : Int32} {S S1 : pq_N} {cells slots : Nat} (hc : cells + 8 ≤ 601024) (hs : slots + 48 ≤ 7293034) (h : F_L_c17 G S xs L a1 a2 a3 x4 = some S1) (kk : pq_V p l e room_1 s m av below meth c (cells + 8) (slots + 48) Q D y 9 (pq_A G s.heap.size) (fun _ => True) G S1 2770 [(0, .ref bb), (1, .ref a1), (2, .ref a2), (3, .ref a3), (4, .int x4)] []) : pq_V p l e room_1 s m av below meth c cells slots Q D y 9 (pq_A G s.heap.size) (fun _ => True) G S 1119 [(0, .ref bb), (1, .ref a1), (2, .ref a2), (3, .ref a3), (4, .int x4)] [] := by
  unfold F_L_c17 at h
  refine pv_aload_n C 1 dL_law_1119 rfl rfl ?_
  refine pv_aload_n C 0 dL_law_1120 rfl rfl ?_
  refine pv_iload C 4 dL_law_1121 rfl ?_
  refine pv_iconst (v := 1) C dL_law_1123 (by decide) ?_
  refine pv_iadd C dL_law_1124 ?_
  obtain ⟨g11, h⟩ := pq_gd h
  refine pv_sld C hXs hbl hbA g11 dL_law_1125 ?_
  refine pv_aload_n C 0 dL_law_1126 rfl rfl ?_
  refine pv_iload C 4 dL_law_1127 rfl ?_
  refine pv_iconst (v := 2) C dL_law_1129 (by decide) ?_
  refine pv_iadd C dL_law_1130 ?_
  obtain ⟨g12, h⟩ := pq_gd h
  refine pv_sld C hXs hbl hbA g12 dL_law_1131 ?_
  refine pv_aload_n C 3 dL_law_1132 rfl rfl ?_
  obtain ⟨v13, S14, e15, h⟩ := pq_bs h
  refine pv_hcalli C (kc := 2) (ks := 12) hX [.ref a1, .int (xs (Int32.toNatClampNeg (x4 + (1 : Int32)))), .int (xs (Int32.toNatClampNeg (x4 + (2 : Int32)))), .ref a3] (fun sz => r_L_beginOf hl W0 k1_ k3_ e15 sz) (vx_cwSW 4 C.1.2.2.2.2 gL_law_L_beginOf rfl rfl rfl (by decide +kernel) ⟨Nat.le_of_ble_eq_true rfl, Nat.le_of_ble_eq_true rfl⟩) rfl rfl (Nat.le_of_ble_eq_true rfl) dL_law_1133 ⟨Nat.le_trans (m := 601024) (by omega) (Nat.le_of_ble_eq_true rfl), Nat.le_trans (m := 7293034) (by omega) (Nat.le_of_ble_eq_true rfl)⟩ ?_
  refine pv_istore C [(5, .int v13), (0, .ref bb), (1, .ref a1), (2, .ref a2), (3, .ref a3), (4, .int x4)] dL_law_1136 (by decide) rfl ?_
  refine pv_aload_n C 3 dL_law_1138 rfl rfl ?_
  refine pv_aload_n C 1 dL_law_1139 rfl rfl ?_
  refine pv_iload C 5 dL_law_1140 rfl ?_
  refine pv_iconst (v := 1) C dL_law_1142 (by decide) ?_
  refine pv_iadd C dL_law_1143 ?_
  obtain ⟨g16, h⟩ := pq_gd h
  refine pv_sld C hXs hbl hbA g16 dL_law_1144 ?_
  refine pv_aload_n C 1 dL_law_1145 rfl rfl ?_
  refine pv_iload C 5 dL_law_1146 rfl ?_
  refine pv_iconst (v := 2) C dL_law_1148 (by decide) ?_
  refine pv_iadd C dL_law_1149 ?_
  obtain ⟨g17, h⟩ := pq_gd h
  refine pv_sld C hXs hbl hbA g17 dL_law_1150 ?_
  obtain ⟨v18, S19, e20, h⟩ := pq_bs h
  refine pv_calliV C (ci := 11) rfl (by decide) k2_ [.int (xs (Int32.toNatClampNeg (x4 + (1 : Int32)))), .int (xs (Int32.toNatClampNeg (x4 + (2 : Int32))))] (fun sz => r_X11_beginOf W0 k2_ e20 sz) (cwV 2 C.1.2.2.2.2 gL_law_X11_beginOf rfl rfl rfl (by decide +kernel) ⟨Nat.le_of_ble_eq_true rfl, Nat.le_of_ble_eq_true rfl⟩) rfl rfl (Nat.le_of_ble_eq_true rfl) dL_law_1151 ⟨Nat.le_trans (m := 601024) (by omega) (Nat.le_of_ble_eq_true rfl), Nat.le_trans (m := 7293034) (by omega) (Nat.le_of_ble_eq_true rfl)⟩ ?_
  refine pv_istore C [(6, .int v18), (5, .int v13), (0, .ref bb), (1, .ref a1), (2, .ref a2), (3, .ref a3), (4, .int x4)] dL_law_1154 (by decide) rfl ?_
  refine pv_aload_n C 4 dL_law_1156 rfl rfl ?_
  obtain ⟨v21, S22, e23, h⟩ := pq_bs h
  refine pv_calliV C (ci := 11) rfl (by decide) k2_ [] (fun sz => r_X11_thrown W0 k2_ e23 sz) (cwV 0 C.1.2.2.2.2 gL_law_X11_thrown rfl rfl rfl (by decide +kernel) ⟨Nat.le_of_ble_eq_true rfl, Nat.le_of_ble_eq_true rfl⟩) rfl rfl (Nat.le_of_ble_eq_true rfl) dL_law_1157 ⟨Nat.le_trans (m := 601024) (by omega) (Nat.le_of_ble_eq_true rfl), Nat.le_trans (m := 7293034) (by omega) (Nat.le_of_ble_eq_true rfl)⟩ ?_
  refine pv_iload C 1 dL_law_1160 rfl ?_
  refine pv_icmp_eq (tgt := 1167) C dL_law_1162 (by decide) (fun c24 => ?_) (fun c24 => ?_)
  · have h := pq_it c24 h
    refine pv_iload C 1 dL_law_1167 rfl ?_
    refine pv_if_ne (tgt := 1184) C dL_law_1169 (by decide) (fun c25 => ?_) (fun c25 => ?_)
    · have h := pq_if c25 h
      refine pv_goto (tgt := 2770) C dL_law_1184 (by decide) ?_
      refine pv_sub [2, 3, 4, 5, 6] rfl ?_
      cases h
      exact pv_wide (k := cells + 8) (n := slots + 48) (by omega) (by omega) kk
    · have h := pq_it c25 h
      refine pv_aload_n C 5 dL_law_1172 rfl rfl ?_
      refine pv_iconst (v := 0) C dL_law_1173 (by decide) ?_
      obtain ⟨g26, h⟩ := pq_gd h
      refine pv_laload C k3_ g26 dL_law_1174 ?_
      refine pv_iload C 0 dL_law_1175 rfl ?_
      refine pv_i2l C dL_law_1177 ?_
      refine pv_lcmp C dL_law_1178 ?_
      refine pv_if_eq (tgt := 1184) C dL_law_1179 (by decide) (fun c27 => ?_) (fun c27 => ?_)
      · have h := pq_it c27 h
        refine pv_goto (tgt := 2770) C dL_law_1184 (by decide) ?_
        refine pv_sub [2, 3, 4, 5, 6] rfl ?_
        cases h
        exact pv_wide (k := cells + 8) (n := slots + 48) (by omega) (by omega) kk
      · have h := pq_if c27 h
        cases h
  · have h := pq_if c24 h
    cases h
def F_L_c18 (G : pq_G) (S : pq_N) (xs : Nat → Int32) (L : Nat) (a1 a2 a3 : Nat) (x4 : Int32) : Option pq_N := (if (x4 + (1 : Int32)) < 0 ∨ L ≤ (Int32.toNatClampNeg (x4 + (1 : Int32))) then none else (if (x4 + (2 : Int32)) < 0 ∨ L ≤ (Int32.toNatClampNeg (x4 + (2 : Int32))) then none else (pq_bd (F_L_lengthOf G S a1 (xs (Int32.toNatClampNeg (x4 + (1 : Int32)))) (xs (Int32.toNatClampNeg (x4 + (2 : Int32)))) a3) fun v13 S14 => (if (x4 + (1 : Int32)) < 0 ∨ L ≤ (Int32.toNatClampNeg (x4 + (1 : Int32))) then none else (if (x4 + (2 : Int32)) < 0 ∨ L ≤ (Int32.toNatClampNeg (x4 + (2 : Int32))) then none else (pq_bd (F_X11_lengthOf G S14 a2 (xs (Int32.toNatClampNeg (x4 + (1 : Int32)))) (xs (Int32.toNatClampNeg (x4 + (2 : Int32))))) fun v18 S19 => (pq_bd (F_X11_thrown G S19 a2) fun v21 S22 => (if v21 = v13 then (if v13 = (0 : Int32) then (if (0 : Int32) < 0 ∨ pq_n G a3 ≤ (Int32.toNatClampNeg (0 : Int32)) then none else (if (lg_cmp (S22.2 a3 (Int32.toNatClampNeg (0 : Int32))) (Int32.toInt64 v18)) = (0 : Int32) then some S22 else none)) else some S22) else none))))))))
set_option maxHeartbeats 4000000 in
set_option maxRecDepth 100000 in
theorem r_L_c18 {p : Program} {l : Launch} {e : Env} {s : State} {m : MethodId} {av : Array Value} {below : List Frame} {meth : Method} {c : Code} {Q : State → Prop} {D : va_G} {y : pq_Y} {G : pq_G} (hl : l.stackTraces = false) (W0 : pq_WT G) (C : pq_C p s m av c D y RL wsL_law cL_law 9) (hX : pq_X (pq_A G s.heap.size) s s.heap) {bb L : Nat} {xs : Nat → Int32} (hXs : va_X bb L xs s s.heap) (hbl : bb < s.heap.size) (hbA : ¬ pq_A G s.heap.size bb) {a1 a2 a3 : Nat} (k1_ : pq_ok G 10 a1) (k2_ : pq_ok G 11 a2) (k3_ : pq_ok G 13 a3) {x4 : Int32} {S S1 : pq_N} {cells slots : Nat} (hc : cells + 8 ≤ 601024) (hs : slots + 48 ≤ 7293034) (h : F_L_c18 G S xs L a1 a2 a3 x4 = some S1) (kk : pq_V p l e room_1 s m av below meth c (cells + 8) (slots + 48) Q D y 9 (pq_A G s.heap.size) (fun _ => True) G S1 2770 [(0, .ref bb), (1, .ref a1), (2, .ref a2), (3, .ref a3), (4, .int x4)] []) : pq_V p l e room_1 s m av below meth c cells slots Q D y 9 (pq_A G s.heap.size) (fun _ => True) G S 1187 [(0, .ref bb), (1, .ref a1), (2, .ref a2), (3, .ref a3), (4, .int x4)] [] := by
  unfold F_L_c18 at h
  refine pv_aload_n C 1 dL_law_1187 rfl rfl ?_
  refine pv_aload_n C 0 dL_law_1188 rfl rfl ?_
  refine pv_iload C 4 dL_law_1189 rfl ?_
  refine pv_iconst (v := 1) C dL_law_1191 (by decide) ?_
  refine pv_iadd C dL_law_1192 ?_
  obtain ⟨g11, h⟩ := pq_gd h
  refine pv_sld C hXs hbl hbA g11 dL_law_1193 ?_
  refine pv_aload_n C 0 dL_law_1194 rfl rfl ?_
  refine pv_iload C 4 dL_law_1195 rfl ?_
  refine pv_iconst (v := 2) C dL_law_1197 (by decide) ?_
  refine pv_iadd C dL_law_1198 ?_
  obtain ⟨g12, h⟩ := pq_gd h
  refine pv_sld C hXs hbl hbA g12 dL_law_1199 ?_
  refine pv_aload_n C 3 dL_law_1200 rfl rfl ?_
  obtain ⟨v13, S14, e15, h⟩ := pq_bs h
  refine pv_hcalli C (kc := 2) (ks := 12) hX [.ref a1, .int (xs (Int32.toNatClampNeg (x4 + (1 : Int32)))), .int (xs (Int32.toNatClampNeg (x4 + (2 : Int32)))), .ref a3] (fun sz => r_L_lengthOf hl W0 k1_ k3_ e15 sz) (vx_cwSW 4 C.1.2.2.2.2 gL_law_L_lengthOf rfl rfl rfl (by decide +kernel) ⟨Nat.le_of_ble_eq_true rfl, Nat.le_of_ble_eq_true rfl⟩) rfl rfl (Nat.le_of_ble_eq_true rfl) dL_law_1201 ⟨Nat.le_trans (m := 601024) (by omega) (Nat.le_of_ble_eq_true rfl), Nat.le_trans (m := 7293034) (by omega) (Nat.le_of_ble_eq_true rfl)⟩ ?_
  refine pv_istore C [(5, .int v13), (0, .ref bb), (1, .ref a1), (2, .ref a2), (3, .ref a3), (4, .int x4)] dL_law_1204 (by decide) rfl ?_
  refine pv_aload_n C 3 dL_law_1206 rfl rfl ?_
  refine pv_aload_n C 1 dL_law_1207 rfl rfl ?_
  refine pv_iload C 5 dL_law_1208 rfl ?_
  refine pv_iconst (v := 1) C dL_law_1210 (by decide) ?_
  refine pv_iadd C dL_law_1211 ?_
  obtain ⟨g16, h⟩ := pq_gd h
  refine pv_sld C hXs hbl hbA g16 dL_law_1212 ?_
  refine pv_aload_n C 1 dL_law_1213 rfl rfl ?_
  refine pv_iload C 5 dL_law_1214 rfl ?_
  refine pv_iconst (v := 2) C dL_law_1216 (by decide) ?_
  refine pv_iadd C dL_law_1217 ?_
  obtain ⟨g17, h⟩ := pq_gd h
  refine pv_sld C hXs hbl hbA g17 dL_law_1218 ?_
  obtain ⟨v18, S19, e20, h⟩ := pq_bs h
  refine pv_calliV C (ci := 11) rfl (by decide) k2_ [.int (xs (Int32.toNatClampNeg (x4 + (1 : Int32)))), .int (xs (Int32.toNatClampNeg (x4 + (2 : Int32))))] (fun sz => r_X11_lengthOf W0 k2_ e20 sz) (cwV 2 C.1.2.2.2.2 gL_law_X11_lengthOf rfl rfl rfl (by decide +kernel) ⟨Nat.le_of_ble_eq_true rfl, Nat.le_of_ble_eq_true rfl⟩) rfl rfl (Nat.le_of_ble_eq_true rfl) dL_law_1219 ⟨Nat.le_trans (m := 601024) (by omega) (Nat.le_of_ble_eq_true rfl), Nat.le_trans (m := 7293034) (by omega) (Nat.le_of_ble_eq_true rfl)⟩ ?_
  refine pv_istore C [(6, .int v18), (5, .int v13), (0, .ref bb), (1, .ref a1), (2, .ref a2), (3, .ref a3), (4, .int x4)] dL_law_1222 (by decide) rfl ?_
  refine pv_aload_n C 4 dL_law_1224 rfl rfl ?_
  obtain ⟨v21, S22, e23, h⟩ := pq_bs h
  refine pv_calliV C (ci := 11) rfl (by decide) k2_ [] (fun sz => r_X11_thrown W0 k2_ e23 sz) (cwV 0 C.1.2.2.2.2 gL_law_X11_thrown rfl rfl rfl (by decide +kernel) ⟨Nat.le_of_ble_eq_true rfl, Nat.le_of_ble_eq_true rfl⟩) rfl rfl (Nat.le_of_ble_eq_true rfl) dL_law_1225 ⟨Nat.le_trans (m := 601024) (by omega) (Nat.le_of_ble_eq_true rfl), Nat.le_trans (m := 7293034) (by omega) (Nat.le_of_ble_eq_true rfl)⟩ ?_
  refine pv_iload C 1 dL_law_1228 rfl ?_
  refine pv_icmp_eq (tgt := 1235) C dL_law_1230 (by decide) (fun c24 => ?_) (fun c24 => ?_)
  · have h := pq_it c24 h
    refine pv_iload C 1 dL_law_1235 rfl ?_
    refine pv_if_ne (tgt := 1252) C dL_law_1237 (by decide) (fun c25 => ?_) (fun c25 => ?_)
    · have h := pq_if c25 h
      refine pv_goto (tgt := 2770) C dL_law_1252 (by decide) ?_
      refine pv_sub [2, 3, 4, 5, 6] rfl ?_
      cases h
      exact pv_wide (k := cells + 8) (n := slots + 48) (by omega) (by omega) kk
    · have h := pq_it c25 h
      refine pv_aload_n C 5 dL_law_1240 rfl rfl ?_
      refine pv_iconst (v := 0) C dL_law_1241 (by decide) ?_
      obtain ⟨g26, h⟩ := pq_gd h
      refine pv_laload C k3_ g26 dL_law_1242 ?_
      refine pv_iload C 0 dL_law_1243 rfl ?_
      refine pv_i2l C dL_law_1245 ?_
      refine pv_lcmp C dL_law_1246 ?_
      refine pv_if_eq (tgt := 1252) C dL_law_1247 (by decide) (fun c27 => ?_) (fun c27 => ?_)
      · have h := pq_it c27 h
        refine pv_goto (tgt := 2770) C dL_law_1252 (by decide) ?_
        refine pv_sub [2, 3, 4, 5, 6] rfl ?_
        cases h
        exact pv_wide (k := cells + 8) (n := slots + 48) (by omega) (by omega) kk
      · have h := pq_if c27 h
        cases h
  · have h := pq_if c24 h
    cases h
def F_L_c19 (G : pq_G) (S : pq_N) (xs : Nat → Int32) (L : Nat) (a1 a2 a3 : Nat) (x4 : Int32) : Option pq_N := (if (x4 + (1 : Int32)) < 0 ∨ L ≤ (Int32.toNatClampNeg (x4 + (1 : Int32))) then none else (if (x4 + (2 : Int32)) < 0 ∨ L ≤ (Int32.toNatClampNeg (x4 + (2 : Int32))) then none else (pq_bd (F_L_changesByTable G S a1 (xs (Int32.toNatClampNeg (x4 + (1 : Int32)))) (xs (Int32.toNatClampNeg (x4 + (2 : Int32)))) a3) fun v13 S14 => (if (x4 + (1 : Int32)) < 0 ∨ L ≤ (Int32.toNatClampNeg (x4 + (1 : Int32))) then none else (if (x4 + (2 : Int32)) < 0 ∨ L ≤ (Int32.toNatClampNeg (x4 + (2 : Int32))) then none else (pq_bd (F_X11_changesByTable G S14 a2 (xs (Int32.toNatClampNeg (x4 + (1 : Int32)))) (xs (Int32.toNatClampNeg (x4 + (2 : Int32))))) fun v18 S19 => (pq_bd (F_X11_thrown G S19 a2) fun v21 S22 => (if v21 = v13 then (if v13 = (0 : Int32) then (if (0 : Int32) < 0 ∨ pq_n G a3 ≤ (Int32.toNatClampNeg (0 : Int32)) then none else (if (lg_cmp (S22.2 a3 (Int32.toNatClampNeg (0 : Int32))) (Int32.toInt64 v18)) = (0 : Int32) then some S22 else none)) else some S22) else none))))))))
set_option maxHeartbeats 4000000 in
set_option maxRecDepth 100000 in
theorem r_L_c19 {p : Program} {l : Launch} {e : Env} {s : State} {m : MethodId} {av : Array Value} {below : List Frame} {meth : Method} {c : Code} {Q : State → Prop} {D : va_G} {y : pq_Y} {G : pq_G} (hl : l.stackTraces = false) (W0 : pq_WT G) (C : pq_C p s m av c D y RL wsL_law cL_law 9) (hX : pq_X (pq_A G s.heap.size) s s.heap) {bb L : Nat} {xs : Nat → Int32} (hXs : va_X bb L xs s s.heap) (hbl : bb < s.heap.size) (hbA : ¬ pq_A G s.heap.size bb) {a1 a2 a3 : Nat} (k1_ : pq_ok G 10 a1) (k2_ : pq_ok G 11 a2) (k3_ : pq_ok G 13 a3) {x4 : Int32} {S S1 : pq_N} {cells slots : Nat} (hc : cells + 8 ≤ 601024) (hs : slots + 48 ≤ 7293034) (h : F_L_c19 G S xs L a1 a2 a3 x4 = some S1) (kk : pq_V p l e room_1 s m av below meth c (cells + 8) (slots + 48) Q D y 9 (pq_A G s.heap.size) (fun _ => True) G S1 2770 [(0, .ref bb), (1, .ref a1), (2, .ref a2), (3, .ref a3), (4, .int x4)] []) : pq_V p l e room_1 s m av below meth c cells slots Q D y 9 (pq_A G s.heap.size) (fun _ => True) G S 1255 [(0, .ref bb), (1, .ref a1), (2, .ref a2), (3, .ref a3), (4, .int x4)] [] := by
  unfold F_L_c19 at h
  refine pv_aload_n C 1 dL_law_1255 rfl rfl ?_
  refine pv_aload_n C 0 dL_law_1256 rfl rfl ?_
  refine pv_iload C 4 dL_law_1257 rfl ?_
  refine pv_iconst (v := 1) C dL_law_1259 (by decide) ?_
  refine pv_iadd C dL_law_1260 ?_
  obtain ⟨g11, h⟩ := pq_gd h
  refine pv_sld C hXs hbl hbA g11 dL_law_1261 ?_
  refine pv_aload_n C 0 dL_law_1262 rfl rfl ?_
  refine pv_iload C 4 dL_law_1263 rfl ?_
  refine pv_iconst (v := 2) C dL_law_1265 (by decide) ?_
  refine pv_iadd C dL_law_1266 ?_
  obtain ⟨g12, h⟩ := pq_gd h
  refine pv_sld C hXs hbl hbA g12 dL_law_1267 ?_
  refine pv_aload_n C 3 dL_law_1268 rfl rfl ?_
  obtain ⟨v13, S14, e15, h⟩ := pq_bs h
  refine pv_hcalli C (kc := 2) (ks := 12) hX [.ref a1, .int (xs (Int32.toNatClampNeg (x4 + (1 : Int32)))), .int (xs (Int32.toNatClampNeg (x4 + (2 : Int32)))), .ref a3] (fun sz => r_L_changesByTable hl W0 k1_ k3_ e15 sz) (vx_cwSW 4 C.1.2.2.2.2 gL_law_L_changesByTable rfl rfl rfl (by decide +kernel) ⟨Nat.le_of_ble_eq_true rfl, Nat.le_of_ble_eq_true rfl⟩) rfl rfl (Nat.le_of_ble_eq_true rfl) dL_law_1269 ⟨Nat.le_trans (m := 601024) (by omega) (Nat.le_of_ble_eq_true rfl), Nat.le_trans (m := 7293034) (by omega) (Nat.le_of_ble_eq_true rfl)⟩ ?_
  refine pv_istore C [(5, .int v13), (0, .ref bb), (1, .ref a1), (2, .ref a2), (3, .ref a3), (4, .int x4)] dL_law_1272 (by decide) rfl ?_
  refine pv_aload_n C 3 dL_law_1274 rfl rfl ?_
  refine pv_aload_n C 1 dL_law_1275 rfl rfl ?_
  refine pv_iload C 5 dL_law_1276 rfl ?_
  refine pv_iconst (v := 1) C dL_law_1278 (by decide) ?_
  refine pv_iadd C dL_law_1279 ?_
  obtain ⟨g16, h⟩ := pq_gd h
  refine pv_sld C hXs hbl hbA g16 dL_law_1280 ?_
  refine pv_aload_n C 1 dL_law_1281 rfl rfl ?_
  refine pv_iload C 5 dL_law_1282 rfl ?_
  refine pv_iconst (v := 2) C dL_law_1284 (by decide) ?_
  refine pv_iadd C dL_law_1285 ?_
  obtain ⟨g17, h⟩ := pq_gd h
  refine pv_sld C hXs hbl hbA g17 dL_law_1286 ?_
  obtain ⟨v18, S19, e20, h⟩ := pq_bs h
  refine pv_calliV C (ci := 11) rfl (by decide) k2_ [.int (xs (Int32.toNatClampNeg (x4 + (1 : Int32)))), .int (xs (Int32.toNatClampNeg (x4 + (2 : Int32))))] (fun sz => r_X11_changesByTable W0 k2_ e20 sz) (cwV 2 C.1.2.2.2.2 gL_law_X11_changesByTable rfl rfl rfl (by decide +kernel) ⟨Nat.le_of_ble_eq_true rfl, Nat.le_of_ble_eq_true rfl⟩) rfl rfl (Nat.le_of_ble_eq_true rfl) dL_law_1287 ⟨Nat.le_trans (m := 601024) (by omega) (Nat.le_of_ble_eq_true rfl), Nat.le_trans (m := 7293034) (by omega) (Nat.le_of_ble_eq_true rfl)⟩ ?_
  refine pv_istore C [(6, .int v18), (5, .int v13), (0, .ref bb), (1, .ref a1), (2, .ref a2), (3, .ref a3), (4, .int x4)] dL_law_1290 (by decide) rfl ?_
  refine pv_aload_n C 4 dL_law_1292 rfl rfl ?_
  obtain ⟨v21, S22, e23, h⟩ := pq_bs h
  refine pv_calliV C (ci := 11) rfl (by decide) k2_ [] (fun sz => r_X11_thrown W0 k2_ e23 sz) (cwV 0 C.1.2.2.2.2 gL_law_X11_thrown rfl rfl rfl (by decide +kernel) ⟨Nat.le_of_ble_eq_true rfl, Nat.le_of_ble_eq_true rfl⟩) rfl rfl (Nat.le_of_ble_eq_true rfl) dL_law_1293 ⟨Nat.le_trans (m := 601024) (by omega) (Nat.le_of_ble_eq_true rfl), Nat.le_trans (m := 7293034) (by omega) (Nat.le_of_ble_eq_true rfl)⟩ ?_
  refine pv_iload C 1 dL_law_1296 rfl ?_
  refine pv_icmp_eq (tgt := 1303) C dL_law_1298 (by decide) (fun c24 => ?_) (fun c24 => ?_)
  · have h := pq_it c24 h
    refine pv_iload C 1 dL_law_1303 rfl ?_
    refine pv_if_ne (tgt := 1320) C dL_law_1305 (by decide) (fun c25 => ?_) (fun c25 => ?_)
    · have h := pq_if c25 h
      refine pv_goto (tgt := 2770) C dL_law_1320 (by decide) ?_
      refine pv_sub [2, 3, 4, 5, 6] rfl ?_
      cases h
      exact pv_wide (k := cells + 8) (n := slots + 48) (by omega) (by omega) kk
    · have h := pq_it c25 h
      refine pv_aload_n C 5 dL_law_1308 rfl rfl ?_
      refine pv_iconst (v := 0) C dL_law_1309 (by decide) ?_
      obtain ⟨g26, h⟩ := pq_gd h
      refine pv_laload C k3_ g26 dL_law_1310 ?_
      refine pv_iload C 0 dL_law_1311 rfl ?_
      refine pv_i2l C dL_law_1313 ?_
      refine pv_lcmp C dL_law_1314 ?_
      refine pv_if_eq (tgt := 1320) C dL_law_1315 (by decide) (fun c27 => ?_) (fun c27 => ?_)
      · have h := pq_it c27 h
        refine pv_goto (tgt := 2770) C dL_law_1320 (by decide) ?_
        refine pv_sub [2, 3, 4, 5, 6] rfl ?_
        cases h
        exact pv_wide (k := cells + 8) (n := slots + 48) (by omega) (by omega) kk
      · have h := pq_if c27 h
        cases h
  · have h := pq_if c24 h
    cases h
def F_L_c20 (G : pq_G) (S : pq_N) (xs : Nat → Int32) (L : Nat) (a1 a2 a3 : Nat) (x4 : Int32) : Option pq_N := (if (x4 + (1 : Int32)) < 0 ∨ L ≤ (Int32.toNatClampNeg (x4 + (1 : Int32))) then none else (if (x4 + (2 : Int32)) < 0 ∨ L ≤ (Int32.toNatClampNeg (x4 + (2 : Int32))) then none else (pq_bd (F_L_changesByPassages G S a1 (xs (Int32.toNatClampNeg (x4 + (1 : Int32)))) (xs (Int32.toNatClampNeg (x4 + (2 : Int32)))) a3) fun v13 S14 => (if (x4 + (1 : Int32)) < 0 ∨ L ≤ (Int32.toNatClampNeg (x4 + (1 : Int32))) then none else (if (x4 + (2 : Int32)) < 0 ∨ L ≤ (Int32.toNatClampNeg (x4 + (2 : Int32))) then none else (pq_bd (F_X11_changesByPassages G S14 a2 (xs (Int32.toNatClampNeg (x4 + (1 : Int32)))) (xs (Int32.toNatClampNeg (x4 + (2 : Int32))))) fun v18 S19 => (pq_bd (F_X11_thrown G S19 a2) fun v21 S22 => (if v21 = v13 then (if v13 = (0 : Int32) then (if (0 : Int32) < 0 ∨ pq_n G a3 ≤ (Int32.toNatClampNeg (0 : Int32)) then none else (if (lg_cmp (S22.2 a3 (Int32.toNatClampNeg (0 : Int32))) (Int32.toInt64 v18)) = (0 : Int32) then some S22 else none)) else some S22) else none))))))))
set_option maxHeartbeats 4000000 in
set_option maxRecDepth 100000 in
theorem r_L_c20 {p : Program} {l : Launch} {e : Env} {s : State} {m : MethodId} {av : Array Value} {below : List Frame} {meth : Method} {c : Code} {Q : State → Prop} {D : va_G} {y : pq_Y} {G : pq_G} (hl : l.stackTraces = false) (W0 : pq_WT G) (C : pq_C p s m av c D y RL wsL_law cL_law 9) (hX : pq_X (pq_A G s.heap.size) s s.heap) {bb L : Nat} {xs : Nat → Int32} (hXs : va_X bb L xs s s.heap) (hbl : bb < s.heap.size) (hbA : ¬ pq_A G s.heap.size bb) {a1 a2 a3 : Nat} (k1_ : pq_ok G 10 a1) (k2_ : pq_ok G 11 a2) (k3_ : pq_ok G 13 a3) {x4 : Int32} {S S1 : pq_N} {cells slots : Nat} (hc : cells + 8 ≤ 601024) (hs : slots + 48 ≤ 7293034) (h : F_L_c20 G S xs L a1 a2 a3 x4 = some S1) (kk : pq_V p l e room_1 s m av below meth c (cells + 8) (slots + 48) Q D y 9 (pq_A G s.heap.size) (fun _ => True) G S1 2770 [(0, .ref bb), (1, .ref a1), (2, .ref a2), (3, .ref a3), (4, .int x4)] []) : pq_V p l e room_1 s m av below meth c cells slots Q D y 9 (pq_A G s.heap.size) (fun _ => True) G S 1323 [(0, .ref bb), (1, .ref a1), (2, .ref a2), (3, .ref a3), (4, .int x4)] [] := by
  unfold F_L_c20 at h
  refine pv_aload_n C 1 dL_law_1323 rfl rfl ?_
  refine pv_aload_n C 0 dL_law_1324 rfl rfl ?_
  refine pv_iload C 4 dL_law_1325 rfl ?_
  refine pv_iconst (v := 1) C dL_law_1327 (by decide) ?_
  refine pv_iadd C dL_law_1328 ?_
  obtain ⟨g11, h⟩ := pq_gd h
  refine pv_sld C hXs hbl hbA g11 dL_law_1329 ?_
  refine pv_aload_n C 0 dL_law_1330 rfl rfl ?_
  refine pv_iload C 4 dL_law_1331 rfl ?_
  refine pv_iconst (v := 2) C dL_law_1333 (by decide) ?_
  refine pv_iadd C dL_law_1334 ?_
  obtain ⟨g12, h⟩ := pq_gd h
  refine pv_sld C hXs hbl hbA g12 dL_law_1335 ?_
  refine pv_aload_n C 3 dL_law_1336 rfl rfl ?_
  obtain ⟨v13, S14, e15, h⟩ := pq_bs h
  refine pv_hcalli C (kc := 2) (ks := 12) hX [.ref a1, .int (xs (Int32.toNatClampNeg (x4 + (1 : Int32)))), .int (xs (Int32.toNatClampNeg (x4 + (2 : Int32)))), .ref a3] (fun sz => r_L_changesByPassages hl W0 k1_ k3_ e15 sz) (vx_cwSW 4 C.1.2.2.2.2 gL_law_L_changesByPassages rfl rfl rfl (by decide +kernel) ⟨Nat.le_of_ble_eq_true rfl, Nat.le_of_ble_eq_true rfl⟩) rfl rfl (Nat.le_of_ble_eq_true rfl) dL_law_1337 ⟨Nat.le_trans (m := 601024) (by omega) (Nat.le_of_ble_eq_true rfl), Nat.le_trans (m := 7293034) (by omega) (Nat.le_of_ble_eq_true rfl)⟩ ?_
  refine pv_istore C [(5, .int v13), (0, .ref bb), (1, .ref a1), (2, .ref a2), (3, .ref a3), (4, .int x4)] dL_law_1340 (by decide) rfl ?_
  refine pv_aload_n C 3 dL_law_1342 rfl rfl ?_
  refine pv_aload_n C 1 dL_law_1343 rfl rfl ?_
  refine pv_iload C 5 dL_law_1344 rfl ?_
  refine pv_iconst (v := 1) C dL_law_1346 (by decide) ?_
  refine pv_iadd C dL_law_1347 ?_
  obtain ⟨g16, h⟩ := pq_gd h
  refine pv_sld C hXs hbl hbA g16 dL_law_1348 ?_
  refine pv_aload_n C 1 dL_law_1349 rfl rfl ?_
  refine pv_iload C 5 dL_law_1350 rfl ?_
  refine pv_iconst (v := 2) C dL_law_1352 (by decide) ?_
  refine pv_iadd C dL_law_1353 ?_
  obtain ⟨g17, h⟩ := pq_gd h
  refine pv_sld C hXs hbl hbA g17 dL_law_1354 ?_
  obtain ⟨v18, S19, e20, h⟩ := pq_bs h
  refine pv_calliV C (ci := 11) rfl (by decide) k2_ [.int (xs (Int32.toNatClampNeg (x4 + (1 : Int32)))), .int (xs (Int32.toNatClampNeg (x4 + (2 : Int32))))] (fun sz => r_X11_changesByPassages W0 k2_ e20 sz) (cwV 2 C.1.2.2.2.2 gL_law_X11_changesByPassages rfl rfl rfl (by decide +kernel) ⟨Nat.le_of_ble_eq_true rfl, Nat.le_of_ble_eq_true rfl⟩) rfl rfl (Nat.le_of_ble_eq_true rfl) dL_law_1355 ⟨Nat.le_trans (m := 601024) (by omega) (Nat.le_of_ble_eq_true rfl), Nat.le_trans (m := 7293034) (by omega) (Nat.le_of_ble_eq_true rfl)⟩ ?_
  refine pv_istore C [(6, .int v18), (5, .int v13), (0, .ref bb), (1, .ref a1), (2, .ref a2), (3, .ref a3), (4, .int x4)] dL_law_1358 (by decide) rfl ?_
  refine pv_aload_n C 4 dL_law_1360 rfl rfl ?_
  obtain ⟨v21, S22, e23, h⟩ := pq_bs h
  refine pv_calliV C (ci := 11) rfl (by decide) k2_ [] (fun sz => r_X11_thrown W0 k2_ e23 sz) (cwV 0 C.1.2.2.2.2 gL_law_X11_thrown rfl rfl rfl (by decide +kernel) ⟨Nat.le_of_ble_eq_true rfl, Nat.le_of_ble_eq_true rfl⟩) rfl rfl (Nat.le_of_ble_eq_true rfl) dL_law_1361 ⟨Nat.le_trans (m := 601024) (by omega) (Nat.le_of_ble_eq_true rfl), Nat.le_trans (m := 7293034) (by omega) (Nat.le_of_ble_eq_true rfl)⟩ ?_
  refine pv_iload C 1 dL_law_1364 rfl ?_
  refine pv_icmp_eq (tgt := 1371) C dL_law_1366 (by decide) (fun c24 => ?_) (fun c24 => ?_)
  · have h := pq_it c24 h
    refine pv_iload C 1 dL_law_1371 rfl ?_
    refine pv_if_ne (tgt := 1388) C dL_law_1373 (by decide) (fun c25 => ?_) (fun c25 => ?_)
    · have h := pq_if c25 h
      refine pv_goto (tgt := 2770) C dL_law_1388 (by decide) ?_
      refine pv_sub [2, 3, 4, 5, 6] rfl ?_
      cases h
      exact pv_wide (k := cells + 8) (n := slots + 48) (by omega) (by omega) kk
    · have h := pq_it c25 h
      refine pv_aload_n C 5 dL_law_1376 rfl rfl ?_
      refine pv_iconst (v := 0) C dL_law_1377 (by decide) ?_
      obtain ⟨g26, h⟩ := pq_gd h
      refine pv_laload C k3_ g26 dL_law_1378 ?_
      refine pv_iload C 0 dL_law_1379 rfl ?_
      refine pv_i2l C dL_law_1381 ?_
      refine pv_lcmp C dL_law_1382 ?_
      refine pv_if_eq (tgt := 1388) C dL_law_1383 (by decide) (fun c27 => ?_) (fun c27 => ?_)
      · have h := pq_it c27 h
        refine pv_goto (tgt := 2770) C dL_law_1388 (by decide) ?_
        refine pv_sub [2, 3, 4, 5, 6] rfl ?_
        cases h
        exact pv_wide (k := cells + 8) (n := slots + 48) (by omega) (by omega) kk
      · have h := pq_if c27 h
        cases h
  · have h := pq_if c24 h
    cases h
def F_L_c21 (G : pq_G) (S : pq_N) (xs : Nat → Int32) (L : Nat) (a1 a2 a3 : Nat) (x4 : Int32) : Option pq_N := (if (x4 + (1 : Int32)) < 0 ∨ L ≤ (Int32.toNatClampNeg (x4 + (1 : Int32))) then none else (if (x4 + (2 : Int32)) < 0 ∨ L ≤ (Int32.toNatClampNeg (x4 + (2 : Int32))) then none else (pq_bd (F_L_passageOf G S a1 (xs (Int32.toNatClampNeg (x4 + (1 : Int32)))) (xs (Int32.toNatClampNeg (x4 + (2 : Int32)))) a3) fun v13 S14 => (if (x4 + (1 : Int32)) < 0 ∨ L ≤ (Int32.toNatClampNeg (x4 + (1 : Int32))) then none else (if (x4 + (2 : Int32)) < 0 ∨ L ≤ (Int32.toNatClampNeg (x4 + (2 : Int32))) then none else (pq_bd (F_X11_passageOf G S14 a2 (xs (Int32.toNatClampNeg (x4 + (1 : Int32)))) (xs (Int32.toNatClampNeg (x4 + (2 : Int32))))) fun v18 S19 => (pq_bd (F_X11_thrown G S19 a2) fun v21 S22 => (if v21 = v13 then (if v13 = (0 : Int32) then (if (0 : Int32) < 0 ∨ pq_n G a3 ≤ (Int32.toNatClampNeg (0 : Int32)) then none else (if (lg_cmp (S22.2 a3 (Int32.toNatClampNeg (0 : Int32))) (Int32.toInt64 v18)) = (0 : Int32) then some S22 else none)) else some S22) else none))))))))
set_option maxHeartbeats 4000000 in
set_option maxRecDepth 100000 in
theorem r_L_c21 {p : Program} {l : Launch} {e : Env} {s : State} {m : MethodId} {av : Array Value} {below : List Frame} {meth : Method} {c : Code} {Q : State → Prop} {D : va_G} {y : pq_Y} {G : pq_G} (hl : l.stackTraces = false) (W0 : pq_WT G) (C : pq_C p s m av c D y RL wsL_law cL_law 9) (hX : pq_X (pq_A G s.heap.size) s s.heap) {bb L : Nat} {xs : Nat → Int32} (hXs : va_X bb L xs s s.heap) (hbl : bb < s.heap.size) (hbA : ¬ pq_A G s.heap.size bb) {a1 a2 a3 : Nat} (k1_ : pq_ok G 10 a1) (k2_ : pq_ok G 11 a2) (k3_ : pq_ok G 13 a3) {x4 : Int32} {S S1 : pq_N} {cells slots : Nat} (hc : cells + 8 ≤ 601024) (hs : slots + 48 ≤ 7293034) (h : F_L_c21 G S xs L a1 a2 a3 x4 = some S1) (kk : pq_V p l e room_1 s m av below meth c (cells + 8) (slots + 48) Q D y 9 (pq_A G s.heap.size) (fun _ => True) G S1 2770 [(0, .ref bb), (1, .ref a1), (2, .ref a2), (3, .ref a3), (4, .int x4)] []) : pq_V p l e room_1 s m av below meth c cells slots Q D y 9 (pq_A G s.heap.size) (fun _ => True) G S 1391 [(0, .ref bb), (1, .ref a1), (2, .ref a2), (3, .ref a3), (4, .int x4)] [] := by
  unfold F_L_c21 at h
  refine pv_aload_n C 1 dL_law_1391 rfl rfl ?_
  refine pv_aload_n C 0 dL_law_1392 rfl rfl ?_
  refine pv_iload C 4 dL_law_1393 rfl ?_
  refine pv_iconst (v := 1) C dL_law_1395 (by decide) ?_
  refine pv_iadd C dL_law_1396 ?_
  obtain ⟨g11, h⟩ := pq_gd h
  refine pv_sld C hXs hbl hbA g11 dL_law_1397 ?_
  refine pv_aload_n C 0 dL_law_1398 rfl rfl ?_
  refine pv_iload C 4 dL_law_1399 rfl ?_
  refine pv_iconst (v := 2) C dL_law_1401 (by decide) ?_
  refine pv_iadd C dL_law_1402 ?_
  obtain ⟨g12, h⟩ := pq_gd h
  refine pv_sld C hXs hbl hbA g12 dL_law_1403 ?_
  refine pv_aload_n C 3 dL_law_1404 rfl rfl ?_
  obtain ⟨v13, S14, e15, h⟩ := pq_bs h
  refine pv_hcalli C (kc := 2) (ks := 12) hX [.ref a1, .int (xs (Int32.toNatClampNeg (x4 + (1 : Int32)))), .int (xs (Int32.toNatClampNeg (x4 + (2 : Int32)))), .ref a3] (fun sz => r_L_passageOf hl W0 k1_ k3_ e15 sz) (vx_cwSW 4 C.1.2.2.2.2 gL_law_L_passageOf rfl rfl rfl (by decide +kernel) ⟨Nat.le_of_ble_eq_true rfl, Nat.le_of_ble_eq_true rfl⟩) rfl rfl (Nat.le_of_ble_eq_true rfl) dL_law_1405 ⟨Nat.le_trans (m := 601024) (by omega) (Nat.le_of_ble_eq_true rfl), Nat.le_trans (m := 7293034) (by omega) (Nat.le_of_ble_eq_true rfl)⟩ ?_
  refine pv_istore C [(5, .int v13), (0, .ref bb), (1, .ref a1), (2, .ref a2), (3, .ref a3), (4, .int x4)] dL_law_1408 (by decide) rfl ?_
  refine pv_aload_n C 3 dL_law_1410 rfl rfl ?_
  refine pv_aload_n C 1 dL_law_1411 rfl rfl ?_
  refine pv_iload C 5 dL_law_1412 rfl ?_
  refine pv_iconst (v := 1) C dL_law_1414 (by decide) ?_
  refine pv_iadd C dL_law_1415 ?_
  obtain ⟨g16, h⟩ := pq_gd h
  refine pv_sld C hXs hbl hbA g16 dL_law_1416 ?_
  refine pv_aload_n C 1 dL_law_1417 rfl rfl ?_
  refine pv_iload C 5 dL_law_1418 rfl ?_
  refine pv_iconst (v := 2) C dL_law_1420 (by decide) ?_
  refine pv_iadd C dL_law_1421 ?_
  obtain ⟨g17, h⟩ := pq_gd h
  refine pv_sld C hXs hbl hbA g17 dL_law_1422 ?_
  obtain ⟨v18, S19, e20, h⟩ := pq_bs h
  refine pv_calliV C (ci := 11) rfl (by decide) k2_ [.int (xs (Int32.toNatClampNeg (x4 + (1 : Int32)))), .int (xs (Int32.toNatClampNeg (x4 + (2 : Int32))))] (fun sz => r_X11_passageOf W0 k2_ e20 sz) (cwV 2 C.1.2.2.2.2 gL_law_X11_passageOf rfl rfl rfl (by decide +kernel) ⟨Nat.le_of_ble_eq_true rfl, Nat.le_of_ble_eq_true rfl⟩) rfl rfl (Nat.le_of_ble_eq_true rfl) dL_law_1423 ⟨Nat.le_trans (m := 601024) (by omega) (Nat.le_of_ble_eq_true rfl), Nat.le_trans (m := 7293034) (by omega) (Nat.le_of_ble_eq_true rfl)⟩ ?_
  refine pv_istore C [(6, .int v18), (5, .int v13), (0, .ref bb), (1, .ref a1), (2, .ref a2), (3, .ref a3), (4, .int x4)] dL_law_1426 (by decide) rfl ?_
  refine pv_aload_n C 4 dL_law_1428 rfl rfl ?_
  obtain ⟨v21, S22, e23, h⟩ := pq_bs h
  refine pv_calliV C (ci := 11) rfl (by decide) k2_ [] (fun sz => r_X11_thrown W0 k2_ e23 sz) (cwV 0 C.1.2.2.2.2 gL_law_X11_thrown rfl rfl rfl (by decide +kernel) ⟨Nat.le_of_ble_eq_true rfl, Nat.le_of_ble_eq_true rfl⟩) rfl rfl (Nat.le_of_ble_eq_true rfl) dL_law_1429 ⟨Nat.le_trans (m := 601024) (by omega) (Nat.le_of_ble_eq_true rfl), Nat.le_trans (m := 7293034) (by omega) (Nat.le_of_ble_eq_true rfl)⟩ ?_
  refine pv_iload C 1 dL_law_1432 rfl ?_
  refine pv_icmp_eq (tgt := 1439) C dL_law_1434 (by decide) (fun c24 => ?_) (fun c24 => ?_)
  · have h := pq_it c24 h
    refine pv_iload C 1 dL_law_1439 rfl ?_
    refine pv_if_ne (tgt := 1456) C dL_law_1441 (by decide) (fun c25 => ?_) (fun c25 => ?_)
    · have h := pq_if c25 h
      refine pv_goto (tgt := 2770) C dL_law_1456 (by decide) ?_
      refine pv_sub [2, 3, 4, 5, 6] rfl ?_
      cases h
      exact pv_wide (k := cells + 8) (n := slots + 48) (by omega) (by omega) kk
    · have h := pq_it c25 h
      refine pv_aload_n C 5 dL_law_1444 rfl rfl ?_
      refine pv_iconst (v := 0) C dL_law_1445 (by decide) ?_
      obtain ⟨g26, h⟩ := pq_gd h
      refine pv_laload C k3_ g26 dL_law_1446 ?_
      refine pv_iload C 0 dL_law_1447 rfl ?_
      refine pv_i2l C dL_law_1449 ?_
      refine pv_lcmp C dL_law_1450 ?_
      refine pv_if_eq (tgt := 1456) C dL_law_1451 (by decide) (fun c27 => ?_) (fun c27 => ?_)
      · have h := pq_it c27 h
        refine pv_goto (tgt := 2770) C dL_law_1456 (by decide) ?_
        refine pv_sub [2, 3, 4, 5, 6] rfl ?_
        cases h
        exact pv_wide (k := cells + 8) (n := slots + 48) (by omega) (by omega) kk
      · have h := pq_if c27 h
        cases h
  · have h := pq_if c24 h
    cases h
def F_L_c22 (G : pq_G) (S : pq_N) (xs : Nat → Int32) (L : Nat) (a1 a2 a3 : Nat) (x4 : Int32) : Option pq_N := (if (x4 + (1 : Int32)) < 0 ∨ L ≤ (Int32.toNatClampNeg (x4 + (1 : Int32))) then none else (if (x4 + (2 : Int32)) < 0 ∨ L ≤ (Int32.toNatClampNeg (x4 + (2 : Int32))) then none else (pq_bd (F_L_passageLength G S a1 (xs (Int32.toNatClampNeg (x4 + (1 : Int32)))) (xs (Int32.toNatClampNeg (x4 + (2 : Int32)))) a3) fun v13 S14 => (if (x4 + (1 : Int32)) < 0 ∨ L ≤ (Int32.toNatClampNeg (x4 + (1 : Int32))) then none else (if (x4 + (2 : Int32)) < 0 ∨ L ≤ (Int32.toNatClampNeg (x4 + (2 : Int32))) then none else (pq_bd (F_X11_passageLength G S14 a2 (xs (Int32.toNatClampNeg (x4 + (1 : Int32)))) (xs (Int32.toNatClampNeg (x4 + (2 : Int32))))) fun v18 S19 => (pq_bd (F_X11_thrown G S19 a2) fun v21 S22 => (if v21 = v13 then (if v13 = (0 : Int32) then (if (0 : Int32) < 0 ∨ pq_n G a3 ≤ (Int32.toNatClampNeg (0 : Int32)) then none else (if (lg_cmp (S22.2 a3 (Int32.toNatClampNeg (0 : Int32))) (Int32.toInt64 v18)) = (0 : Int32) then some S22 else none)) else some S22) else none))))))))
set_option maxHeartbeats 4000000 in
set_option maxRecDepth 100000 in
theorem r_L_c22 {p : Program} {l : Launch} {e : Env} {s : State} {m : MethodId} {av : Array Value} {below : List Frame} {meth : Method} {c : Code} {Q : State → Prop} {D : va_G} {y : pq_Y} {G : pq_G} (hl : l.stackTraces = false) (W0 : pq_WT G) (C : pq_C p s m av c D y RL wsL_law cL_law 9) (hX : pq_X (pq_A G s.heap.size) s s.heap) {bb L : Nat} {xs : Nat → Int32} (hXs : va_X bb L xs s s.heap) (hbl : bb < s.heap.size) (hbA : ¬ pq_A G s.heap.size bb) {a1 a2 a3 : Nat} (k1_ : pq_ok G 10 a1) (k2_ : pq_ok G 11 a2) (k3_ : pq_ok G 13 a3) {x4 : Int32} {S S1 : pq_N} {cells slots : Nat} (hc : cells + 8 ≤ 601024) (hs : slots + 48 ≤ 7293034) (h : F_L_c22 G S xs L a1 a2 a3 x4 = some S1) (kk : pq_V p l e room_1 s m av below meth c (cells + 8) (slots + 48) Q D y 9 (pq_A G s.heap.size) (fun _ => True) G S1 2770 [(0, .ref bb), (1, .ref a1), (2, .ref a2), (3, .ref a3), (4, .int x4)] []) : pq_V p l e room_1 s m av below meth c cells slots Q D y 9 (pq_A G s.heap.size) (fun _ => True) G S 1459 [(0, .ref bb), (1, .ref a1), (2, .ref a2), (3, .ref a3), (4, .int x4)] [] := by
  unfold F_L_c22 at h
  refine pv_aload_n C 1 dL_law_1459 rfl rfl ?_
  refine pv_aload_n C 0 dL_law_1460 rfl rfl ?_
  refine pv_iload C 4 dL_law_1461 rfl ?_
  refine pv_iconst (v := 1) C dL_law_1463 (by decide) ?_
  refine pv_iadd C dL_law_1464 ?_
  obtain ⟨g11, h⟩ := pq_gd h
  refine pv_sld C hXs hbl hbA g11 dL_law_1465 ?_
  refine pv_aload_n C 0 dL_law_1466 rfl rfl ?_
  refine pv_iload C 4 dL_law_1467 rfl ?_
  refine pv_iconst (v := 2) C dL_law_1469 (by decide) ?_
  refine pv_iadd C dL_law_1470 ?_
  obtain ⟨g12, h⟩ := pq_gd h
  refine pv_sld C hXs hbl hbA g12 dL_law_1471 ?_
  refine pv_aload_n C 3 dL_law_1472 rfl rfl ?_
  obtain ⟨v13, S14, e15, h⟩ := pq_bs h
  refine pv_hcalli C (kc := 2) (ks := 12) hX [.ref a1, .int (xs (Int32.toNatClampNeg (x4 + (1 : Int32)))), .int (xs (Int32.toNatClampNeg (x4 + (2 : Int32)))), .ref a3] (fun sz => r_L_passageLength hl W0 k1_ k3_ e15 sz) (vx_cwSW 4 C.1.2.2.2.2 gL_law_L_passageLength rfl rfl rfl (by decide +kernel) ⟨Nat.le_of_ble_eq_true rfl, Nat.le_of_ble_eq_true rfl⟩) rfl rfl (Nat.le_of_ble_eq_true rfl) dL_law_1473 ⟨Nat.le_trans (m := 601024) (by omega) (Nat.le_of_ble_eq_true rfl), Nat.le_trans (m := 7293034) (by omega) (Nat.le_of_ble_eq_true rfl)⟩ ?_
  refine pv_istore C [(5, .int v13), (0, .ref bb), (1, .ref a1), (2, .ref a2), (3, .ref a3), (4, .int x4)] dL_law_1476 (by decide) rfl ?_
  refine pv_aload_n C 3 dL_law_1478 rfl rfl ?_
  refine pv_aload_n C 1 dL_law_1479 rfl rfl ?_
  refine pv_iload C 5 dL_law_1480 rfl ?_
  refine pv_iconst (v := 1) C dL_law_1482 (by decide) ?_
  refine pv_iadd C dL_law_1483 ?_
  obtain ⟨g16, h⟩ := pq_gd h
  refine pv_sld C hXs hbl hbA g16 dL_law_1484 ?_
  refine pv_aload_n C 1 dL_law_1485 rfl rfl ?_
  refine pv_iload C 5 dL_law_1486 rfl ?_
  refine pv_iconst (v := 2) C dL_law_1488 (by decide) ?_
  refine pv_iadd C dL_law_1489 ?_
  obtain ⟨g17, h⟩ := pq_gd h
  refine pv_sld C hXs hbl hbA g17 dL_law_1490 ?_
  obtain ⟨v18, S19, e20, h⟩ := pq_bs h
  refine pv_calliV C (ci := 11) rfl (by decide) k2_ [.int (xs (Int32.toNatClampNeg (x4 + (1 : Int32)))), .int (xs (Int32.toNatClampNeg (x4 + (2 : Int32))))] (fun sz => r_X11_passageLength W0 k2_ e20 sz) (cwV 2 C.1.2.2.2.2 gL_law_X11_passageLength rfl rfl rfl (by decide +kernel) ⟨Nat.le_of_ble_eq_true rfl, Nat.le_of_ble_eq_true rfl⟩) rfl rfl (Nat.le_of_ble_eq_true rfl) dL_law_1491 ⟨Nat.le_trans (m := 601024) (by omega) (Nat.le_of_ble_eq_true rfl), Nat.le_trans (m := 7293034) (by omega) (Nat.le_of_ble_eq_true rfl)⟩ ?_
  refine pv_istore C [(6, .int v18), (5, .int v13), (0, .ref bb), (1, .ref a1), (2, .ref a2), (3, .ref a3), (4, .int x4)] dL_law_1494 (by decide) rfl ?_
  refine pv_aload_n C 4 dL_law_1496 rfl rfl ?_
  obtain ⟨v21, S22, e23, h⟩ := pq_bs h
  refine pv_calliV C (ci := 11) rfl (by decide) k2_ [] (fun sz => r_X11_thrown W0 k2_ e23 sz) (cwV 0 C.1.2.2.2.2 gL_law_X11_thrown rfl rfl rfl (by decide +kernel) ⟨Nat.le_of_ble_eq_true rfl, Nat.le_of_ble_eq_true rfl⟩) rfl rfl (Nat.le_of_ble_eq_true rfl) dL_law_1497 ⟨Nat.le_trans (m := 601024) (by omega) (Nat.le_of_ble_eq_true rfl), Nat.le_trans (m := 7293034) (by omega) (Nat.le_of_ble_eq_true rfl)⟩ ?_
  refine pv_iload C 1 dL_law_1500 rfl ?_
  refine pv_icmp_eq (tgt := 1507) C dL_law_1502 (by decide) (fun c24 => ?_) (fun c24 => ?_)
  · have h := pq_it c24 h
    refine pv_iload C 1 dL_law_1507 rfl ?_
    refine pv_if_ne (tgt := 1524) C dL_law_1509 (by decide) (fun c25 => ?_) (fun c25 => ?_)
    · have h := pq_if c25 h
      refine pv_goto (tgt := 2770) C dL_law_1524 (by decide) ?_
      refine pv_sub [2, 3, 4, 5, 6] rfl ?_
      cases h
      exact pv_wide (k := cells + 8) (n := slots + 48) (by omega) (by omega) kk
    · have h := pq_it c25 h
      refine pv_aload_n C 5 dL_law_1512 rfl rfl ?_
      refine pv_iconst (v := 0) C dL_law_1513 (by decide) ?_
      obtain ⟨g26, h⟩ := pq_gd h
      refine pv_laload C k3_ g26 dL_law_1514 ?_
      refine pv_iload C 0 dL_law_1515 rfl ?_
      refine pv_i2l C dL_law_1517 ?_
      refine pv_lcmp C dL_law_1518 ?_
      refine pv_if_eq (tgt := 1524) C dL_law_1519 (by decide) (fun c27 => ?_) (fun c27 => ?_)
      · have h := pq_it c27 h
        refine pv_goto (tgt := 2770) C dL_law_1524 (by decide) ?_
        refine pv_sub [2, 3, 4, 5, 6] rfl ?_
        cases h
        exact pv_wide (k := cells + 8) (n := slots + 48) (by omega) (by omega) kk
      · have h := pq_if c27 h
        cases h
  · have h := pq_if c24 h
    cases h
def F_L_c23 (G : pq_G) (S : pq_N) (xs : Nat → Int32) (L : Nat) (a1 a2 a3 : Nat) (x4 : Int32) : Option pq_N := (if (x4 + (1 : Int32)) < 0 ∨ L ≤ (Int32.toNatClampNeg (x4 + (1 : Int32))) then none else (if (x4 + (2 : Int32)) < 0 ∨ L ≤ (Int32.toNatClampNeg (x4 + (2 : Int32))) then none else (pq_bd (F_L_pageOf G S a1 (xs (Int32.toNatClampNeg (x4 + (1 : Int32)))) (xs (Int32.toNatClampNeg (x4 + (2 : Int32)))) a3) fun v13 S14 => (if (x4 + (1 : Int32)) < 0 ∨ L ≤ (Int32.toNatClampNeg (x4 + (1 : Int32))) then none else (if (x4 + (2 : Int32)) < 0 ∨ L ≤ (Int32.toNatClampNeg (x4 + (2 : Int32))) then none else (pq_bd (F_X11_pageOf G S14 a2 (xs (Int32.toNatClampNeg (x4 + (1 : Int32)))) (xs (Int32.toNatClampNeg (x4 + (2 : Int32))))) fun v18 S19 => (pq_bd (F_X11_thrown G S19 a2) fun v21 S22 => (if v21 = v13 then (if v13 = (0 : Int32) then (if (0 : Int32) < 0 ∨ pq_n G a3 ≤ (Int32.toNatClampNeg (0 : Int32)) then none else (if (lg_cmp (S22.2 a3 (Int32.toNatClampNeg (0 : Int32))) (Int32.toInt64 v18)) = (0 : Int32) then some S22 else none)) else some S22) else none))))))))
set_option maxHeartbeats 4000000 in
set_option maxRecDepth 100000 in
theorem r_L_c23 {p : Program} {l : Launch} {e : Env} {s : State} {m : MethodId} {av : Array Value} {below : List Frame} {meth : Method} {c : Code} {Q : State → Prop} {D : va_G} {y : pq_Y} {G : pq_G} (hl : l.stackTraces = false) (W0 : pq_WT G) (C : pq_C p s m av c D y RL wsL_law cL_law 9) (hX : pq_X (pq_A G s.heap.size) s s.heap) {bb L : Nat} {xs : Nat → Int32} (hXs : va_X bb L xs s s.heap) (hbl : bb < s.heap.size) (hbA : ¬ pq_A G s.heap.size bb) {a1 a2 a3 : Nat} (k1_ : pq_ok G 10 a1) (k2_ : pq_ok G 11 a2) (k3_ : pq_ok G 13 a3) {x4 : Int32} {S S1 : pq_N} {cells slots : Nat} (hc : cells + 8 ≤ 601024) (hs : slots + 48 ≤ 7293034) (h : F_L_c23 G S xs L a1 a2 a3 x4 = some S1) (kk : pq_V p l e room_1 s m av below meth c (cells + 8) (slots + 48) Q D y 9 (pq_A G s.heap.size) (fun _ => True) G S1 2770 [(0, .ref bb), (1, .ref a1), (2, .ref a2), (3, .ref a3), (4, .int x4)] []) : pq_V p l e room_1 s m av below meth c cells slots Q D y 9 (pq_A G s.heap.size) (fun _ => True) G S 1527 [(0, .ref bb), (1, .ref a1), (2, .ref a2), (3, .ref a3), (4, .int x4)] [] := by
  unfold F_L_c23 at h
  refine pv_aload_n C 1 dL_law_1527 rfl rfl ?_
  refine pv_aload_n C 0 dL_law_1528 rfl rfl ?_
  refine pv_iload C 4 dL_law_1529 rfl ?_
  refine pv_iconst (v := 1) C dL_law_1531 (by decide) ?_
  refine pv_iadd C dL_law_1532 ?_
  obtain ⟨g11, h⟩ := pq_gd h
  refine pv_sld C hXs hbl hbA g11 dL_law_1533 ?_
  refine pv_aload_n C 0 dL_law_1534 rfl rfl ?_
  refine pv_iload C 4 dL_law_1535 rfl ?_
  refine pv_iconst (v := 2) C dL_law_1537 (by decide) ?_
  refine pv_iadd C dL_law_1538 ?_
  obtain ⟨g12, h⟩ := pq_gd h
  refine pv_sld C hXs hbl hbA g12 dL_law_1539 ?_
  refine pv_aload_n C 3 dL_law_1540 rfl rfl ?_
  obtain ⟨v13, S14, e15, h⟩ := pq_bs h
  refine pv_hcalli C (kc := 2) (ks := 12) hX [.ref a1, .int (xs (Int32.toNatClampNeg (x4 + (1 : Int32)))), .int (xs (Int32.toNatClampNeg (x4 + (2 : Int32)))), .ref a3] (fun sz => r_L_pageOf hl W0 k1_ k3_ e15 sz) (vx_cwSW 4 C.1.2.2.2.2 gL_law_L_pageOf rfl rfl rfl (by decide +kernel) ⟨Nat.le_of_ble_eq_true rfl, Nat.le_of_ble_eq_true rfl⟩) rfl rfl (Nat.le_of_ble_eq_true rfl) dL_law_1541 ⟨Nat.le_trans (m := 601024) (by omega) (Nat.le_of_ble_eq_true rfl), Nat.le_trans (m := 7293034) (by omega) (Nat.le_of_ble_eq_true rfl)⟩ ?_
  refine pv_istore C [(5, .int v13), (0, .ref bb), (1, .ref a1), (2, .ref a2), (3, .ref a3), (4, .int x4)] dL_law_1544 (by decide) rfl ?_
  refine pv_aload_n C 3 dL_law_1546 rfl rfl ?_
  refine pv_aload_n C 1 dL_law_1547 rfl rfl ?_
  refine pv_iload C 5 dL_law_1548 rfl ?_
  refine pv_iconst (v := 1) C dL_law_1550 (by decide) ?_
  refine pv_iadd C dL_law_1551 ?_
  obtain ⟨g16, h⟩ := pq_gd h
  refine pv_sld C hXs hbl hbA g16 dL_law_1552 ?_
  refine pv_aload_n C 1 dL_law_1553 rfl rfl ?_
  refine pv_iload C 5 dL_law_1554 rfl ?_
  refine pv_iconst (v := 2) C dL_law_1556 (by decide) ?_
  refine pv_iadd C dL_law_1557 ?_
  obtain ⟨g17, h⟩ := pq_gd h
  refine pv_sld C hXs hbl hbA g17 dL_law_1558 ?_
  obtain ⟨v18, S19, e20, h⟩ := pq_bs h
  refine pv_calliV C (ci := 11) rfl (by decide) k2_ [.int (xs (Int32.toNatClampNeg (x4 + (1 : Int32)))), .int (xs (Int32.toNatClampNeg (x4 + (2 : Int32))))] (fun sz => r_X11_pageOf W0 k2_ e20 sz) (cwV 2 C.1.2.2.2.2 gL_law_X11_pageOf rfl rfl rfl (by decide +kernel) ⟨Nat.le_of_ble_eq_true rfl, Nat.le_of_ble_eq_true rfl⟩) rfl rfl (Nat.le_of_ble_eq_true rfl) dL_law_1559 ⟨Nat.le_trans (m := 601024) (by omega) (Nat.le_of_ble_eq_true rfl), Nat.le_trans (m := 7293034) (by omega) (Nat.le_of_ble_eq_true rfl)⟩ ?_
  refine pv_istore C [(6, .int v18), (5, .int v13), (0, .ref bb), (1, .ref a1), (2, .ref a2), (3, .ref a3), (4, .int x4)] dL_law_1562 (by decide) rfl ?_
  refine pv_aload_n C 4 dL_law_1564 rfl rfl ?_
  obtain ⟨v21, S22, e23, h⟩ := pq_bs h
  refine pv_calliV C (ci := 11) rfl (by decide) k2_ [] (fun sz => r_X11_thrown W0 k2_ e23 sz) (cwV 0 C.1.2.2.2.2 gL_law_X11_thrown rfl rfl rfl (by decide +kernel) ⟨Nat.le_of_ble_eq_true rfl, Nat.le_of_ble_eq_true rfl⟩) rfl rfl (Nat.le_of_ble_eq_true rfl) dL_law_1565 ⟨Nat.le_trans (m := 601024) (by omega) (Nat.le_of_ble_eq_true rfl), Nat.le_trans (m := 7293034) (by omega) (Nat.le_of_ble_eq_true rfl)⟩ ?_
  refine pv_iload C 1 dL_law_1568 rfl ?_
  refine pv_icmp_eq (tgt := 1575) C dL_law_1570 (by decide) (fun c24 => ?_) (fun c24 => ?_)
  · have h := pq_it c24 h
    refine pv_iload C 1 dL_law_1575 rfl ?_
    refine pv_if_ne (tgt := 1592) C dL_law_1577 (by decide) (fun c25 => ?_) (fun c25 => ?_)
    · have h := pq_if c25 h
      refine pv_goto (tgt := 2770) C dL_law_1592 (by decide) ?_
      refine pv_sub [2, 3, 4, 5, 6] rfl ?_
      cases h
      exact pv_wide (k := cells + 8) (n := slots + 48) (by omega) (by omega) kk
    · have h := pq_it c25 h
      refine pv_aload_n C 5 dL_law_1580 rfl rfl ?_
      refine pv_iconst (v := 0) C dL_law_1581 (by decide) ?_
      obtain ⟨g26, h⟩ := pq_gd h
      refine pv_laload C k3_ g26 dL_law_1582 ?_
      refine pv_iload C 0 dL_law_1583 rfl ?_
      refine pv_i2l C dL_law_1585 ?_
      refine pv_lcmp C dL_law_1586 ?_
      refine pv_if_eq (tgt := 1592) C dL_law_1587 (by decide) (fun c27 => ?_) (fun c27 => ?_)
      · have h := pq_it c27 h
        refine pv_goto (tgt := 2770) C dL_law_1592 (by decide) ?_
        refine pv_sub [2, 3, 4, 5, 6] rfl ?_
        cases h
        exact pv_wide (k := cells + 8) (n := slots + 48) (by omega) (by omega) kk
      · have h := pq_if c27 h
        cases h
  · have h := pq_if c24 h
    cases h
def F_L_c24 (G : pq_G) (S : pq_N) (xs : Nat → Int32) (L : Nat) (a1 a2 a3 : Nat) (x4 : Int32) : Option pq_N := (if (x4 + (1 : Int32)) < 0 ∨ L ≤ (Int32.toNatClampNeg (x4 + (1 : Int32))) then none else (if (x4 + (2 : Int32)) < 0 ∨ L ≤ (Int32.toNatClampNeg (x4 + (2 : Int32))) then none else (pq_bd (F_L_comesFrom G S a1 (xs (Int32.toNatClampNeg (x4 + (1 : Int32)))) (xs (Int32.toNatClampNeg (x4 + (2 : Int32)))) a3) fun v13 S14 => (if (x4 + (1 : Int32)) < 0 ∨ L ≤ (Int32.toNatClampNeg (x4 + (1 : Int32))) then none else (if (x4 + (2 : Int32)) < 0 ∨ L ≤ (Int32.toNatClampNeg (x4 + (2 : Int32))) then none else (pq_bd (F_X11_comesFrom G S14 a2 (xs (Int32.toNatClampNeg (x4 + (1 : Int32)))) (xs (Int32.toNatClampNeg (x4 + (2 : Int32))))) fun v18 S19 => (pq_bd (F_X11_thrown G S19 a2) fun v21 S22 => (if v21 = v13 then (if v13 = (0 : Int32) then (if (0 : Int32) < 0 ∨ pq_n G a3 ≤ (Int32.toNatClampNeg (0 : Int32)) then none else (if (lg_cmp (S22.2 a3 (Int32.toNatClampNeg (0 : Int32))) (Int32.toInt64 v18)) = (0 : Int32) then some S22 else none)) else some S22) else none))))))))
set_option maxHeartbeats 4000000 in
set_option maxRecDepth 100000 in
theorem r_L_c24 {p : Program} {l : Launch} {e : Env} {s : State} {m : MethodId} {av : Array Value} {below : List Frame} {meth : Method} {c : Code} {Q : State → Prop} {D : va_G} {y : pq_Y} {G : pq_G} (hl : l.stackTraces = false) (W0 : pq_WT G) (C : pq_C p s m av c D y RL wsL_law cL_law 9) (hX : pq_X (pq_A G s.heap.size) s s.heap) {bb L : Nat} {xs : Nat → Int32} (hXs : va_X bb L xs s s.heap) (hbl : bb < s.heap.size) (hbA : ¬ pq_A G s.heap.size bb) {a1 a2 a3 : Nat} (k1_ : pq_ok G 10 a1) (k2_ : pq_ok G 11 a2) (k3_ : pq_ok G 13 a3) {x4 : Int32} {S S1 : pq_N} {cells slots : Nat} (hc : cells + 8 ≤ 601024) (hs : slots + 48 ≤ 7293034) (h : F_L_c24 G S xs L a1 a2 a3 x4 = some S1) (kk : pq_V p l e room_1 s m av below meth c (cells + 8) (slots + 48) Q D y 9 (pq_A G s.heap.size) (fun _ => True) G S1 2770 [(0, .ref bb), (1, .ref a1), (2, .ref a2), (3, .ref a3), (4, .int x4)] []) : pq_V p l e room_1 s m av below meth c cells slots Q D y 9 (pq_A G s.heap.size) (fun _ => True) G S 1595 [(0, .ref bb), (1, .ref a1), (2, .ref a2), (3, .ref a3), (4, .int x4)] [] := by
  unfold F_L_c24 at h
  refine pv_aload_n C 1 dL_law_1595 rfl rfl ?_
  refine pv_aload_n C 0 dL_law_1596 rfl rfl ?_
  refine pv_iload C 4 dL_law_1597 rfl ?_
  refine pv_iconst (v := 1) C dL_law_1599 (by decide) ?_
  refine pv_iadd C dL_law_1600 ?_
  obtain ⟨g11, h⟩ := pq_gd h
  refine pv_sld C hXs hbl hbA g11 dL_law_1601 ?_
  refine pv_aload_n C 0 dL_law_1602 rfl rfl ?_
  refine pv_iload C 4 dL_law_1603 rfl ?_
  refine pv_iconst (v := 2) C dL_law_1605 (by decide) ?_
  refine pv_iadd C dL_law_1606 ?_
  obtain ⟨g12, h⟩ := pq_gd h
  refine pv_sld C hXs hbl hbA g12 dL_law_1607 ?_
  refine pv_aload_n C 3 dL_law_1608 rfl rfl ?_
  obtain ⟨v13, S14, e15, h⟩ := pq_bs h
  refine pv_hcalli C (kc := 2) (ks := 12) hX [.ref a1, .int (xs (Int32.toNatClampNeg (x4 + (1 : Int32)))), .int (xs (Int32.toNatClampNeg (x4 + (2 : Int32)))), .ref a3] (fun sz => r_L_comesFrom hl W0 k1_ k3_ e15 sz) (vx_cwSW 4 C.1.2.2.2.2 gL_law_L_comesFrom rfl rfl rfl (by decide +kernel) ⟨Nat.le_of_ble_eq_true rfl, Nat.le_of_ble_eq_true rfl⟩) rfl rfl (Nat.le_of_ble_eq_true rfl) dL_law_1609 ⟨Nat.le_trans (m := 601024) (by omega) (Nat.le_of_ble_eq_true rfl), Nat.le_trans (m := 7293034) (by omega) (Nat.le_of_ble_eq_true rfl)⟩ ?_
  refine pv_istore C [(5, .int v13), (0, .ref bb), (1, .ref a1), (2, .ref a2), (3, .ref a3), (4, .int x4)] dL_law_1612 (by decide) rfl ?_
  refine pv_aload_n C 3 dL_law_1614 rfl rfl ?_
  refine pv_aload_n C 1 dL_law_1615 rfl rfl ?_
  refine pv_iload C 5 dL_law_1616 rfl ?_
  refine pv_iconst (v := 1) C dL_law_1618 (by decide) ?_
  refine pv_iadd C dL_law_1619 ?_
  obtain ⟨g16, h⟩ := pq_gd h
  refine pv_sld C hXs hbl hbA g16 dL_law_1620 ?_
  refine pv_aload_n C 1 dL_law_1621 rfl rfl ?_
  refine pv_iload C 5 dL_law_1622 rfl ?_
  refine pv_iconst (v := 2) C dL_law_1624 (by decide) ?_
  refine pv_iadd C dL_law_1625 ?_
  obtain ⟨g17, h⟩ := pq_gd h
  refine pv_sld C hXs hbl hbA g17 dL_law_1626 ?_
  obtain ⟨v18, S19, e20, h⟩ := pq_bs h
  refine pv_calliV C (ci := 11) rfl (by decide) k2_ [.int (xs (Int32.toNatClampNeg (x4 + (1 : Int32)))), .int (xs (Int32.toNatClampNeg (x4 + (2 : Int32))))] (fun sz => r_X11_comesFrom W0 k2_ e20 sz) (cwV 2 C.1.2.2.2.2 gL_law_X11_comesFrom rfl rfl rfl (by decide +kernel) ⟨Nat.le_of_ble_eq_true rfl, Nat.le_of_ble_eq_true rfl⟩) rfl rfl (Nat.le_of_ble_eq_true rfl) dL_law_1627 ⟨Nat.le_trans (m := 601024) (by omega) (Nat.le_of_ble_eq_true rfl), Nat.le_trans (m := 7293034) (by omega) (Nat.le_of_ble_eq_true rfl)⟩ ?_
  refine pv_istore C [(6, .int v18), (5, .int v13), (0, .ref bb), (1, .ref a1), (2, .ref a2), (3, .ref a3), (4, .int x4)] dL_law_1630 (by decide) rfl ?_
  refine pv_aload_n C 4 dL_law_1632 rfl rfl ?_
  obtain ⟨v21, S22, e23, h⟩ := pq_bs h
  refine pv_calliV C (ci := 11) rfl (by decide) k2_ [] (fun sz => r_X11_thrown W0 k2_ e23 sz) (cwV 0 C.1.2.2.2.2 gL_law_X11_thrown rfl rfl rfl (by decide +kernel) ⟨Nat.le_of_ble_eq_true rfl, Nat.le_of_ble_eq_true rfl⟩) rfl rfl (Nat.le_of_ble_eq_true rfl) dL_law_1633 ⟨Nat.le_trans (m := 601024) (by omega) (Nat.le_of_ble_eq_true rfl), Nat.le_trans (m := 7293034) (by omega) (Nat.le_of_ble_eq_true rfl)⟩ ?_
  refine pv_iload C 1 dL_law_1636 rfl ?_
  refine pv_icmp_eq (tgt := 1643) C dL_law_1638 (by decide) (fun c24 => ?_) (fun c24 => ?_)
  · have h := pq_it c24 h
    refine pv_iload C 1 dL_law_1643 rfl ?_
    refine pv_if_ne (tgt := 1660) C dL_law_1645 (by decide) (fun c25 => ?_) (fun c25 => ?_)
    · have h := pq_if c25 h
      refine pv_goto (tgt := 2770) C dL_law_1660 (by decide) ?_
      refine pv_sub [2, 3, 4, 5, 6] rfl ?_
      cases h
      exact pv_wide (k := cells + 8) (n := slots + 48) (by omega) (by omega) kk
    · have h := pq_it c25 h
      refine pv_aload_n C 5 dL_law_1648 rfl rfl ?_
      refine pv_iconst (v := 0) C dL_law_1649 (by decide) ?_
      obtain ⟨g26, h⟩ := pq_gd h
      refine pv_laload C k3_ g26 dL_law_1650 ?_
      refine pv_iload C 0 dL_law_1651 rfl ?_
      refine pv_i2l C dL_law_1653 ?_
      refine pv_lcmp C dL_law_1654 ?_
      refine pv_if_eq (tgt := 1660) C dL_law_1655 (by decide) (fun c27 => ?_) (fun c27 => ?_)
      · have h := pq_it c27 h
        refine pv_goto (tgt := 2770) C dL_law_1660 (by decide) ?_
        refine pv_sub [2, 3, 4, 5, 6] rfl ?_
        cases h
        exact pv_wide (k := cells + 8) (n := slots + 48) (by omega) (by omega) kk
      · have h := pq_if c27 h
        cases h
  · have h := pq_if c24 h
    cases h
def F_L_c25 (G : pq_G) (S : pq_N) (xs : Nat → Int32) (L : Nat) (a1 a2 a3 : Nat) (x4 : Int32) : Option pq_N := (if (x4 + (1 : Int32)) < 0 ∨ L ≤ (Int32.toNatClampNeg (x4 + (1 : Int32))) then none else (if (x4 + (2 : Int32)) < 0 ∨ L ≤ (Int32.toNatClampNeg (x4 + (2 : Int32))) then none else (pq_bd (F_L_originOf G S a1 (xs (Int32.toNatClampNeg (x4 + (1 : Int32)))) (xs (Int32.toNatClampNeg (x4 + (2 : Int32)))) a3) fun v13 S14 => (if (x4 + (1 : Int32)) < 0 ∨ L ≤ (Int32.toNatClampNeg (x4 + (1 : Int32))) then none else (if (x4 + (2 : Int32)) < 0 ∨ L ≤ (Int32.toNatClampNeg (x4 + (2 : Int32))) then none else (pq_bd (F_X11_originOf G S14 a2 (xs (Int32.toNatClampNeg (x4 + (1 : Int32)))) (xs (Int32.toNatClampNeg (x4 + (2 : Int32))))) fun v18 S19 => (pq_bd (F_X11_thrown G S19 a2) fun v21 S22 => (if v21 = v13 then (if v13 = (0 : Int32) then (if (0 : Int32) < 0 ∨ pq_n G a3 ≤ (Int32.toNatClampNeg (0 : Int32)) then none else (if (lg_cmp (S22.2 a3 (Int32.toNatClampNeg (0 : Int32))) (Int32.toInt64 v18)) = (0 : Int32) then some S22 else none)) else some S22) else none))))))))
set_option maxHeartbeats 4000000 in
set_option maxRecDepth 100000 in
theorem r_L_c25 {p : Program} {l : Launch} {e : Env} {s : State} {m : MethodId} {av : Array Value} {below : List Frame} {meth : Method} {c : Code} {Q : State → Prop} {D : va_G} {y : pq_Y} {G : pq_G} (hl : l.stackTraces = false) (W0 : pq_WT G) (C : pq_C p s m av c D y RL wsL_law cL_law 9) (hX : pq_X (pq_A G s.heap.size) s s.heap) {bb L : Nat} {xs : Nat → Int32} (hXs : va_X bb L xs s s.heap) (hbl : bb < s.heap.size) (hbA : ¬ pq_A G s.heap.size bb) {a1 a2 a3 : Nat} (k1_ : pq_ok G 10 a1) (k2_ : pq_ok G 11 a2) (k3_ : pq_ok G 13 a3) {x4 : Int32} {S S1 : pq_N} {cells slots : Nat} (hc : cells + 8 ≤ 601024) (hs : slots + 48 ≤ 7293034) (h : F_L_c25 G S xs L a1 a2 a3 x4 = some S1) (kk : pq_V p l e room_1 s m av below meth c (cells + 8) (slots + 48) Q D y 9 (pq_A G s.heap.size) (fun _ => True) G S1 2770 [(0, .ref bb), (1, .ref a1), (2, .ref a2), (3, .ref a3), (4, .int x4)] []) : pq_V p l e room_1 s m av below meth c cells slots Q D y 9 (pq_A G s.heap.size) (fun _ => True) G S 1663 [(0, .ref bb), (1, .ref a1), (2, .ref a2), (3, .ref a3), (4, .int x4)] [] := by
  unfold F_L_c25 at h
  refine pv_aload_n C 1 dL_law_1663 rfl rfl ?_
  refine pv_aload_n C 0 dL_law_1664 rfl rfl ?_
  refine pv_iload C 4 dL_law_1665 rfl ?_
  refine pv_iconst (v := 1) C dL_law_1667 (by decide) ?_
  refine pv_iadd C dL_law_1668 ?_
  obtain ⟨g11, h⟩ := pq_gd h
  refine pv_sld C hXs hbl hbA g11 dL_law_1669 ?_
  refine pv_aload_n C 0 dL_law_1670 rfl rfl ?_
  refine pv_iload C 4 dL_law_1671 rfl ?_
  refine pv_iconst (v := 2) C dL_law_1673 (by decide) ?_
  refine pv_iadd C dL_law_1674 ?_
  obtain ⟨g12, h⟩ := pq_gd h
  refine pv_sld C hXs hbl hbA g12 dL_law_1675 ?_
  refine pv_aload_n C 3 dL_law_1676 rfl rfl ?_
  obtain ⟨v13, S14, e15, h⟩ := pq_bs h
  refine pv_hcalli C (kc := 2) (ks := 12) hX [.ref a1, .int (xs (Int32.toNatClampNeg (x4 + (1 : Int32)))), .int (xs (Int32.toNatClampNeg (x4 + (2 : Int32)))), .ref a3] (fun sz => r_L_originOf hl W0 k1_ k3_ e15 sz) (vx_cwSW 4 C.1.2.2.2.2 gL_law_L_originOf rfl rfl rfl (by decide +kernel) ⟨Nat.le_of_ble_eq_true rfl, Nat.le_of_ble_eq_true rfl⟩) rfl rfl (Nat.le_of_ble_eq_true rfl) dL_law_1677 ⟨Nat.le_trans (m := 601024) (by omega) (Nat.le_of_ble_eq_true rfl), Nat.le_trans (m := 7293034) (by omega) (Nat.le_of_ble_eq_true rfl)⟩ ?_
  refine pv_istore C [(5, .int v13), (0, .ref bb), (1, .ref a1), (2, .ref a2), (3, .ref a3), (4, .int x4)] dL_law_1680 (by decide) rfl ?_
  refine pv_aload_n C 3 dL_law_1682 rfl rfl ?_
  refine pv_aload_n C 1 dL_law_1683 rfl rfl ?_
  refine pv_iload C 5 dL_law_1684 rfl ?_
  refine pv_iconst (v := 1) C dL_law_1686 (by decide) ?_
  refine pv_iadd C dL_law_1687 ?_
  obtain ⟨g16, h⟩ := pq_gd h
  refine pv_sld C hXs hbl hbA g16 dL_law_1688 ?_
  refine pv_aload_n C 1 dL_law_1689 rfl rfl ?_
  refine pv_iload C 5 dL_law_1690 rfl ?_
  refine pv_iconst (v := 2) C dL_law_1692 (by decide) ?_
  refine pv_iadd C dL_law_1693 ?_
  obtain ⟨g17, h⟩ := pq_gd h
  refine pv_sld C hXs hbl hbA g17 dL_law_1694 ?_
  obtain ⟨v18, S19, e20, h⟩ := pq_bs h
  refine pv_calliV C (ci := 11) rfl (by decide) k2_ [.int (xs (Int32.toNatClampNeg (x4 + (1 : Int32)))), .int (xs (Int32.toNatClampNeg (x4 + (2 : Int32))))] (fun sz => r_X11_originOf W0 k2_ e20 sz) (cwV 2 C.1.2.2.2.2 gL_law_X11_originOf rfl rfl rfl (by decide +kernel) ⟨Nat.le_of_ble_eq_true rfl, Nat.le_of_ble_eq_true rfl⟩) rfl rfl (Nat.le_of_ble_eq_true rfl) dL_law_1695 ⟨Nat.le_trans (m := 601024) (by omega) (Nat.le_of_ble_eq_true rfl), Nat.le_trans (m := 7293034) (by omega) (Nat.le_of_ble_eq_true rfl)⟩ ?_
  refine pv_istore C [(6, .int v18), (5, .int v13), (0, .ref bb), (1, .ref a1), (2, .ref a2), (3, .ref a3), (4, .int x4)] dL_law_1698 (by decide) rfl ?_
  refine pv_aload_n C 4 dL_law_1700 rfl rfl ?_
  obtain ⟨v21, S22, e23, h⟩ := pq_bs h
  refine pv_calliV C (ci := 11) rfl (by decide) k2_ [] (fun sz => r_X11_thrown W0 k2_ e23 sz) (cwV 0 C.1.2.2.2.2 gL_law_X11_thrown rfl rfl rfl (by decide +kernel) ⟨Nat.le_of_ble_eq_true rfl, Nat.le_of_ble_eq_true rfl⟩) rfl rfl (Nat.le_of_ble_eq_true rfl) dL_law_1701 ⟨Nat.le_trans (m := 601024) (by omega) (Nat.le_of_ble_eq_true rfl), Nat.le_trans (m := 7293034) (by omega) (Nat.le_of_ble_eq_true rfl)⟩ ?_
  refine pv_iload C 1 dL_law_1704 rfl ?_
  refine pv_icmp_eq (tgt := 1711) C dL_law_1706 (by decide) (fun c24 => ?_) (fun c24 => ?_)
  · have h := pq_it c24 h
    refine pv_iload C 1 dL_law_1711 rfl ?_
    refine pv_if_ne (tgt := 1728) C dL_law_1713 (by decide) (fun c25 => ?_) (fun c25 => ?_)
    · have h := pq_if c25 h
      refine pv_goto (tgt := 2770) C dL_law_1728 (by decide) ?_
      refine pv_sub [2, 3, 4, 5, 6] rfl ?_
      cases h
      exact pv_wide (k := cells + 8) (n := slots + 48) (by omega) (by omega) kk
    · have h := pq_it c25 h
      refine pv_aload_n C 5 dL_law_1716 rfl rfl ?_
      refine pv_iconst (v := 0) C dL_law_1717 (by decide) ?_
      obtain ⟨g26, h⟩ := pq_gd h
      refine pv_laload C k3_ g26 dL_law_1718 ?_
      refine pv_iload C 0 dL_law_1719 rfl ?_
      refine pv_i2l C dL_law_1721 ?_
      refine pv_lcmp C dL_law_1722 ?_
      refine pv_if_eq (tgt := 1728) C dL_law_1723 (by decide) (fun c27 => ?_) (fun c27 => ?_)
      · have h := pq_it c27 h
        refine pv_goto (tgt := 2770) C dL_law_1728 (by decide) ?_
        refine pv_sub [2, 3, 4, 5, 6] rfl ?_
        cases h
        exact pv_wide (k := cells + 8) (n := slots + 48) (by omega) (by omega) kk
      · have h := pq_if c27 h
        cases h
  · have h := pq_if c24 h
    cases h
def F_L_c26 (G : pq_G) (S : pq_N) (xs : Nat → Int32) (L : Nat) (a1 a2 a3 : Nat) (x4 : Int32) : Option pq_N := (if (x4 + (1 : Int32)) < 0 ∨ L ≤ (Int32.toNatClampNeg (x4 + (1 : Int32))) then none else (if (x4 + (2 : Int32)) < 0 ∨ L ≤ (Int32.toNatClampNeg (x4 + (2 : Int32))) then none else (pq_bd (F_L_traceOf G S a1 (xs (Int32.toNatClampNeg (x4 + (1 : Int32)))) (xs (Int32.toNatClampNeg (x4 + (2 : Int32)))) a3) fun v13 S14 => (if (x4 + (1 : Int32)) < 0 ∨ L ≤ (Int32.toNatClampNeg (x4 + (1 : Int32))) then none else (if (x4 + (2 : Int32)) < 0 ∨ L ≤ (Int32.toNatClampNeg (x4 + (2 : Int32))) then none else (pq_bd (F_X11_traceOf G S14 a2 (xs (Int32.toNatClampNeg (x4 + (1 : Int32)))) (xs (Int32.toNatClampNeg (x4 + (2 : Int32))))) fun v18 S19 => (pq_bd (F_X11_thrown G S19 a2) fun v21 S22 => (if v21 = v13 then (if v13 = (0 : Int32) then (if (0 : Int32) < 0 ∨ pq_n G a3 ≤ (Int32.toNatClampNeg (0 : Int32)) then none else (if (lg_cmp (S22.2 a3 (Int32.toNatClampNeg (0 : Int32))) (Int32.toInt64 v18)) = (0 : Int32) then some S22 else none)) else some S22) else none))))))))
set_option maxHeartbeats 4000000 in
set_option maxRecDepth 100000 in
theorem r_L_c26 {p : Program} {l : Launch} {e : Env} {s : State} {m : MethodId} {av : Array Value} {below : List Frame} {meth : Method} {c : Code} {Q : State → Prop} {D : va_G} {y : pq_Y} {G : pq_G} (hl : l.stackTraces = false) (W0 : pq_WT G) (C : pq_C p s m av c D y RL wsL_law cL_law 9) (hX : pq_X (pq_A G s.heap.size) s s.heap) {bb L : Nat} {xs : Nat → Int32} (hXs : va_X bb L xs s s.heap) (hbl : bb < s.heap.size) (hbA : ¬ pq_A G s.heap.size bb) {a1 a2 a3 : Nat} (k1_ : pq_ok G 10 a1) (k2_ : pq_ok G 11 a2) (k3_ : pq_ok G 13 a3) {x4 : Int32} {S S1 : pq_N} {cells slots : Nat} (hc : cells + 8 ≤ 601024) (hs : slots + 48 ≤ 7293034) (h : F_L_c26 G S xs L a1 a2 a3 x4 = some S1) (kk : pq_V p l e room_1 s m av below meth c (cells + 8) (slots + 48) Q D y 9 (pq_A G s.heap.size) (fun _ => True) G S1 2770 [(0, .ref bb), (1, .ref a1), (2, .ref a2), (3, .ref a3), (4, .int x4)] []) : pq_V p l e room_1 s m av below meth c cells slots Q D y 9 (pq_A G s.heap.size) (fun _ => True) G S 1731 [(0, .ref bb), (1, .ref a1), (2, .ref a2), (3, .ref a3), (4, .int x4)] [] := by
  unfold F_L_c26 at h
  refine pv_aload_n C 1 dL_law_1731 rfl rfl ?_
  refine pv_aload_n C 0 dL_law_1732 rfl rfl ?_
  refine pv_iload C 4 dL_law_1733 rfl ?_
  refine pv_iconst (v := 1) C dL_law_1735 (by decide) ?_
  refine pv_iadd C dL_law_1736 ?_
  obtain ⟨g11, h⟩ := pq_gd h
  refine pv_sld C hXs hbl hbA g11 dL_law_1737 ?_
  refine pv_aload_n C 0 dL_law_1738 rfl rfl ?_
  refine pv_iload C 4 dL_law_1739 rfl ?_
  refine pv_iconst (v := 2) C dL_law_1741 (by decide) ?_
  refine pv_iadd C dL_law_1742 ?_
  obtain ⟨g12, h⟩ := pq_gd h
  refine pv_sld C hXs hbl hbA g12 dL_law_1743 ?_
  refine pv_aload_n C 3 dL_law_1744 rfl rfl ?_
  obtain ⟨v13, S14, e15, h⟩ := pq_bs h
  refine pv_hcalli C (kc := 2) (ks := 12) hX [.ref a1, .int (xs (Int32.toNatClampNeg (x4 + (1 : Int32)))), .int (xs (Int32.toNatClampNeg (x4 + (2 : Int32)))), .ref a3] (fun sz => r_L_traceOf hl W0 k1_ k3_ e15 sz) (vx_cwSW 4 C.1.2.2.2.2 gL_law_L_traceOf rfl rfl rfl (by decide +kernel) ⟨Nat.le_of_ble_eq_true rfl, Nat.le_of_ble_eq_true rfl⟩) rfl rfl (Nat.le_of_ble_eq_true rfl) dL_law_1745 ⟨Nat.le_trans (m := 601024) (by omega) (Nat.le_of_ble_eq_true rfl), Nat.le_trans (m := 7293034) (by omega) (Nat.le_of_ble_eq_true rfl)⟩ ?_
  refine pv_istore C [(5, .int v13), (0, .ref bb), (1, .ref a1), (2, .ref a2), (3, .ref a3), (4, .int x4)] dL_law_1748 (by decide) rfl ?_
  refine pv_aload_n C 3 dL_law_1750 rfl rfl ?_
  refine pv_aload_n C 1 dL_law_1751 rfl rfl ?_
  refine pv_iload C 5 dL_law_1752 rfl ?_
  refine pv_iconst (v := 1) C dL_law_1754 (by decide) ?_
  refine pv_iadd C dL_law_1755 ?_
  obtain ⟨g16, h⟩ := pq_gd h
  refine pv_sld C hXs hbl hbA g16 dL_law_1756 ?_
  refine pv_aload_n C 1 dL_law_1757 rfl rfl ?_
  refine pv_iload C 5 dL_law_1758 rfl ?_
  refine pv_iconst (v := 2) C dL_law_1760 (by decide) ?_
  refine pv_iadd C dL_law_1761 ?_
  obtain ⟨g17, h⟩ := pq_gd h
  refine pv_sld C hXs hbl hbA g17 dL_law_1762 ?_
  obtain ⟨v18, S19, e20, h⟩ := pq_bs h
  refine pv_calliV C (ci := 11) rfl (by decide) k2_ [.int (xs (Int32.toNatClampNeg (x4 + (1 : Int32)))), .int (xs (Int32.toNatClampNeg (x4 + (2 : Int32))))] (fun sz => r_X11_traceOf W0 k2_ e20 sz) (cwV 2 C.1.2.2.2.2 gL_law_X11_traceOf rfl rfl rfl (by decide +kernel) ⟨Nat.le_of_ble_eq_true rfl, Nat.le_of_ble_eq_true rfl⟩) rfl rfl (Nat.le_of_ble_eq_true rfl) dL_law_1763 ⟨Nat.le_trans (m := 601024) (by omega) (Nat.le_of_ble_eq_true rfl), Nat.le_trans (m := 7293034) (by omega) (Nat.le_of_ble_eq_true rfl)⟩ ?_
  refine pv_istore C [(6, .int v18), (5, .int v13), (0, .ref bb), (1, .ref a1), (2, .ref a2), (3, .ref a3), (4, .int x4)] dL_law_1766 (by decide) rfl ?_
  refine pv_aload_n C 4 dL_law_1768 rfl rfl ?_
  obtain ⟨v21, S22, e23, h⟩ := pq_bs h
  refine pv_calliV C (ci := 11) rfl (by decide) k2_ [] (fun sz => r_X11_thrown W0 k2_ e23 sz) (cwV 0 C.1.2.2.2.2 gL_law_X11_thrown rfl rfl rfl (by decide +kernel) ⟨Nat.le_of_ble_eq_true rfl, Nat.le_of_ble_eq_true rfl⟩) rfl rfl (Nat.le_of_ble_eq_true rfl) dL_law_1769 ⟨Nat.le_trans (m := 601024) (by omega) (Nat.le_of_ble_eq_true rfl), Nat.le_trans (m := 7293034) (by omega) (Nat.le_of_ble_eq_true rfl)⟩ ?_
  refine pv_iload C 1 dL_law_1772 rfl ?_
  refine pv_icmp_eq (tgt := 1779) C dL_law_1774 (by decide) (fun c24 => ?_) (fun c24 => ?_)
  · have h := pq_it c24 h
    refine pv_iload C 1 dL_law_1779 rfl ?_
    refine pv_if_ne (tgt := 1796) C dL_law_1781 (by decide) (fun c25 => ?_) (fun c25 => ?_)
    · have h := pq_if c25 h
      refine pv_goto (tgt := 2770) C dL_law_1796 (by decide) ?_
      refine pv_sub [2, 3, 4, 5, 6] rfl ?_
      cases h
      exact pv_wide (k := cells + 8) (n := slots + 48) (by omega) (by omega) kk
    · have h := pq_it c25 h
      refine pv_aload_n C 5 dL_law_1784 rfl rfl ?_
      refine pv_iconst (v := 0) C dL_law_1785 (by decide) ?_
      obtain ⟨g26, h⟩ := pq_gd h
      refine pv_laload C k3_ g26 dL_law_1786 ?_
      refine pv_iload C 0 dL_law_1787 rfl ?_
      refine pv_i2l C dL_law_1789 ?_
      refine pv_lcmp C dL_law_1790 ?_
      refine pv_if_eq (tgt := 1796) C dL_law_1791 (by decide) (fun c27 => ?_) (fun c27 => ?_)
      · have h := pq_it c27 h
        refine pv_goto (tgt := 2770) C dL_law_1796 (by decide) ?_
        refine pv_sub [2, 3, 4, 5, 6] rfl ?_
        cases h
        exact pv_wide (k := cells + 8) (n := slots + 48) (by omega) (by omega) kk
      · have h := pq_if c27 h
        cases h
  · have h := pq_if c24 h
    cases h
def F_L_c27 (G : pq_G) (S : pq_N) (xs : Nat → Int32) (L : Nat) (a1 a2 a3 : Nat) (x4 : Int32) : Option pq_N := (if (x4 + (1 : Int32)) < 0 ∨ L ≤ (Int32.toNatClampNeg (x4 + (1 : Int32))) then none else (if (x4 + (2 : Int32)) < 0 ∨ L ≤ (Int32.toNatClampNeg (x4 + (2 : Int32))) then none else (pq_bd (F_L_changesAtOrigin G S a1 (xs (Int32.toNatClampNeg (x4 + (1 : Int32)))) (xs (Int32.toNatClampNeg (x4 + (2 : Int32)))) a3) fun v13 S14 => (if (x4 + (1 : Int32)) < 0 ∨ L ≤ (Int32.toNatClampNeg (x4 + (1 : Int32))) then none else (if (x4 + (2 : Int32)) < 0 ∨ L ≤ (Int32.toNatClampNeg (x4 + (2 : Int32))) then none else (pq_bd (F_X11_changesAtOrigin G S14 a2 (xs (Int32.toNatClampNeg (x4 + (1 : Int32)))) (xs (Int32.toNatClampNeg (x4 + (2 : Int32))))) fun v18 S19 => (pq_bd (F_X11_thrown G S19 a2) fun v21 S22 => (if v21 = v13 then (if v13 = (0 : Int32) then (if (0 : Int32) < 0 ∨ pq_n G a3 ≤ (Int32.toNatClampNeg (0 : Int32)) then none else (if (lg_cmp (S22.2 a3 (Int32.toNatClampNeg (0 : Int32))) (Int32.toInt64 v18)) = (0 : Int32) then some S22 else none)) else some S22) else none))))))))
set_option maxHeartbeats 4000000 in
set_option maxRecDepth 100000 in
theorem r_L_c27 {p : Program} {l : Launch} {e : Env} {s : State} {m : MethodId} {av : Array Value} {below : List Frame} {meth : Method} {c : Code} {Q : State → Prop} {D : va_G} {y : pq_Y} {G : pq_G} (hl : l.stackTraces = false) (W0 : pq_WT G) (C : pq_C p s m av c D y RL wsL_law cL_law 9) (hX : pq_X (pq_A G s.heap.size) s s.heap) {bb L : Nat} {xs : Nat → Int32} (hXs : va_X bb L xs s s.heap) (hbl : bb < s.heap.size) (hbA : ¬ pq_A G s.heap.size bb) {a1 a2 a3 : Nat} (k1_ : pq_ok G 10 a1) (k2_ : pq_ok G 11 a2) (k3_ : pq_ok G 13 a3) {x4 : Int32} {S S1 : pq_N} {cells slots : Nat} (hc : cells + 8 ≤ 601024) (hs : slots + 48 ≤ 7293034) (h : F_L_c27 G S xs L a1 a2 a3 x4 = some S1) (kk : pq_V p l e room_1 s m av below meth c (cells + 8) (slots + 48) Q D y 9 (pq_A G s.heap.size) (fun _ => True) G S1 2770 [(0, .ref bb), (1, .ref a1), (2, .ref a2), (3, .ref a3), (4, .int x4)] []) : pq_V p l e room_1 s m av below meth c cells slots Q D y 9 (pq_A G s.heap.size) (fun _ => True) G S 1799 [(0, .ref bb), (1, .ref a1), (2, .ref a2), (3, .ref a3), (4, .int x4)] [] := by
  unfold F_L_c27 at h
  refine pv_aload_n C 1 dL_law_1799 rfl rfl ?_
  refine pv_aload_n C 0 dL_law_1800 rfl rfl ?_
  refine pv_iload C 4 dL_law_1801 rfl ?_
  refine pv_iconst (v := 1) C dL_law_1803 (by decide) ?_
  refine pv_iadd C dL_law_1804 ?_
  obtain ⟨g11, h⟩ := pq_gd h
  refine pv_sld C hXs hbl hbA g11 dL_law_1805 ?_
  refine pv_aload_n C 0 dL_law_1806 rfl rfl ?_
  refine pv_iload C 4 dL_law_1807 rfl ?_
  refine pv_iconst (v := 2) C dL_law_1809 (by decide) ?_
  refine pv_iadd C dL_law_1810 ?_
  obtain ⟨g12, h⟩ := pq_gd h
  refine pv_sld C hXs hbl hbA g12 dL_law_1811 ?_
  refine pv_aload_n C 3 dL_law_1812 rfl rfl ?_
  obtain ⟨v13, S14, e15, h⟩ := pq_bs h
  refine pv_hcalli C (kc := 2) (ks := 12) hX [.ref a1, .int (xs (Int32.toNatClampNeg (x4 + (1 : Int32)))), .int (xs (Int32.toNatClampNeg (x4 + (2 : Int32)))), .ref a3] (fun sz => r_L_changesAtOrigin hl W0 k1_ k3_ e15 sz) (vx_cwSW 4 C.1.2.2.2.2 gL_law_L_changesAtOrigin rfl rfl rfl (by decide +kernel) ⟨Nat.le_of_ble_eq_true rfl, Nat.le_of_ble_eq_true rfl⟩) rfl rfl (Nat.le_of_ble_eq_true rfl) dL_law_1813 ⟨Nat.le_trans (m := 601024) (by omega) (Nat.le_of_ble_eq_true rfl), Nat.le_trans (m := 7293034) (by omega) (Nat.le_of_ble_eq_true rfl)⟩ ?_
  refine pv_istore C [(5, .int v13), (0, .ref bb), (1, .ref a1), (2, .ref a2), (3, .ref a3), (4, .int x4)] dL_law_1816 (by decide) rfl ?_
  refine pv_aload_n C 3 dL_law_1818 rfl rfl ?_
  refine pv_aload_n C 1 dL_law_1819 rfl rfl ?_
  refine pv_iload C 5 dL_law_1820 rfl ?_
  refine pv_iconst (v := 1) C dL_law_1822 (by decide) ?_
  refine pv_iadd C dL_law_1823 ?_
  obtain ⟨g16, h⟩ := pq_gd h
  refine pv_sld C hXs hbl hbA g16 dL_law_1824 ?_
  refine pv_aload_n C 1 dL_law_1825 rfl rfl ?_
  refine pv_iload C 5 dL_law_1826 rfl ?_
  refine pv_iconst (v := 2) C dL_law_1828 (by decide) ?_
  refine pv_iadd C dL_law_1829 ?_
  obtain ⟨g17, h⟩ := pq_gd h
  refine pv_sld C hXs hbl hbA g17 dL_law_1830 ?_
  obtain ⟨v18, S19, e20, h⟩ := pq_bs h
  refine pv_calliV C (ci := 11) rfl (by decide) k2_ [.int (xs (Int32.toNatClampNeg (x4 + (1 : Int32)))), .int (xs (Int32.toNatClampNeg (x4 + (2 : Int32))))] (fun sz => r_X11_changesAtOrigin W0 k2_ e20 sz) (cwV 2 C.1.2.2.2.2 gL_law_X11_changesAtOrigin rfl rfl rfl (by decide +kernel) ⟨Nat.le_of_ble_eq_true rfl, Nat.le_of_ble_eq_true rfl⟩) rfl rfl (Nat.le_of_ble_eq_true rfl) dL_law_1831 ⟨Nat.le_trans (m := 601024) (by omega) (Nat.le_of_ble_eq_true rfl), Nat.le_trans (m := 7293034) (by omega) (Nat.le_of_ble_eq_true rfl)⟩ ?_
  refine pv_istore C [(6, .int v18), (5, .int v13), (0, .ref bb), (1, .ref a1), (2, .ref a2), (3, .ref a3), (4, .int x4)] dL_law_1834 (by decide) rfl ?_
  refine pv_aload_n C 4 dL_law_1836 rfl rfl ?_
  obtain ⟨v21, S22, e23, h⟩ := pq_bs h
  refine pv_calliV C (ci := 11) rfl (by decide) k2_ [] (fun sz => r_X11_thrown W0 k2_ e23 sz) (cwV 0 C.1.2.2.2.2 gL_law_X11_thrown rfl rfl rfl (by decide +kernel) ⟨Nat.le_of_ble_eq_true rfl, Nat.le_of_ble_eq_true rfl⟩) rfl rfl (Nat.le_of_ble_eq_true rfl) dL_law_1837 ⟨Nat.le_trans (m := 601024) (by omega) (Nat.le_of_ble_eq_true rfl), Nat.le_trans (m := 7293034) (by omega) (Nat.le_of_ble_eq_true rfl)⟩ ?_
  refine pv_iload C 1 dL_law_1840 rfl ?_
  refine pv_icmp_eq (tgt := 1847) C dL_law_1842 (by decide) (fun c24 => ?_) (fun c24 => ?_)
  · have h := pq_it c24 h
    refine pv_iload C 1 dL_law_1847 rfl ?_
    refine pv_if_ne (tgt := 1864) C dL_law_1849 (by decide) (fun c25 => ?_) (fun c25 => ?_)
    · have h := pq_if c25 h
      refine pv_goto (tgt := 2770) C dL_law_1864 (by decide) ?_
      refine pv_sub [2, 3, 4, 5, 6] rfl ?_
      cases h
      exact pv_wide (k := cells + 8) (n := slots + 48) (by omega) (by omega) kk
    · have h := pq_it c25 h
      refine pv_aload_n C 5 dL_law_1852 rfl rfl ?_
      refine pv_iconst (v := 0) C dL_law_1853 (by decide) ?_
      obtain ⟨g26, h⟩ := pq_gd h
      refine pv_laload C k3_ g26 dL_law_1854 ?_
      refine pv_iload C 0 dL_law_1855 rfl ?_
      refine pv_i2l C dL_law_1857 ?_
      refine pv_lcmp C dL_law_1858 ?_
      refine pv_if_eq (tgt := 1864) C dL_law_1859 (by decide) (fun c27 => ?_) (fun c27 => ?_)
      · have h := pq_it c27 h
        refine pv_goto (tgt := 2770) C dL_law_1864 (by decide) ?_
        refine pv_sub [2, 3, 4, 5, 6] rfl ?_
        cases h
        exact pv_wide (k := cells + 8) (n := slots + 48) (by omega) (by omega) kk
      · have h := pq_if c27 h
        cases h
  · have h := pq_if c24 h
    cases h
def F_L_c28 (G : pq_G) (S : pq_N) (xs : Nat → Int32) (L : Nat) (a1 a2 a3 : Nat) (x4 : Int32) : Option pq_N := (if (x4 + (1 : Int32)) < 0 ∨ L ≤ (Int32.toNatClampNeg (x4 + (1 : Int32))) then none else (if (x4 + (2 : Int32)) < 0 ∨ L ≤ (Int32.toNatClampNeg (x4 + (2 : Int32))) then none else (pq_bd (F_L_quotedAgain G S a1 (xs (Int32.toNatClampNeg (x4 + (1 : Int32)))) (xs (Int32.toNatClampNeg (x4 + (2 : Int32)))) a3) fun v13 S14 => (if (x4 + (1 : Int32)) < 0 ∨ L ≤ (Int32.toNatClampNeg (x4 + (1 : Int32))) then none else (if (x4 + (2 : Int32)) < 0 ∨ L ≤ (Int32.toNatClampNeg (x4 + (2 : Int32))) then none else (pq_bd (F_X11_quotedAgain G S14 a2 (xs (Int32.toNatClampNeg (x4 + (1 : Int32)))) (xs (Int32.toNatClampNeg (x4 + (2 : Int32))))) fun v18 S19 => (pq_bd (F_X11_thrown G S19 a2) fun v21 S22 => (if v21 = v13 then (if v13 = (0 : Int32) then (if (0 : Int32) < 0 ∨ pq_n G a3 ≤ (Int32.toNatClampNeg (0 : Int32)) then none else (if (lg_cmp (S22.2 a3 (Int32.toNatClampNeg (0 : Int32))) (Int32.toInt64 v18)) = (0 : Int32) then some S22 else none)) else some S22) else none))))))))
set_option maxHeartbeats 4000000 in
set_option maxRecDepth 100000 in
theorem r_L_c28 {p : Program} {l : Launch} {e : Env} {s : State} {m : MethodId} {av : Array Value} {below : List Frame} {meth : Method} {c : Code} {Q : State → Prop} {D : va_G} {y : pq_Y} {G : pq_G} (hl : l.stackTraces = false) (W0 : pq_WT G) (C : pq_C p s m av c D y RL wsL_law cL_law 9) (hX : pq_X (pq_A G s.heap.size) s s.heap) {bb L : Nat} {xs : Nat → Int32} (hXs : va_X bb L xs s s.heap) (hbl : bb < s.heap.size) (hbA : ¬ pq_A G s.heap.size bb) {a1 a2 a3 : Nat} (k1_ : pq_ok G 10 a1) (k2_ : pq_ok G 11 a2) (k3_ : pq_ok G 13 a3) {x4 : Int32} {S S1 : pq_N} {cells slots : Nat} (hc : cells + 8 ≤ 601024) (hs : slots + 48 ≤ 7293034) (h : F_L_c28 G S xs L a1 a2 a3 x4 = some S1) (kk : pq_V p l e room_1 s m av below meth c (cells + 8) (slots + 48) Q D y 9 (pq_A G s.heap.size) (fun _ => True) G S1 2770 [(0, .ref bb), (1, .ref a1), (2, .ref a2), (3, .ref a3), (4, .int x4)] []) : pq_V p l e room_1 s m av below meth c cells slots Q D y 9 (pq_A G s.heap.size) (fun _ => True) G S 1867 [(0, .ref bb), (1, .ref a1), (2, .ref a2), (3, .ref a3), (4, .int x4)] [] := by
  unfold F_L_c28 at h
  refine pv_aload_n C 1 dL_law_1867 rfl rfl ?_
  refine pv_aload_n C 0 dL_law_1868 rfl rfl ?_
  refine pv_iload C 4 dL_law_1869 rfl ?_
  refine pv_iconst (v := 1) C dL_law_1871 (by decide) ?_
  refine pv_iadd C dL_law_1872 ?_
  obtain ⟨g11, h⟩ := pq_gd h
  refine pv_sld C hXs hbl hbA g11 dL_law_1873 ?_
  refine pv_aload_n C 0 dL_law_1874 rfl rfl ?_
  refine pv_iload C 4 dL_law_1875 rfl ?_
  refine pv_iconst (v := 2) C dL_law_1877 (by decide) ?_
  refine pv_iadd C dL_law_1878 ?_
  obtain ⟨g12, h⟩ := pq_gd h
  refine pv_sld C hXs hbl hbA g12 dL_law_1879 ?_
  refine pv_aload_n C 3 dL_law_1880 rfl rfl ?_
  obtain ⟨v13, S14, e15, h⟩ := pq_bs h
  refine pv_hcalli C (kc := 2) (ks := 12) hX [.ref a1, .int (xs (Int32.toNatClampNeg (x4 + (1 : Int32)))), .int (xs (Int32.toNatClampNeg (x4 + (2 : Int32)))), .ref a3] (fun sz => r_L_quotedAgain hl W0 k1_ k3_ e15 sz) (vx_cwSW 4 C.1.2.2.2.2 gL_law_L_quotedAgain rfl rfl rfl (by decide +kernel) ⟨Nat.le_of_ble_eq_true rfl, Nat.le_of_ble_eq_true rfl⟩) rfl rfl (Nat.le_of_ble_eq_true rfl) dL_law_1881 ⟨Nat.le_trans (m := 601024) (by omega) (Nat.le_of_ble_eq_true rfl), Nat.le_trans (m := 7293034) (by omega) (Nat.le_of_ble_eq_true rfl)⟩ ?_
  refine pv_istore C [(5, .int v13), (0, .ref bb), (1, .ref a1), (2, .ref a2), (3, .ref a3), (4, .int x4)] dL_law_1884 (by decide) rfl ?_
  refine pv_aload_n C 3 dL_law_1886 rfl rfl ?_
  refine pv_aload_n C 1 dL_law_1887 rfl rfl ?_
  refine pv_iload C 5 dL_law_1888 rfl ?_
  refine pv_iconst (v := 1) C dL_law_1890 (by decide) ?_
  refine pv_iadd C dL_law_1891 ?_
  obtain ⟨g16, h⟩ := pq_gd h
  refine pv_sld C hXs hbl hbA g16 dL_law_1892 ?_
  refine pv_aload_n C 1 dL_law_1893 rfl rfl ?_
  refine pv_iload C 5 dL_law_1894 rfl ?_
  refine pv_iconst (v := 2) C dL_law_1896 (by decide) ?_
  refine pv_iadd C dL_law_1897 ?_
  obtain ⟨g17, h⟩ := pq_gd h
  refine pv_sld C hXs hbl hbA g17 dL_law_1898 ?_
  obtain ⟨v18, S19, e20, h⟩ := pq_bs h
  refine pv_calliV C (ci := 11) rfl (by decide) k2_ [.int (xs (Int32.toNatClampNeg (x4 + (1 : Int32)))), .int (xs (Int32.toNatClampNeg (x4 + (2 : Int32))))] (fun sz => r_X11_quotedAgain W0 k2_ e20 sz) (cwV 2 C.1.2.2.2.2 gL_law_X11_quotedAgain rfl rfl rfl (by decide +kernel) ⟨Nat.le_of_ble_eq_true rfl, Nat.le_of_ble_eq_true rfl⟩) rfl rfl (Nat.le_of_ble_eq_true rfl) dL_law_1899 ⟨Nat.le_trans (m := 601024) (by omega) (Nat.le_of_ble_eq_true rfl), Nat.le_trans (m := 7293034) (by omega) (Nat.le_of_ble_eq_true rfl)⟩ ?_
  refine pv_istore C [(6, .int v18), (5, .int v13), (0, .ref bb), (1, .ref a1), (2, .ref a2), (3, .ref a3), (4, .int x4)] dL_law_1902 (by decide) rfl ?_
  refine pv_aload_n C 4 dL_law_1904 rfl rfl ?_
  obtain ⟨v21, S22, e23, h⟩ := pq_bs h
  refine pv_calliV C (ci := 11) rfl (by decide) k2_ [] (fun sz => r_X11_thrown W0 k2_ e23 sz) (cwV 0 C.1.2.2.2.2 gL_law_X11_thrown rfl rfl rfl (by decide +kernel) ⟨Nat.le_of_ble_eq_true rfl, Nat.le_of_ble_eq_true rfl⟩) rfl rfl (Nat.le_of_ble_eq_true rfl) dL_law_1905 ⟨Nat.le_trans (m := 601024) (by omega) (Nat.le_of_ble_eq_true rfl), Nat.le_trans (m := 7293034) (by omega) (Nat.le_of_ble_eq_true rfl)⟩ ?_
  refine pv_iload C 1 dL_law_1908 rfl ?_
  refine pv_icmp_eq (tgt := 1915) C dL_law_1910 (by decide) (fun c24 => ?_) (fun c24 => ?_)
  · have h := pq_it c24 h
    refine pv_iload C 1 dL_law_1915 rfl ?_
    refine pv_if_ne (tgt := 1932) C dL_law_1917 (by decide) (fun c25 => ?_) (fun c25 => ?_)
    · have h := pq_if c25 h
      refine pv_goto (tgt := 2770) C dL_law_1932 (by decide) ?_
      refine pv_sub [2, 3, 4, 5, 6] rfl ?_
      cases h
      exact pv_wide (k := cells + 8) (n := slots + 48) (by omega) (by omega) kk
    · have h := pq_it c25 h
      refine pv_aload_n C 5 dL_law_1920 rfl rfl ?_
      refine pv_iconst (v := 0) C dL_law_1921 (by decide) ?_
      obtain ⟨g26, h⟩ := pq_gd h
      refine pv_laload C k3_ g26 dL_law_1922 ?_
      refine pv_iload C 0 dL_law_1923 rfl ?_
      refine pv_i2l C dL_law_1925 ?_
      refine pv_lcmp C dL_law_1926 ?_
      refine pv_if_eq (tgt := 1932) C dL_law_1927 (by decide) (fun c27 => ?_) (fun c27 => ?_)
      · have h := pq_it c27 h
        refine pv_goto (tgt := 2770) C dL_law_1932 (by decide) ?_
        refine pv_sub [2, 3, 4, 5, 6] rfl ?_
        cases h
        exact pv_wide (k := cells + 8) (n := slots + 48) (by omega) (by omega) kk
      · have h := pq_if c27 h
        cases h
  · have h := pq_if c24 h
    cases h
def F_L_c29 (G : pq_G) (S : pq_N) (xs : Nat → Int32) (L : Nat) (a1 a2 a3 : Nat) (x4 : Int32) : Option pq_N := (if (x4 + (1 : Int32)) < 0 ∨ L ≤ (Int32.toNatClampNeg (x4 + (1 : Int32))) then none else (pq_bd (F_L_blameOf G S a1 (xs (Int32.toNatClampNeg (x4 + (1 : Int32)))) a3) fun v12 S13 => (if (x4 + (1 : Int32)) < 0 ∨ L ≤ (Int32.toNatClampNeg (x4 + (1 : Int32))) then none else (pq_bd (F_X11_blameOf G S13 a2 (xs (Int32.toNatClampNeg (x4 + (1 : Int32))))) fun v16 S17 => (pq_bd (F_X11_thrown G S17 a2) fun v19 S20 => (if v19 = v12 then (if v12 = (0 : Int32) then (if (0 : Int32) < 0 ∨ pq_n G a3 ≤ (Int32.toNatClampNeg (0 : Int32)) then none else (if (lg_cmp (S20.2 a3 (Int32.toNatClampNeg (0 : Int32))) (Int32.toInt64 v16)) = (0 : Int32) then some S20 else none)) else some S20) else none))))))
set_option maxHeartbeats 4000000 in
set_option maxRecDepth 100000 in
theorem r_L_c29 {p : Program} {l : Launch} {e : Env} {s : State} {m : MethodId} {av : Array Value} {below : List Frame} {meth : Method} {c : Code} {Q : State → Prop} {D : va_G} {y : pq_Y} {G : pq_G} (hl : l.stackTraces = false) (W0 : pq_WT G) (C : pq_C p s m av c D y RL wsL_law cL_law 9) (hX : pq_X (pq_A G s.heap.size) s s.heap) {bb L : Nat} {xs : Nat → Int32} (hXs : va_X bb L xs s s.heap) (hbl : bb < s.heap.size) (hbA : ¬ pq_A G s.heap.size bb) {a1 a2 a3 : Nat} (k1_ : pq_ok G 10 a1) (k2_ : pq_ok G 11 a2) (k3_ : pq_ok G 13 a3) {x4 : Int32} {S S1 : pq_N} {cells slots : Nat} (hc : cells + 8 ≤ 601024) (hs : slots + 48 ≤ 7293034) (h : F_L_c29 G S xs L a1 a2 a3 x4 = some S1) (kk : pq_V p l e room_1 s m av below meth c (cells + 8) (slots + 48) Q D y 9 (pq_A G s.heap.size) (fun _ => True) G S1 2770 [(0, .ref bb), (1, .ref a1), (2, .ref a2), (3, .ref a3), (4, .int x4)] []) : pq_V p l e room_1 s m av below meth c cells slots Q D y 9 (pq_A G s.heap.size) (fun _ => True) G S 1935 [(0, .ref bb), (1, .ref a1), (2, .ref a2), (3, .ref a3), (4, .int x4)] [] := by
  unfold F_L_c29 at h
  refine pv_aload_n C 1 dL_law_1935 rfl rfl ?_
  refine pv_aload_n C 0 dL_law_1936 rfl rfl ?_
  refine pv_iload C 4 dL_law_1937 rfl ?_
  refine pv_iconst (v := 1) C dL_law_1939 (by decide) ?_
  refine pv_iadd C dL_law_1940 ?_
  obtain ⟨g11, h⟩ := pq_gd h
  refine pv_sld C hXs hbl hbA g11 dL_law_1941 ?_
  refine pv_aload_n C 3 dL_law_1942 rfl rfl ?_
  obtain ⟨v12, S13, e14, h⟩ := pq_bs h
  refine pv_hcalli C (kc := 1) (ks := 6) hX [.ref a1, .int (xs (Int32.toNatClampNeg (x4 + (1 : Int32)))), .ref a3] (fun sz => r_L_blameOf hl W0 k1_ k3_ e14 sz) (vx_cwSW 3 C.1.2.2.2.2 gL_law_L_blameOf rfl rfl rfl (by decide +kernel) ⟨Nat.le_of_ble_eq_true rfl, Nat.le_of_ble_eq_true rfl⟩) rfl rfl (Nat.le_of_ble_eq_true rfl) dL_law_1943 ⟨Nat.le_trans (m := 601024) (by omega) (Nat.le_of_ble_eq_true rfl), Nat.le_trans (m := 7293034) (by omega) (Nat.le_of_ble_eq_true rfl)⟩ ?_
  refine pv_istore C [(5, .int v12), (0, .ref bb), (1, .ref a1), (2, .ref a2), (3, .ref a3), (4, .int x4)] dL_law_1946 (by decide) rfl ?_
  refine pv_aload_n C 3 dL_law_1948 rfl rfl ?_
  refine pv_aload_n C 1 dL_law_1949 rfl rfl ?_
  refine pv_iload C 5 dL_law_1950 rfl ?_
  refine pv_iconst (v := 1) C dL_law_1952 (by decide) ?_
  refine pv_iadd C dL_law_1953 ?_
  obtain ⟨g15, h⟩ := pq_gd h
  refine pv_sld C hXs hbl hbA g15 dL_law_1954 ?_
  obtain ⟨v16, S17, e18, h⟩ := pq_bs h
  refine pv_calliV C (ci := 11) rfl (by decide) k2_ [.int (xs (Int32.toNatClampNeg (x4 + (1 : Int32))))] (fun sz => r_X11_blameOf W0 k2_ e18 sz) (cwV 1 C.1.2.2.2.2 gL_law_X11_blameOf rfl rfl rfl (by decide +kernel) ⟨Nat.le_of_ble_eq_true rfl, Nat.le_of_ble_eq_true rfl⟩) rfl rfl (Nat.le_of_ble_eq_true rfl) dL_law_1955 ⟨Nat.le_trans (m := 601024) (by omega) (Nat.le_of_ble_eq_true rfl), Nat.le_trans (m := 7293034) (by omega) (Nat.le_of_ble_eq_true rfl)⟩ ?_
  refine pv_istore C [(6, .int v16), (5, .int v12), (0, .ref bb), (1, .ref a1), (2, .ref a2), (3, .ref a3), (4, .int x4)] dL_law_1958 (by decide) rfl ?_
  refine pv_aload_n C 4 dL_law_1960 rfl rfl ?_
  obtain ⟨v19, S20, e21, h⟩ := pq_bs h
  refine pv_calliV C (ci := 11) rfl (by decide) k2_ [] (fun sz => r_X11_thrown W0 k2_ e21 sz) (cwV 0 C.1.2.2.2.2 gL_law_X11_thrown rfl rfl rfl (by decide +kernel) ⟨Nat.le_of_ble_eq_true rfl, Nat.le_of_ble_eq_true rfl⟩) rfl rfl (Nat.le_of_ble_eq_true rfl) dL_law_1961 ⟨Nat.le_trans (m := 601024) (by omega) (Nat.le_of_ble_eq_true rfl), Nat.le_trans (m := 7293034) (by omega) (Nat.le_of_ble_eq_true rfl)⟩ ?_
  refine pv_iload C 1 dL_law_1964 rfl ?_
  refine pv_icmp_eq (tgt := 1971) C dL_law_1966 (by decide) (fun c22 => ?_) (fun c22 => ?_)
  · have h := pq_it c22 h
    refine pv_iload C 1 dL_law_1971 rfl ?_
    refine pv_if_ne (tgt := 1988) C dL_law_1973 (by decide) (fun c23 => ?_) (fun c23 => ?_)
    · have h := pq_if c23 h
      refine pv_goto (tgt := 2770) C dL_law_1988 (by decide) ?_
      refine pv_sub [2, 3, 4, 5, 6] rfl ?_
      cases h
      exact pv_wide (k := cells + 8) (n := slots + 48) (by omega) (by omega) kk
    · have h := pq_it c23 h
      refine pv_aload_n C 5 dL_law_1976 rfl rfl ?_
      refine pv_iconst (v := 0) C dL_law_1977 (by decide) ?_
      obtain ⟨g24, h⟩ := pq_gd h
      refine pv_laload C k3_ g24 dL_law_1978 ?_
      refine pv_iload C 0 dL_law_1979 rfl ?_
      refine pv_i2l C dL_law_1981 ?_
      refine pv_lcmp C dL_law_1982 ?_
      refine pv_if_eq (tgt := 1988) C dL_law_1983 (by decide) (fun c25 => ?_) (fun c25 => ?_)
      · have h := pq_it c25 h
        refine pv_goto (tgt := 2770) C dL_law_1988 (by decide) ?_
        refine pv_sub [2, 3, 4, 5, 6] rfl ?_
        cases h
        exact pv_wide (k := cells + 8) (n := slots + 48) (by omega) (by omega) kk
      · have h := pq_if c25 h
        cases h
  · have h := pq_if c22 h
    cases h
def F_L_c30 (G : pq_G) (S : pq_N) (xs : Nat → Int32) (L : Nat) (a1 a2 a3 : Nat) (x4 : Int32) : Option pq_N := (if (x4 + (1 : Int32)) < 0 ∨ L ≤ (Int32.toNatClampNeg (x4 + (1 : Int32))) then none else (if (x4 + (2 : Int32)) < 0 ∨ L ≤ (Int32.toNatClampNeg (x4 + (2 : Int32))) then none else (pq_bd (F_L_wrongs G S a1 (xs (Int32.toNatClampNeg (x4 + (1 : Int32)))) (xs (Int32.toNatClampNeg (x4 + (2 : Int32)))) a3) fun v13 S14 => (if (x4 + (1 : Int32)) < 0 ∨ L ≤ (Int32.toNatClampNeg (x4 + (1 : Int32))) then none else (if (x4 + (2 : Int32)) < 0 ∨ L ≤ (Int32.toNatClampNeg (x4 + (2 : Int32))) then none else (pq_bd (F_X11_wrongs G S14 a2 (xs (Int32.toNatClampNeg (x4 + (1 : Int32)))) (xs (Int32.toNatClampNeg (x4 + (2 : Int32))))) fun v18 S19 => (pq_bd (F_X11_thrown G S19 a2) fun v21 S22 => (if v21 = v13 then (if v13 = (0 : Int32) then (if (0 : Int32) < 0 ∨ pq_n G a3 ≤ (Int32.toNatClampNeg (0 : Int32)) then none else (if (lg_cmp (S22.2 a3 (Int32.toNatClampNeg (0 : Int32))) (Int32.toInt64 v18)) = (0 : Int32) then some S22 else none)) else some S22) else none))))))))
set_option maxHeartbeats 4000000 in
set_option maxRecDepth 100000 in
theorem r_L_c30 {p : Program} {l : Launch} {e : Env} {s : State} {m : MethodId} {av : Array Value} {below : List Frame} {meth : Method} {c : Code} {Q : State → Prop} {D : va_G} {y : pq_Y} {G : pq_G} (hl : l.stackTraces = false) (W0 : pq_WT G) (C : pq_C p s m av c D y RL wsL_law cL_law 9) (hX : pq_X (pq_A G s.heap.size) s s.heap) {bb L : Nat} {xs : Nat → Int32} (hXs : va_X bb L xs s s.heap) (hbl : bb < s.heap.size) (hbA : ¬ pq_A G s.heap.size bb) {a1 a2 a3 : Nat} (k1_ : pq_ok G 10 a1) (k2_ : pq_ok G 11 a2) (k3_ : pq_ok G 13 a3) {x4 : Int32} {S S1 : pq_N} {cells slots : Nat} (hc : cells + 8 ≤ 601024) (hs : slots + 48 ≤ 7293034) (h : F_L_c30 G S xs L a1 a2 a3 x4 = some S1) (kk : pq_V p l e room_1 s m av below meth c (cells + 8) (slots + 48) Q D y 9 (pq_A G s.heap.size) (fun _ => True) G S1 2770 [(0, .ref bb), (1, .ref a1), (2, .ref a2), (3, .ref a3), (4, .int x4)] []) : pq_V p l e room_1 s m av below meth c cells slots Q D y 9 (pq_A G s.heap.size) (fun _ => True) G S 1991 [(0, .ref bb), (1, .ref a1), (2, .ref a2), (3, .ref a3), (4, .int x4)] [] := by
  unfold F_L_c30 at h
  refine pv_aload_n C 1 dL_law_1991 rfl rfl ?_
  refine pv_aload_n C 0 dL_law_1992 rfl rfl ?_
  refine pv_iload C 4 dL_law_1993 rfl ?_
  refine pv_iconst (v := 1) C dL_law_1995 (by decide) ?_
  refine pv_iadd C dL_law_1996 ?_
  obtain ⟨g11, h⟩ := pq_gd h
  refine pv_sld C hXs hbl hbA g11 dL_law_1997 ?_
  refine pv_aload_n C 0 dL_law_1998 rfl rfl ?_
  refine pv_iload C 4 dL_law_1999 rfl ?_
  refine pv_iconst (v := 2) C dL_law_2001 (by decide) ?_
  refine pv_iadd C dL_law_2002 ?_
  obtain ⟨g12, h⟩ := pq_gd h
  refine pv_sld C hXs hbl hbA g12 dL_law_2003 ?_
  refine pv_aload_n C 3 dL_law_2004 rfl rfl ?_
  obtain ⟨v13, S14, e15, h⟩ := pq_bs h
  refine pv_hcalli C (kc := 2) (ks := 12) hX [.ref a1, .int (xs (Int32.toNatClampNeg (x4 + (1 : Int32)))), .int (xs (Int32.toNatClampNeg (x4 + (2 : Int32)))), .ref a3] (fun sz => r_L_wrongs hl W0 k1_ k3_ e15 sz) (vx_cwSW 4 C.1.2.2.2.2 gL_law_L_wrongs rfl rfl rfl (by decide +kernel) ⟨Nat.le_of_ble_eq_true rfl, Nat.le_of_ble_eq_true rfl⟩) rfl rfl (Nat.le_of_ble_eq_true rfl) dL_law_2005 ⟨Nat.le_trans (m := 601024) (by omega) (Nat.le_of_ble_eq_true rfl), Nat.le_trans (m := 7293034) (by omega) (Nat.le_of_ble_eq_true rfl)⟩ ?_
  refine pv_istore C [(5, .int v13), (0, .ref bb), (1, .ref a1), (2, .ref a2), (3, .ref a3), (4, .int x4)] dL_law_2008 (by decide) rfl ?_
  refine pv_aload_n C 3 dL_law_2010 rfl rfl ?_
  refine pv_aload_n C 1 dL_law_2011 rfl rfl ?_
  refine pv_iload C 5 dL_law_2012 rfl ?_
  refine pv_iconst (v := 1) C dL_law_2014 (by decide) ?_
  refine pv_iadd C dL_law_2015 ?_
  obtain ⟨g16, h⟩ := pq_gd h
  refine pv_sld C hXs hbl hbA g16 dL_law_2016 ?_
  refine pv_aload_n C 1 dL_law_2017 rfl rfl ?_
  refine pv_iload C 5 dL_law_2018 rfl ?_
  refine pv_iconst (v := 2) C dL_law_2020 (by decide) ?_
  refine pv_iadd C dL_law_2021 ?_
  obtain ⟨g17, h⟩ := pq_gd h
  refine pv_sld C hXs hbl hbA g17 dL_law_2022 ?_
  obtain ⟨v18, S19, e20, h⟩ := pq_bs h
  refine pv_calliV C (ci := 11) rfl (by decide) k2_ [.int (xs (Int32.toNatClampNeg (x4 + (1 : Int32)))), .int (xs (Int32.toNatClampNeg (x4 + (2 : Int32))))] (fun sz => r_X11_wrongs W0 k2_ e20 sz) (cwV 2 C.1.2.2.2.2 gL_law_X11_wrongs rfl rfl rfl (by decide +kernel) ⟨Nat.le_of_ble_eq_true rfl, Nat.le_of_ble_eq_true rfl⟩) rfl rfl (Nat.le_of_ble_eq_true rfl) dL_law_2023 ⟨Nat.le_trans (m := 601024) (by omega) (Nat.le_of_ble_eq_true rfl), Nat.le_trans (m := 7293034) (by omega) (Nat.le_of_ble_eq_true rfl)⟩ ?_
  refine pv_istore C [(6, .int v18), (5, .int v13), (0, .ref bb), (1, .ref a1), (2, .ref a2), (3, .ref a3), (4, .int x4)] dL_law_2026 (by decide) rfl ?_
  refine pv_aload_n C 4 dL_law_2028 rfl rfl ?_
  obtain ⟨v21, S22, e23, h⟩ := pq_bs h
  refine pv_calliV C (ci := 11) rfl (by decide) k2_ [] (fun sz => r_X11_thrown W0 k2_ e23 sz) (cwV 0 C.1.2.2.2.2 gL_law_X11_thrown rfl rfl rfl (by decide +kernel) ⟨Nat.le_of_ble_eq_true rfl, Nat.le_of_ble_eq_true rfl⟩) rfl rfl (Nat.le_of_ble_eq_true rfl) dL_law_2029 ⟨Nat.le_trans (m := 601024) (by omega) (Nat.le_of_ble_eq_true rfl), Nat.le_trans (m := 7293034) (by omega) (Nat.le_of_ble_eq_true rfl)⟩ ?_
  refine pv_iload C 1 dL_law_2032 rfl ?_
  refine pv_icmp_eq (tgt := 2039) C dL_law_2034 (by decide) (fun c24 => ?_) (fun c24 => ?_)
  · have h := pq_it c24 h
    refine pv_iload C 1 dL_law_2039 rfl ?_
    refine pv_if_ne (tgt := 2056) C dL_law_2041 (by decide) (fun c25 => ?_) (fun c25 => ?_)
    · have h := pq_if c25 h
      refine pv_goto (tgt := 2770) C dL_law_2056 (by decide) ?_
      refine pv_sub [2, 3, 4, 5, 6] rfl ?_
      cases h
      exact pv_wide (k := cells + 8) (n := slots + 48) (by omega) (by omega) kk
    · have h := pq_it c25 h
      refine pv_aload_n C 5 dL_law_2044 rfl rfl ?_
      refine pv_iconst (v := 0) C dL_law_2045 (by decide) ?_
      obtain ⟨g26, h⟩ := pq_gd h
      refine pv_laload C k3_ g26 dL_law_2046 ?_
      refine pv_iload C 0 dL_law_2047 rfl ?_
      refine pv_i2l C dL_law_2049 ?_
      refine pv_lcmp C dL_law_2050 ?_
      refine pv_if_eq (tgt := 2056) C dL_law_2051 (by decide) (fun c27 => ?_) (fun c27 => ?_)
      · have h := pq_it c27 h
        refine pv_goto (tgt := 2770) C dL_law_2056 (by decide) ?_
        refine pv_sub [2, 3, 4, 5, 6] rfl ?_
        cases h
        exact pv_wide (k := cells + 8) (n := slots + 48) (by omega) (by omega) kk
      · have h := pq_if c27 h
        cases h
  · have h := pq_if c24 h
    cases h
def F_L_c31 (G : pq_G) (S : pq_N) (xs : Nat → Int32) (L : Nat) (a1 a2 a3 : Nat) (x4 : Int32) : Option pq_N := (pq_bd (F_X10_blameByAuthors G S a1) fun v11 S12 => (pq_bd (F_X11_blameByAuthors G S12 a2) fun v14 S15 => (if v11 = v14 then some S15 else none)))
set_option maxHeartbeats 4000000 in
set_option maxRecDepth 100000 in
theorem r_L_c31 {p : Program} {l : Launch} {e : Env} {s : State} {m : MethodId} {av : Array Value} {below : List Frame} {meth : Method} {c : Code} {Q : State → Prop} {D : va_G} {y : pq_Y} {G : pq_G} (hl : l.stackTraces = false) (W0 : pq_WT G) (C : pq_C p s m av c D y RL wsL_law cL_law 9) (hX : pq_X (pq_A G s.heap.size) s s.heap) {bb L : Nat} {xs : Nat → Int32} (hXs : va_X bb L xs s s.heap) (hbl : bb < s.heap.size) (hbA : ¬ pq_A G s.heap.size bb) {a1 a2 a3 : Nat} (k1_ : pq_ok G 10 a1) (k2_ : pq_ok G 11 a2) (k3_ : pq_ok G 13 a3) {x4 : Int32} {S S1 : pq_N} {cells slots : Nat} (hc : cells + 8 ≤ 601024) (hs : slots + 48 ≤ 7293034) (h : F_L_c31 G S xs L a1 a2 a3 x4 = some S1) (kk : pq_V p l e room_1 s m av below meth c (cells + 8) (slots + 48) Q D y 9 (pq_A G s.heap.size) (fun _ => True) G S1 2770 [(0, .ref bb), (1, .ref a1), (2, .ref a2), (3, .ref a3), (4, .int x4)] []) : pq_V p l e room_1 s m av below meth c cells slots Q D y 9 (pq_A G s.heap.size) (fun _ => True) G S 2059 [(0, .ref bb), (1, .ref a1), (2, .ref a2), (3, .ref a3), (4, .int x4)] [] := by
  unfold F_L_c31 at h
  refine pv_aload_n C 1 dL_law_2059 rfl rfl ?_
  obtain ⟨v11, S12, e13, h⟩ := pq_bs h
  refine pv_calliV C (ci := 10) rfl (by decide) k1_ [] (fun sz => r_X10_blameByAuthors W0 k1_ e13 sz) (cwV 0 C.1.2.2.2.2 gL_law_X10_blameByAuthors rfl rfl rfl (by decide +kernel) ⟨Nat.le_of_ble_eq_true rfl, Nat.le_of_ble_eq_true rfl⟩) rfl rfl (Nat.le_of_ble_eq_true rfl) dL_law_2060 ⟨Nat.le_trans (m := 601024) (by omega) (Nat.le_of_ble_eq_true rfl), Nat.le_trans (m := 7293034) (by omega) (Nat.le_of_ble_eq_true rfl)⟩ ?_
  refine pv_aload_n C 2 dL_law_2063 rfl rfl ?_
  obtain ⟨v14, S15, e16, h⟩ := pq_bs h
  refine pv_calliV C (ci := 11) rfl (by decide) k2_ [] (fun sz => r_X11_blameByAuthors W0 k2_ e16 sz) (cwV 0 C.1.2.2.2.2 gL_law_X11_blameByAuthors rfl rfl rfl (by decide +kernel) ⟨Nat.le_of_ble_eq_true rfl, Nat.le_of_ble_eq_true rfl⟩) rfl rfl (Nat.le_of_ble_eq_true rfl) dL_law_2064 ⟨Nat.le_trans (m := 601024) (by omega) (Nat.le_of_ble_eq_true rfl), Nat.le_trans (m := 7293034) (by omega) (Nat.le_of_ble_eq_true rfl)⟩ ?_
  refine pv_icmp_eq (tgt := 2770) C dL_law_2067 (by decide) (fun c17 => ?_) (fun c17 => ?_)
  · have h := pq_it c17 h
    refine pv_sub [0, 1, 2, 3, 4] rfl ?_
    cases h
    exact pv_wide (k := cells + 8) (n := slots + 48) (by omega) (by omega) kk
  · have h := pq_if c17 h
    cases h
def F_L_c32 (G : pq_G) (S : pq_N) (xs : Nat → Int32) (L : Nat) (a1 a2 a3 : Nat) (x4 : Int32) : Option pq_N := (pq_bd (F_X10_blameBySources G S a1) fun v11 S12 => (pq_bd (F_X11_blameBySources G S12 a2) fun v14 S15 => (if v11 = v14 then some S15 else none)))
set_option maxHeartbeats 4000000 in
set_option maxRecDepth 100000 in
theorem r_L_c32 {p : Program} {l : Launch} {e : Env} {s : State} {m : MethodId} {av : Array Value} {below : List Frame} {meth : Method} {c : Code} {Q : State → Prop} {D : va_G} {y : pq_Y} {G : pq_G} (hl : l.stackTraces = false) (W0 : pq_WT G) (C : pq_C p s m av c D y RL wsL_law cL_law 9) (hX : pq_X (pq_A G s.heap.size) s s.heap) {bb L : Nat} {xs : Nat → Int32} (hXs : va_X bb L xs s s.heap) (hbl : bb < s.heap.size) (hbA : ¬ pq_A G s.heap.size bb) {a1 a2 a3 : Nat} (k1_ : pq_ok G 10 a1) (k2_ : pq_ok G 11 a2) (k3_ : pq_ok G 13 a3) {x4 : Int32} {S S1 : pq_N} {cells slots : Nat} (hc : cells + 8 ≤ 601024) (hs : slots + 48 ≤ 7293034) (h : F_L_c32 G S xs L a1 a2 a3 x4 = some S1) (kk : pq_V p l e room_1 s m av below meth c (cells + 8) (slots + 48) Q D y 9 (pq_A G s.heap.size) (fun _ => True) G S1 2770 [(0, .ref bb), (1, .ref a1), (2, .ref a2), (3, .ref a3), (4, .int x4)] []) : pq_V p l e room_1 s m av below meth c cells slots Q D y 9 (pq_A G s.heap.size) (fun _ => True) G S 2072 [(0, .ref bb), (1, .ref a1), (2, .ref a2), (3, .ref a3), (4, .int x4)] [] := by
  unfold F_L_c32 at h
  refine pv_aload_n C 1 dL_law_2072 rfl rfl ?_
  obtain ⟨v11, S12, e13, h⟩ := pq_bs h
  refine pv_calliV C (ci := 10) rfl (by decide) k1_ [] (fun sz => r_X10_blameBySources W0 k1_ e13 sz) (cwV 0 C.1.2.2.2.2 gL_law_X10_blameBySources rfl rfl rfl (by decide +kernel) ⟨Nat.le_of_ble_eq_true rfl, Nat.le_of_ble_eq_true rfl⟩) rfl rfl (Nat.le_of_ble_eq_true rfl) dL_law_2073 ⟨Nat.le_trans (m := 601024) (by omega) (Nat.le_of_ble_eq_true rfl), Nat.le_trans (m := 7293034) (by omega) (Nat.le_of_ble_eq_true rfl)⟩ ?_
  refine pv_aload_n C 2 dL_law_2076 rfl rfl ?_
  obtain ⟨v14, S15, e16, h⟩ := pq_bs h
  refine pv_calliV C (ci := 11) rfl (by decide) k2_ [] (fun sz => r_X11_blameBySources W0 k2_ e16 sz) (cwV 0 C.1.2.2.2.2 gL_law_X11_blameBySources rfl rfl rfl (by decide +kernel) ⟨Nat.le_of_ble_eq_true rfl, Nat.le_of_ble_eq_true rfl⟩) rfl rfl (Nat.le_of_ble_eq_true rfl) dL_law_2077 ⟨Nat.le_trans (m := 601024) (by omega) (Nat.le_of_ble_eq_true rfl), Nat.le_trans (m := 7293034) (by omega) (Nat.le_of_ble_eq_true rfl)⟩ ?_
  refine pv_icmp_eq (tgt := 2770) C dL_law_2080 (by decide) (fun c17 => ?_) (fun c17 => ?_)
  · have h := pq_it c17 h
    refine pv_sub [0, 1, 2, 3, 4] rfl ?_
    cases h
    exact pv_wide (k := cells + 8) (n := slots + 48) (by omega) (by omega) kk
  · have h := pq_if c17 h
    cases h
def F_L_c33 (G : pq_G) (S : pq_N) (xs : Nat → Int32) (L : Nat) (a1 a2 a3 : Nat) (x4 : Int32) : Option pq_N := (pq_bd (F_X10_faithfulShare G S a1) fun v11 S12 => (pq_bd (F_X11_faithfulShare G S12 a2) fun v14 S15 => (if (Op.cmpValue (FP.dcmp v11 v14) .l) = (0 : Int32) then some S15 else (if (Op.cmpValue (FP.dcmp v11 v11) .l) = (0 : Int32) then none else (if (Op.cmpValue (FP.dcmp v14 v14) .l) = (0 : Int32) then none else some S15)))))
set_option maxHeartbeats 4000000 in
set_option maxRecDepth 100000 in
theorem r_L_c33 {p : Program} {l : Launch} {e : Env} {s : State} {m : MethodId} {av : Array Value} {below : List Frame} {meth : Method} {c : Code} {Q : State → Prop} {D : va_G} {y : pq_Y} {G : pq_G} (hl : l.stackTraces = false) (W0 : pq_WT G) (C : pq_C p s m av c D y RL wsL_law cL_law 9) (hX : pq_X (pq_A G s.heap.size) s s.heap) {bb L : Nat} {xs : Nat → Int32} (hXs : va_X bb L xs s s.heap) (hbl : bb < s.heap.size) (hbA : ¬ pq_A G s.heap.size bb) {a1 a2 a3 : Nat} (k1_ : pq_ok G 10 a1) (k2_ : pq_ok G 11 a2) (k3_ : pq_ok G 13 a3) {x4 : Int32} {S S1 : pq_N} {cells slots : Nat} (hc : cells + 8 ≤ 601024) (hs : slots + 48 ≤ 7293034) (h : F_L_c33 G S xs L a1 a2 a3 x4 = some S1) (kk : pq_V p l e room_1 s m av below meth c (cells + 8) (slots + 48) Q D y 9 (pq_A G s.heap.size) (fun _ => True) G S1 2770 [(0, .ref bb), (1, .ref a1), (2, .ref a2), (3, .ref a3), (4, .int x4)] []) : pq_V p l e room_1 s m av below meth c cells slots Q D y 9 (pq_A G s.heap.size) (fun _ => True) G S 2085 [(0, .ref bb), (1, .ref a1), (2, .ref a2), (3, .ref a3), (4, .int x4)] [] := by
  unfold F_L_c33 at h
  refine pv_aload_n C 1 dL_law_2085 rfl rfl ?_
  obtain ⟨v11, S12, e13, h⟩ := pq_bs h
  refine pv_calldV C (ci := 10) rfl (by decide) k1_ [] (fun sz => r_X10_faithfulShare W0 k1_ e13 sz) (cwV 0 C.1.2.2.2.2 gL_law_X10_faithfulShare rfl rfl rfl (by decide +kernel) ⟨Nat.le_of_ble_eq_true rfl, Nat.le_of_ble_eq_true rfl⟩) rfl rfl (Nat.le_of_ble_eq_true rfl) dL_law_2086 ⟨Nat.le_trans (m := 601024) (by omega) (Nat.le_of_ble_eq_true rfl), Nat.le_trans (m := 7293034) (by omega) (Nat.le_of_ble_eq_true rfl)⟩ ?_
  refine pv_dstore C [(5, .double v11), (0, .ref bb), (1, .ref a1), (2, .ref a2), (3, .ref a3), (4, .int x4)] dL_law_2089 (by decide) rfl ?_
  refine pv_aload_n C 3 dL_law_2091 rfl rfl ?_
  obtain ⟨v14, S15, e16, h⟩ := pq_bs h
  refine pv_calldV C (ci := 11) rfl (by decide) k2_ [] (fun sz => r_X11_faithfulShare W0 k2_ e16 sz) (cwV 0 C.1.2.2.2.2 gL_law_X11_faithfulShare rfl rfl rfl (by decide +kernel) ⟨Nat.le_of_ble_eq_true rfl, Nat.le_of_ble_eq_true rfl⟩) rfl rfl (Nat.le_of_ble_eq_true rfl) dL_law_2092 ⟨Nat.le_trans (m := 601024) (by omega) (Nat.le_of_ble_eq_true rfl), Nat.le_trans (m := 7293034) (by omega) (Nat.le_of_ble_eq_true rfl)⟩ ?_
  refine pv_dstore C [(7, .double v14), (5, .double v11), (0, .ref bb), (1, .ref a1), (2, .ref a2), (3, .ref a3), (4, .int x4)] dL_law_2095 (by decide) rfl ?_
  refine pv_dload C 1 dL_law_2097 rfl ?_
  refine pv_dload C 0 dL_law_2099 rfl ?_
  refine pv_dcmp C dL_law_2101 ?_
  refine pv_if_eq (tgt := 2123) C dL_law_2102 (by decide) (fun c17 => ?_) (fun c17 => ?_)
  · have h := pq_it c17 h
    refine pv_goto (tgt := 2770) C dL_law_2123 (by decide) ?_
    refine pv_sub [2, 3, 4, 5, 6] rfl ?_
    cases h
    exact pv_wide (k := cells + 8) (n := slots + 48) (by omega) (by omega) kk
  · have h := pq_if c17 h
    refine pv_dload C 1 dL_law_2105 rfl ?_
    refine pv_dload C 1 dL_law_2107 rfl ?_
    refine pv_dcmp C dL_law_2109 ?_
    refine pv_if_eq (tgt := 2121) C dL_law_2110 (by decide) (fun c18 => ?_) (fun c18 => ?_)
    · have h := pq_it c18 h
      cases h
    · have h := pq_if c18 h
      refine pv_dload C 0 dL_law_2113 rfl ?_
      refine pv_dload C 0 dL_law_2115 rfl ?_
      refine pv_dcmp C dL_law_2117 ?_
      refine pv_if_ne (tgt := 2123) C dL_law_2118 (by decide) (fun c19 => ?_) (fun c19 => ?_)
      · have h := pq_if c19 h
        refine pv_goto (tgt := 2770) C dL_law_2123 (by decide) ?_
        refine pv_sub [2, 3, 4, 5, 6] rfl ?_
        cases h
        exact pv_wide (k := cells + 8) (n := slots + 48) (by omega) (by omega) kk
      · have h := pq_it c19 h
        cases h
def F_L_c34 (G : pq_G) (S : pq_N) (xs : Nat → Int32) (L : Nat) (a1 a2 a3 : Nat) (x4 : Int32) : Option pq_N := (if (x4 + (1 : Int32)) < 0 ∨ L ≤ (Int32.toNatClampNeg (x4 + (1 : Int32))) then none else (if (x4 + (2 : Int32)) < 0 ∨ L ≤ (Int32.toNatClampNeg (x4 + (2 : Int32))) then none else (pq_bd (F_L_answers G S a1 (xs (Int32.toNatClampNeg (x4 + (1 : Int32)))) (xs (Int32.toNatClampNeg (x4 + (2 : Int32)))) a3) fun v13 S14 => (if (x4 + (1 : Int32)) < 0 ∨ L ≤ (Int32.toNatClampNeg (x4 + (1 : Int32))) then none else (if (x4 + (2 : Int32)) < 0 ∨ L ≤ (Int32.toNatClampNeg (x4 + (2 : Int32))) then none else (pq_bd (F_X11_answers G S14 a2 (xs (Int32.toNatClampNeg (x4 + (1 : Int32)))) (xs (Int32.toNatClampNeg (x4 + (2 : Int32))))) fun v18 S19 => (pq_bd (F_X11_thrown G S19 a2) fun v21 S22 => (if v21 = v13 then (if v13 = (0 : Int32) then (if (0 : Int32) < 0 ∨ pq_n G a3 ≤ (Int32.toNatClampNeg (0 : Int32)) then none else (if v18 = (0 : Int32) then (if (lg_cmp (S22.2 a3 (Int32.toNatClampNeg (0 : Int32))) (0 : Int64)) = (0 : Int32) then some S22 else none) else (if (lg_cmp (S22.2 a3 (Int32.toNatClampNeg (0 : Int32))) (1 : Int64)) = (0 : Int32) then some S22 else none))) else some S22) else none))))))))
set_option maxHeartbeats 4000000 in
set_option maxRecDepth 100000 in
theorem r_L_c34 {p : Program} {l : Launch} {e : Env} {s : State} {m : MethodId} {av : Array Value} {below : List Frame} {meth : Method} {c : Code} {Q : State → Prop} {D : va_G} {y : pq_Y} {G : pq_G} (hl : l.stackTraces = false) (W0 : pq_WT G) (C : pq_C p s m av c D y RL wsL_law cL_law 9) (hX : pq_X (pq_A G s.heap.size) s s.heap) {bb L : Nat} {xs : Nat → Int32} (hXs : va_X bb L xs s s.heap) (hbl : bb < s.heap.size) (hbA : ¬ pq_A G s.heap.size bb) {a1 a2 a3 : Nat} (k1_ : pq_ok G 10 a1) (k2_ : pq_ok G 11 a2) (k3_ : pq_ok G 13 a3) {x4 : Int32} {S S1 : pq_N} {cells slots : Nat} (hc : cells + 8 ≤ 601024) (hs : slots + 48 ≤ 7293034) (h : F_L_c34 G S xs L a1 a2 a3 x4 = some S1) (kk : pq_V p l e room_1 s m av below meth c (cells + 8) (slots + 48) Q D y 9 (pq_A G s.heap.size) (fun _ => True) G S1 2770 [(0, .ref bb), (1, .ref a1), (2, .ref a2), (3, .ref a3), (4, .int x4)] []) : pq_V p l e room_1 s m av below meth c cells slots Q D y 9 (pq_A G s.heap.size) (fun _ => True) G S 2126 [(0, .ref bb), (1, .ref a1), (2, .ref a2), (3, .ref a3), (4, .int x4)] [] := by
  unfold F_L_c34 at h
  refine pv_aload_n C 1 dL_law_2126 rfl rfl ?_
  refine pv_aload_n C 0 dL_law_2127 rfl rfl ?_
  refine pv_iload C 4 dL_law_2128 rfl ?_
  refine pv_iconst (v := 1) C dL_law_2130 (by decide) ?_
  refine pv_iadd C dL_law_2131 ?_
  obtain ⟨g11, h⟩ := pq_gd h
  refine pv_sld C hXs hbl hbA g11 dL_law_2132 ?_
  refine pv_aload_n C 0 dL_law_2133 rfl rfl ?_
  refine pv_iload C 4 dL_law_2134 rfl ?_
  refine pv_iconst (v := 2) C dL_law_2136 (by decide) ?_
  refine pv_iadd C dL_law_2137 ?_
  obtain ⟨g12, h⟩ := pq_gd h
  refine pv_sld C hXs hbl hbA g12 dL_law_2138 ?_
  refine pv_aload_n C 3 dL_law_2139 rfl rfl ?_
  obtain ⟨v13, S14, e15, h⟩ := pq_bs h
  refine pv_hcalli C (kc := 2) (ks := 12) hX [.ref a1, .int (xs (Int32.toNatClampNeg (x4 + (1 : Int32)))), .int (xs (Int32.toNatClampNeg (x4 + (2 : Int32)))), .ref a3] (fun sz => r_L_answers hl W0 k1_ k3_ e15 sz) (vx_cwSW 4 C.1.2.2.2.2 gL_law_L_answers rfl rfl rfl (by decide +kernel) ⟨Nat.le_of_ble_eq_true rfl, Nat.le_of_ble_eq_true rfl⟩) rfl rfl (Nat.le_of_ble_eq_true rfl) dL_law_2140 ⟨Nat.le_trans (m := 601024) (by omega) (Nat.le_of_ble_eq_true rfl), Nat.le_trans (m := 7293034) (by omega) (Nat.le_of_ble_eq_true rfl)⟩ ?_
  refine pv_istore C [(5, .int v13), (0, .ref bb), (1, .ref a1), (2, .ref a2), (3, .ref a3), (4, .int x4)] dL_law_2143 (by decide) rfl ?_
  refine pv_aload_n C 3 dL_law_2145 rfl rfl ?_
  refine pv_aload_n C 1 dL_law_2146 rfl rfl ?_
  refine pv_iload C 5 dL_law_2147 rfl ?_
  refine pv_iconst (v := 1) C dL_law_2149 (by decide) ?_
  refine pv_iadd C dL_law_2150 ?_
  obtain ⟨g16, h⟩ := pq_gd h
  refine pv_sld C hXs hbl hbA g16 dL_law_2151 ?_
  refine pv_aload_n C 1 dL_law_2152 rfl rfl ?_
  refine pv_iload C 5 dL_law_2153 rfl ?_
  refine pv_iconst (v := 2) C dL_law_2155 (by decide) ?_
  refine pv_iadd C dL_law_2156 ?_
  obtain ⟨g17, h⟩ := pq_gd h
  refine pv_sld C hXs hbl hbA g17 dL_law_2157 ?_
  obtain ⟨v18, S19, e20, h⟩ := pq_bs h
  refine pv_calliV C (ci := 11) rfl (by decide) k2_ [.int (xs (Int32.toNatClampNeg (x4 + (1 : Int32)))), .int (xs (Int32.toNatClampNeg (x4 + (2 : Int32))))] (fun sz => r_X11_answers W0 k2_ e20 sz) (cwV 2 C.1.2.2.2.2 gL_law_X11_answers rfl rfl rfl (by decide +kernel) ⟨Nat.le_of_ble_eq_true rfl, Nat.le_of_ble_eq_true rfl⟩) rfl rfl (Nat.le_of_ble_eq_true rfl) dL_law_2158 ⟨Nat.le_trans (m := 601024) (by omega) (Nat.le_of_ble_eq_true rfl), Nat.le_trans (m := 7293034) (by omega) (Nat.le_of_ble_eq_true rfl)⟩ ?_
  refine pv_istore C [(6, .int v18), (5, .int v13), (0, .ref bb), (1, .ref a1), (2, .ref a2), (3, .ref a3), (4, .int x4)] dL_law_2161 (by decide) rfl ?_
  refine pv_aload_n C 4 dL_law_2163 rfl rfl ?_
  obtain ⟨v21, S22, e23, h⟩ := pq_bs h
  refine pv_calliV C (ci := 11) rfl (by decide) k2_ [] (fun sz => r_X11_thrown W0 k2_ e23 sz) (cwV 0 C.1.2.2.2.2 gL_law_X11_thrown rfl rfl rfl (by decide +kernel) ⟨Nat.le_of_ble_eq_true rfl, Nat.le_of_ble_eq_true rfl⟩) rfl rfl (Nat.le_of_ble_eq_true rfl) dL_law_2164 ⟨Nat.le_trans (m := 601024) (by omega) (Nat.le_of_ble_eq_true rfl), Nat.le_trans (m := 7293034) (by omega) (Nat.le_of_ble_eq_true rfl)⟩ ?_
  refine pv_iload C 1 dL_law_2167 rfl ?_
  refine pv_icmp_eq (tgt := 2174) C dL_law_2169 (by decide) (fun c24 => ?_) (fun c24 => ?_)
  · have h := pq_it c24 h
    refine pv_iload C 1 dL_law_2174 rfl ?_
    refine pv_if_ne (tgt := 2198) C dL_law_2176 (by decide) (fun c25 => ?_) (fun c25 => ?_)
    · have h := pq_if c25 h
      refine pv_goto (tgt := 2770) C dL_law_2198 (by decide) ?_
      refine pv_sub [2, 3, 4, 5, 6] rfl ?_
      cases h
      exact pv_wide (k := cells + 8) (n := slots + 48) (by omega) (by omega) kk
    · have h := pq_it c25 h
      refine pv_aload_n C 5 dL_law_2179 rfl rfl ?_
      refine pv_iconst (v := 0) C dL_law_2180 (by decide) ?_
      obtain ⟨g26, h⟩ := pq_gd h
      refine pv_laload C k3_ g26 dL_law_2181 ?_
      refine pv_iload C 0 dL_law_2182 rfl ?_
      refine pv_if_eq (tgt := 2191) C dL_law_2184 (by decide) (fun c27 => ?_) (fun c27 => ?_)
      · have h := pq_it c27 h
        refine pv_lconst (v := 0) C dL_law_2191 (by decide) ?_
        refine pv_lcmp C dL_law_2192 ?_
        refine pv_if_eq (tgt := 2198) C dL_law_2193 (by decide) (fun c28 => ?_) (fun c28 => ?_)
        · have h := pq_it c28 h
          refine pv_goto (tgt := 2770) C dL_law_2198 (by decide) ?_
          refine pv_sub [2, 3, 4, 5, 6] rfl ?_
          cases h
          exact pv_wide (k := cells + 8) (n := slots + 48) (by omega) (by omega) kk
        · have h := pq_if c28 h
          cases h
      · have h := pq_if c27 h
        refine pv_lconst (v := 1) C dL_law_2187 (by decide) ?_
        refine pv_goto (tgt := 2192) C dL_law_2188 (by decide) ?_
        refine pv_lcmp C dL_law_2192 ?_
        refine pv_if_eq (tgt := 2198) C dL_law_2193 (by decide) (fun c29 => ?_) (fun c29 => ?_)
        · have h := pq_it c29 h
          refine pv_goto (tgt := 2770) C dL_law_2198 (by decide) ?_
          refine pv_sub [2, 3, 4, 5, 6] rfl ?_
          cases h
          exact pv_wide (k := cells + 8) (n := slots + 48) (by omega) (by omega) kk
        · have h := pq_if c29 h
          cases h
  · have h := pq_if c24 h
    cases h
def F_L_c35 (G : pq_G) (S : pq_N) (xs : Nat → Int32) (L : Nat) (a1 a2 a3 : Nat) (x4 : Int32) : Option pq_N := (if (x4 + (1 : Int32)) < 0 ∨ L ≤ (Int32.toNatClampNeg (x4 + (1 : Int32))) then none else (pq_bd (F_L_ladderOf G S a1 (xs (Int32.toNatClampNeg (x4 + (1 : Int32)))) a3) fun v12 S13 => (if (x4 + (1 : Int32)) < 0 ∨ L ≤ (Int32.toNatClampNeg (x4 + (1 : Int32))) then none else (pq_bd (F_X11_ladderOf G S13 a2 (xs (Int32.toNatClampNeg (x4 + (1 : Int32))))) fun v16 S17 => (pq_bd (F_X11_thrown G S17 a2) fun v19 S20 => (if v19 = v12 then (if v12 = (0 : Int32) then (if (0 : Int32) < 0 ∨ pq_n G a3 ≤ (Int32.toNatClampNeg (0 : Int32)) then none else (if (lg_cmp (S20.2 a3 (Int32.toNatClampNeg (0 : Int32))) (Int32.toInt64 v16)) = (0 : Int32) then some S20 else none)) else some S20) else none))))))
set_option maxHeartbeats 4000000 in
set_option maxRecDepth 100000 in
theorem r_L_c35 {p : Program} {l : Launch} {e : Env} {s : State} {m : MethodId} {av : Array Value} {below : List Frame} {meth : Method} {c : Code} {Q : State → Prop} {D : va_G} {y : pq_Y} {G : pq_G} (hl : l.stackTraces = false) (W0 : pq_WT G) (C : pq_C p s m av c D y RL wsL_law cL_law 9) (hX : pq_X (pq_A G s.heap.size) s s.heap) {bb L : Nat} {xs : Nat → Int32} (hXs : va_X bb L xs s s.heap) (hbl : bb < s.heap.size) (hbA : ¬ pq_A G s.heap.size bb) {a1 a2 a3 : Nat} (k1_ : pq_ok G 10 a1) (k2_ : pq_ok G 11 a2) (k3_ : pq_ok G 13 a3) {x4 : Int32} {S S1 : pq_N} {cells slots : Nat} (hc : cells + 8 ≤ 601024) (hs : slots + 48 ≤ 7293034) (h : F_L_c35 G S xs L a1 a2 a3 x4 = some S1) (kk : pq_V p l e room_1 s m av below meth c (cells + 8) (slots + 48) Q D y 9 (pq_A G s.heap.size) (fun _ => True) G S1 2770 [(0, .ref bb), (1, .ref a1), (2, .ref a2), (3, .ref a3), (4, .int x4)] []) : pq_V p l e room_1 s m av below meth c cells slots Q D y 9 (pq_A G s.heap.size) (fun _ => True) G S 2201 [(0, .ref bb), (1, .ref a1), (2, .ref a2), (3, .ref a3), (4, .int x4)] [] := by
  unfold F_L_c35 at h
  refine pv_aload_n C 1 dL_law_2201 rfl rfl ?_
  refine pv_aload_n C 0 dL_law_2202 rfl rfl ?_
  refine pv_iload C 4 dL_law_2203 rfl ?_
  refine pv_iconst (v := 1) C dL_law_2205 (by decide) ?_
  refine pv_iadd C dL_law_2206 ?_
  obtain ⟨g11, h⟩ := pq_gd h
  refine pv_sld C hXs hbl hbA g11 dL_law_2207 ?_
  refine pv_aload_n C 3 dL_law_2208 rfl rfl ?_
  obtain ⟨v12, S13, e14, h⟩ := pq_bs h
  refine pv_hcalli C (kc := 1) (ks := 6) hX [.ref a1, .int (xs (Int32.toNatClampNeg (x4 + (1 : Int32)))), .ref a3] (fun sz => r_L_ladderOf hl W0 k1_ k3_ e14 sz) (vx_cwSW 3 C.1.2.2.2.2 gL_law_L_ladderOf rfl rfl rfl (by decide +kernel) ⟨Nat.le_of_ble_eq_true rfl, Nat.le_of_ble_eq_true rfl⟩) rfl rfl (Nat.le_of_ble_eq_true rfl) dL_law_2209 ⟨Nat.le_trans (m := 601024) (by omega) (Nat.le_of_ble_eq_true rfl), Nat.le_trans (m := 7293034) (by omega) (Nat.le_of_ble_eq_true rfl)⟩ ?_
  refine pv_istore C [(5, .int v12), (0, .ref bb), (1, .ref a1), (2, .ref a2), (3, .ref a3), (4, .int x4)] dL_law_2212 (by decide) rfl ?_
  refine pv_aload_n C 3 dL_law_2214 rfl rfl ?_
  refine pv_aload_n C 1 dL_law_2215 rfl rfl ?_
  refine pv_iload C 5 dL_law_2216 rfl ?_
  refine pv_iconst (v := 1) C dL_law_2218 (by decide) ?_
  refine pv_iadd C dL_law_2219 ?_
  obtain ⟨g15, h⟩ := pq_gd h
  refine pv_sld C hXs hbl hbA g15 dL_law_2220 ?_
  obtain ⟨v16, S17, e18, h⟩ := pq_bs h
  refine pv_calliV C (ci := 11) rfl (by decide) k2_ [.int (xs (Int32.toNatClampNeg (x4 + (1 : Int32))))] (fun sz => r_X11_ladderOf W0 k2_ e18 sz) (cwV 1 C.1.2.2.2.2 gL_law_X11_ladderOf rfl rfl rfl (by decide +kernel) ⟨Nat.le_of_ble_eq_true rfl, Nat.le_of_ble_eq_true rfl⟩) rfl rfl (Nat.le_of_ble_eq_true rfl) dL_law_2221 ⟨Nat.le_trans (m := 601024) (by omega) (Nat.le_of_ble_eq_true rfl), Nat.le_trans (m := 7293034) (by omega) (Nat.le_of_ble_eq_true rfl)⟩ ?_
  refine pv_istore C [(6, .int v16), (5, .int v12), (0, .ref bb), (1, .ref a1), (2, .ref a2), (3, .ref a3), (4, .int x4)] dL_law_2224 (by decide) rfl ?_
  refine pv_aload_n C 4 dL_law_2226 rfl rfl ?_
  obtain ⟨v19, S20, e21, h⟩ := pq_bs h
  refine pv_calliV C (ci := 11) rfl (by decide) k2_ [] (fun sz => r_X11_thrown W0 k2_ e21 sz) (cwV 0 C.1.2.2.2.2 gL_law_X11_thrown rfl rfl rfl (by decide +kernel) ⟨Nat.le_of_ble_eq_true rfl, Nat.le_of_ble_eq_true rfl⟩) rfl rfl (Nat.le_of_ble_eq_true rfl) dL_law_2227 ⟨Nat.le_trans (m := 601024) (by omega) (Nat.le_of_ble_eq_true rfl), Nat.le_trans (m := 7293034) (by omega) (Nat.le_of_ble_eq_true rfl)⟩ ?_
  refine pv_iload C 1 dL_law_2230 rfl ?_
  refine pv_icmp_eq (tgt := 2237) C dL_law_2232 (by decide) (fun c22 => ?_) (fun c22 => ?_)
  · have h := pq_it c22 h
    refine pv_iload C 1 dL_law_2237 rfl ?_
    refine pv_if_ne (tgt := 2254) C dL_law_2239 (by decide) (fun c23 => ?_) (fun c23 => ?_)
    · have h := pq_if c23 h
      refine pv_goto (tgt := 2770) C dL_law_2254 (by decide) ?_
      refine pv_sub [2, 3, 4, 5, 6] rfl ?_
      cases h
      exact pv_wide (k := cells + 8) (n := slots + 48) (by omega) (by omega) kk
    · have h := pq_it c23 h
      refine pv_aload_n C 5 dL_law_2242 rfl rfl ?_
      refine pv_iconst (v := 0) C dL_law_2243 (by decide) ?_
      obtain ⟨g24, h⟩ := pq_gd h
      refine pv_laload C k3_ g24 dL_law_2244 ?_
      refine pv_iload C 0 dL_law_2245 rfl ?_
      refine pv_i2l C dL_law_2247 ?_
      refine pv_lcmp C dL_law_2248 ?_
      refine pv_if_eq (tgt := 2254) C dL_law_2249 (by decide) (fun c25 => ?_) (fun c25 => ?_)
      · have h := pq_it c25 h
        refine pv_goto (tgt := 2770) C dL_law_2254 (by decide) ?_
        refine pv_sub [2, 3, 4, 5, 6] rfl ?_
        cases h
        exact pv_wide (k := cells + 8) (n := slots + 48) (by omega) (by omega) kk
      · have h := pq_if c25 h
        cases h
  · have h := pq_if c22 h
    cases h
def F_L_c36 (G : pq_G) (S : pq_N) (xs : Nat → Int32) (L : Nat) (a1 a2 a3 : Nat) (x4 : Int32) : Option pq_N := (if (x4 + (1 : Int32)) < 0 ∨ L ≤ (Int32.toNatClampNeg (x4 + (1 : Int32))) then none else (pq_bd (F_L_laddersOf G S a1 (xs (Int32.toNatClampNeg (x4 + (1 : Int32)))) a3) fun v12 S13 => (if (x4 + (1 : Int32)) < 0 ∨ L ≤ (Int32.toNatClampNeg (x4 + (1 : Int32))) then none else (pq_bd (F_X11_laddersOf G S13 a2 (xs (Int32.toNatClampNeg (x4 + (1 : Int32))))) fun v16 S17 => (pq_bd (F_X11_thrown G S17 a2) fun v19 S20 => (if v19 = v12 then (if v12 = (0 : Int32) then (if (0 : Int32) < 0 ∨ pq_n G a3 ≤ (Int32.toNatClampNeg (0 : Int32)) then none else (if (lg_cmp (S20.2 a3 (Int32.toNatClampNeg (0 : Int32))) (Int32.toInt64 v16)) = (0 : Int32) then some S20 else none)) else some S20) else none))))))
set_option maxHeartbeats 4000000 in
set_option maxRecDepth 100000 in
theorem r_L_c36 {p : Program} {l : Launch} {e : Env} {s : State} {m : MethodId} {av : Array Value} {below : List Frame} {meth : Method} {c : Code} {Q : State → Prop} {D : va_G} {y : pq_Y} {G : pq_G} (hl : l.stackTraces = false) (W0 : pq_WT G) (C : pq_C p s m av c D y RL wsL_law cL_law 9) (hX : pq_X (pq_A G s.heap.size) s s.heap) {bb L : Nat} {xs : Nat → Int32} (hXs : va_X bb L xs s s.heap) (hbl : bb < s.heap.size) (hbA : ¬ pq_A G s.heap.size bb) {a1 a2 a3 : Nat} (k1_ : pq_ok G 10 a1) (k2_ : pq_ok G 11 a2) (k3_ : pq_ok G 13 a3) {x4 : Int32} {S S1 : pq_N} {cells slots : Nat} (hc : cells + 8 ≤ 601024) (hs : slots + 48 ≤ 7293034) (h : F_L_c36 G S xs L a1 a2 a3 x4 = some S1) (kk : pq_V p l e room_1 s m av below meth c (cells + 8) (slots + 48) Q D y 9 (pq_A G s.heap.size) (fun _ => True) G S1 2770 [(0, .ref bb), (1, .ref a1), (2, .ref a2), (3, .ref a3), (4, .int x4)] []) : pq_V p l e room_1 s m av below meth c cells slots Q D y 9 (pq_A G s.heap.size) (fun _ => True) G S 2257 [(0, .ref bb), (1, .ref a1), (2, .ref a2), (3, .ref a3), (4, .int x4)] [] := by
  unfold F_L_c36 at h
  refine pv_aload_n C 1 dL_law_2257 rfl rfl ?_
  refine pv_aload_n C 0 dL_law_2258 rfl rfl ?_
  refine pv_iload C 4 dL_law_2259 rfl ?_
  refine pv_iconst (v := 1) C dL_law_2261 (by decide) ?_
  refine pv_iadd C dL_law_2262 ?_
  obtain ⟨g11, h⟩ := pq_gd h
  refine pv_sld C hXs hbl hbA g11 dL_law_2263 ?_
  refine pv_aload_n C 3 dL_law_2264 rfl rfl ?_
  obtain ⟨v12, S13, e14, h⟩ := pq_bs h
  refine pv_hcalli C (kc := 1) (ks := 6) hX [.ref a1, .int (xs (Int32.toNatClampNeg (x4 + (1 : Int32)))), .ref a3] (fun sz => r_L_laddersOf hl W0 k1_ k3_ e14 sz) (vx_cwSW 3 C.1.2.2.2.2 gL_law_L_laddersOf rfl rfl rfl (by decide +kernel) ⟨Nat.le_of_ble_eq_true rfl, Nat.le_of_ble_eq_true rfl⟩) rfl rfl (Nat.le_of_ble_eq_true rfl) dL_law_2265 ⟨Nat.le_trans (m := 601024) (by omega) (Nat.le_of_ble_eq_true rfl), Nat.le_trans (m := 7293034) (by omega) (Nat.le_of_ble_eq_true rfl)⟩ ?_
  refine pv_istore C [(5, .int v12), (0, .ref bb), (1, .ref a1), (2, .ref a2), (3, .ref a3), (4, .int x4)] dL_law_2268 (by decide) rfl ?_
  refine pv_aload_n C 3 dL_law_2270 rfl rfl ?_
  refine pv_aload_n C 1 dL_law_2271 rfl rfl ?_
  refine pv_iload C 5 dL_law_2272 rfl ?_
  refine pv_iconst (v := 1) C dL_law_2274 (by decide) ?_
  refine pv_iadd C dL_law_2275 ?_
  obtain ⟨g15, h⟩ := pq_gd h
  refine pv_sld C hXs hbl hbA g15 dL_law_2276 ?_
  obtain ⟨v16, S17, e18, h⟩ := pq_bs h
  refine pv_calliV C (ci := 11) rfl (by decide) k2_ [.int (xs (Int32.toNatClampNeg (x4 + (1 : Int32))))] (fun sz => r_X11_laddersOf W0 k2_ e18 sz) (cwV 1 C.1.2.2.2.2 gL_law_X11_laddersOf rfl rfl rfl (by decide +kernel) ⟨Nat.le_of_ble_eq_true rfl, Nat.le_of_ble_eq_true rfl⟩) rfl rfl (Nat.le_of_ble_eq_true rfl) dL_law_2277 ⟨Nat.le_trans (m := 601024) (by omega) (Nat.le_of_ble_eq_true rfl), Nat.le_trans (m := 7293034) (by omega) (Nat.le_of_ble_eq_true rfl)⟩ ?_
  refine pv_istore C [(6, .int v16), (5, .int v12), (0, .ref bb), (1, .ref a1), (2, .ref a2), (3, .ref a3), (4, .int x4)] dL_law_2280 (by decide) rfl ?_
  refine pv_aload_n C 4 dL_law_2282 rfl rfl ?_
  obtain ⟨v19, S20, e21, h⟩ := pq_bs h
  refine pv_calliV C (ci := 11) rfl (by decide) k2_ [] (fun sz => r_X11_thrown W0 k2_ e21 sz) (cwV 0 C.1.2.2.2.2 gL_law_X11_thrown rfl rfl rfl (by decide +kernel) ⟨Nat.le_of_ble_eq_true rfl, Nat.le_of_ble_eq_true rfl⟩) rfl rfl (Nat.le_of_ble_eq_true rfl) dL_law_2283 ⟨Nat.le_trans (m := 601024) (by omega) (Nat.le_of_ble_eq_true rfl), Nat.le_trans (m := 7293034) (by omega) (Nat.le_of_ble_eq_true rfl)⟩ ?_
  refine pv_iload C 1 dL_law_2286 rfl ?_
  refine pv_icmp_eq (tgt := 2293) C dL_law_2288 (by decide) (fun c22 => ?_) (fun c22 => ?_)
  · have h := pq_it c22 h
    refine pv_iload C 1 dL_law_2293 rfl ?_
    refine pv_if_ne (tgt := 2310) C dL_law_2295 (by decide) (fun c23 => ?_) (fun c23 => ?_)
    · have h := pq_if c23 h
      refine pv_goto (tgt := 2770) C dL_law_2310 (by decide) ?_
      refine pv_sub [2, 3, 4, 5, 6] rfl ?_
      cases h
      exact pv_wide (k := cells + 8) (n := slots + 48) (by omega) (by omega) kk
    · have h := pq_it c23 h
      refine pv_aload_n C 5 dL_law_2298 rfl rfl ?_
      refine pv_iconst (v := 0) C dL_law_2299 (by decide) ?_
      obtain ⟨g24, h⟩ := pq_gd h
      refine pv_laload C k3_ g24 dL_law_2300 ?_
      refine pv_iload C 0 dL_law_2301 rfl ?_
      refine pv_i2l C dL_law_2303 ?_
      refine pv_lcmp C dL_law_2304 ?_
      refine pv_if_eq (tgt := 2310) C dL_law_2305 (by decide) (fun c25 => ?_) (fun c25 => ?_)
      · have h := pq_it c25 h
        refine pv_goto (tgt := 2770) C dL_law_2310 (by decide) ?_
        refine pv_sub [2, 3, 4, 5, 6] rfl ?_
        cases h
        exact pv_wide (k := cells + 8) (n := slots + 48) (by omega) (by omega) kk
      · have h := pq_if c25 h
        cases h
  · have h := pq_if c22 h
    cases h
def F_L_c37 (G : pq_G) (S : pq_N) (xs : Nat → Int32) (L : Nat) (a1 a2 a3 : Nat) (x4 : Int32) : Option pq_N := (if (x4 + (1 : Int32)) < 0 ∨ L ≤ (Int32.toNatClampNeg (x4 + (1 : Int32))) then none else (pq_bd (F_L_readingOf G S a1 (xs (Int32.toNatClampNeg (x4 + (1 : Int32)))) a3) fun v12 S13 => (if (x4 + (1 : Int32)) < 0 ∨ L ≤ (Int32.toNatClampNeg (x4 + (1 : Int32))) then none else (pq_bd (F_X11_readingOf G S13 a2 (xs (Int32.toNatClampNeg (x4 + (1 : Int32))))) fun v16 S17 => (pq_bd (F_X11_thrown G S17 a2) fun v19 S20 => (if v19 = v12 then (if v12 = (0 : Int32) then (if (0 : Int32) < 0 ∨ pq_n G a3 ≤ (Int32.toNatClampNeg (0 : Int32)) then none else (if (lg_cmp (S20.2 a3 (Int32.toNatClampNeg (0 : Int32))) (Int32.toInt64 v16)) = (0 : Int32) then some S20 else none)) else some S20) else none))))))
set_option maxHeartbeats 4000000 in
set_option maxRecDepth 100000 in
theorem r_L_c37 {p : Program} {l : Launch} {e : Env} {s : State} {m : MethodId} {av : Array Value} {below : List Frame} {meth : Method} {c : Code} {Q : State → Prop} {D : va_G} {y : pq_Y} {G : pq_G} (hl : l.stackTraces = false) (W0 : pq_WT G) (C : pq_C p s m av c D y RL wsL_law cL_law 9) (hX : pq_X (pq_A G s.heap.size) s s.heap) {bb L : Nat} {xs : Nat → Int32} (hXs : va_X bb L xs s s.heap) (hbl : bb < s.heap.size) (hbA : ¬ pq_A G s.heap.size bb) {a1 a2 a3 : Nat} (k1_ : pq_ok G 10 a1) (k2_ : pq_ok G 11 a2) (k3_ : pq_ok G 13 a3) {x4 : Int32} {S S1 : pq_N} {cells slots : Nat} (hc : cells + 8 ≤ 601024) (hs : slots + 48 ≤ 7293034) (h : F_L_c37 G S xs L a1 a2 a3 x4 = some S1) (kk : pq_V p l e room_1 s m av below meth c (cells + 8) (slots + 48) Q D y 9 (pq_A G s.heap.size) (fun _ => True) G S1 2770 [(0, .ref bb), (1, .ref a1), (2, .ref a2), (3, .ref a3), (4, .int x4)] []) : pq_V p l e room_1 s m av below meth c cells slots Q D y 9 (pq_A G s.heap.size) (fun _ => True) G S 2313 [(0, .ref bb), (1, .ref a1), (2, .ref a2), (3, .ref a3), (4, .int x4)] [] := by
  unfold F_L_c37 at h
  refine pv_aload_n C 1 dL_law_2313 rfl rfl ?_
  refine pv_aload_n C 0 dL_law_2314 rfl rfl ?_
  refine pv_iload C 4 dL_law_2315 rfl ?_
  refine pv_iconst (v := 1) C dL_law_2317 (by decide) ?_
  refine pv_iadd C dL_law_2318 ?_
  obtain ⟨g11, h⟩ := pq_gd h
  refine pv_sld C hXs hbl hbA g11 dL_law_2319 ?_
  refine pv_aload_n C 3 dL_law_2320 rfl rfl ?_
  obtain ⟨v12, S13, e14, h⟩ := pq_bs h
  refine pv_hcalli C (kc := 1) (ks := 6) hX [.ref a1, .int (xs (Int32.toNatClampNeg (x4 + (1 : Int32)))), .ref a3] (fun sz => r_L_readingOf hl W0 k1_ k3_ e14 sz) (vx_cwSW 3 C.1.2.2.2.2 gL_law_L_readingOf rfl rfl rfl (by decide +kernel) ⟨Nat.le_of_ble_eq_true rfl, Nat.le_of_ble_eq_true rfl⟩) rfl rfl (Nat.le_of_ble_eq_true rfl) dL_law_2321 ⟨Nat.le_trans (m := 601024) (by omega) (Nat.le_of_ble_eq_true rfl), Nat.le_trans (m := 7293034) (by omega) (Nat.le_of_ble_eq_true rfl)⟩ ?_
  refine pv_istore C [(5, .int v12), (0, .ref bb), (1, .ref a1), (2, .ref a2), (3, .ref a3), (4, .int x4)] dL_law_2324 (by decide) rfl ?_
  refine pv_aload_n C 3 dL_law_2326 rfl rfl ?_
  refine pv_aload_n C 1 dL_law_2327 rfl rfl ?_
  refine pv_iload C 5 dL_law_2328 rfl ?_
  refine pv_iconst (v := 1) C dL_law_2330 (by decide) ?_
  refine pv_iadd C dL_law_2331 ?_
  obtain ⟨g15, h⟩ := pq_gd h
  refine pv_sld C hXs hbl hbA g15 dL_law_2332 ?_
  obtain ⟨v16, S17, e18, h⟩ := pq_bs h
  refine pv_calliV C (ci := 11) rfl (by decide) k2_ [.int (xs (Int32.toNatClampNeg (x4 + (1 : Int32))))] (fun sz => r_X11_readingOf W0 k2_ e18 sz) (cwV 1 C.1.2.2.2.2 gL_law_X11_readingOf rfl rfl rfl (by decide +kernel) ⟨Nat.le_of_ble_eq_true rfl, Nat.le_of_ble_eq_true rfl⟩) rfl rfl (Nat.le_of_ble_eq_true rfl) dL_law_2333 ⟨Nat.le_trans (m := 601024) (by omega) (Nat.le_of_ble_eq_true rfl), Nat.le_trans (m := 7293034) (by omega) (Nat.le_of_ble_eq_true rfl)⟩ ?_
  refine pv_istore C [(6, .int v16), (5, .int v12), (0, .ref bb), (1, .ref a1), (2, .ref a2), (3, .ref a3), (4, .int x4)] dL_law_2336 (by decide) rfl ?_
  refine pv_aload_n C 4 dL_law_2338 rfl rfl ?_
  obtain ⟨v19, S20, e21, h⟩ := pq_bs h
  refine pv_calliV C (ci := 11) rfl (by decide) k2_ [] (fun sz => r_X11_thrown W0 k2_ e21 sz) (cwV 0 C.1.2.2.2.2 gL_law_X11_thrown rfl rfl rfl (by decide +kernel) ⟨Nat.le_of_ble_eq_true rfl, Nat.le_of_ble_eq_true rfl⟩) rfl rfl (Nat.le_of_ble_eq_true rfl) dL_law_2339 ⟨Nat.le_trans (m := 601024) (by omega) (Nat.le_of_ble_eq_true rfl), Nat.le_trans (m := 7293034) (by omega) (Nat.le_of_ble_eq_true rfl)⟩ ?_
  refine pv_iload C 1 dL_law_2342 rfl ?_
  refine pv_icmp_eq (tgt := 2349) C dL_law_2344 (by decide) (fun c22 => ?_) (fun c22 => ?_)
  · have h := pq_it c22 h
    refine pv_iload C 1 dL_law_2349 rfl ?_
    refine pv_if_ne (tgt := 2366) C dL_law_2351 (by decide) (fun c23 => ?_) (fun c23 => ?_)
    · have h := pq_if c23 h
      refine pv_goto (tgt := 2770) C dL_law_2366 (by decide) ?_
      refine pv_sub [2, 3, 4, 5, 6] rfl ?_
      cases h
      exact pv_wide (k := cells + 8) (n := slots + 48) (by omega) (by omega) kk
    · have h := pq_it c23 h
      refine pv_aload_n C 5 dL_law_2354 rfl rfl ?_
      refine pv_iconst (v := 0) C dL_law_2355 (by decide) ?_
      obtain ⟨g24, h⟩ := pq_gd h
      refine pv_laload C k3_ g24 dL_law_2356 ?_
      refine pv_iload C 0 dL_law_2357 rfl ?_
      refine pv_i2l C dL_law_2359 ?_
      refine pv_lcmp C dL_law_2360 ?_
      refine pv_if_eq (tgt := 2366) C dL_law_2361 (by decide) (fun c25 => ?_) (fun c25 => ?_)
      · have h := pq_it c25 h
        refine pv_goto (tgt := 2770) C dL_law_2366 (by decide) ?_
        refine pv_sub [2, 3, 4, 5, 6] rfl ?_
        cases h
        exact pv_wide (k := cells + 8) (n := slots + 48) (by omega) (by omega) kk
      · have h := pq_if c25 h
        cases h
  · have h := pq_if c22 h
    cases h
def F_L_c38 (G : pq_G) (S : pq_N) (xs : Nat → Int32) (L : Nat) (a1 a2 a3 : Nat) (x4 : Int32) : Option pq_N := (if (x4 + (1 : Int32)) < 0 ∨ L ≤ (Int32.toNatClampNeg (x4 + (1 : Int32))) then none else (if (x4 + (2 : Int32)) < 0 ∨ L ≤ (Int32.toNatClampNeg (x4 + (2 : Int32))) then none else (pq_bd (F_L_readAt G S a1 (xs (Int32.toNatClampNeg (x4 + (1 : Int32)))) (xs (Int32.toNatClampNeg (x4 + (2 : Int32)))) a3) fun v13 S14 => (if (x4 + (1 : Int32)) < 0 ∨ L ≤ (Int32.toNatClampNeg (x4 + (1 : Int32))) then none else (if (x4 + (2 : Int32)) < 0 ∨ L ≤ (Int32.toNatClampNeg (x4 + (2 : Int32))) then none else (pq_bd (F_X11_readAt G S14 a2 (xs (Int32.toNatClampNeg (x4 + (1 : Int32)))) (xs (Int32.toNatClampNeg (x4 + (2 : Int32))))) fun v18 S19 => (pq_bd (F_X11_thrown G S19 a2) fun v21 S22 => (if v21 = v13 then (if v13 = (0 : Int32) then (if (0 : Int32) < 0 ∨ pq_n G a3 ≤ (Int32.toNatClampNeg (0 : Int32)) then none else (if (lg_cmp (S22.2 a3 (Int32.toNatClampNeg (0 : Int32))) (Int32.toInt64 v18)) = (0 : Int32) then some S22 else none)) else some S22) else none))))))))
set_option maxHeartbeats 4000000 in
set_option maxRecDepth 100000 in
theorem r_L_c38 {p : Program} {l : Launch} {e : Env} {s : State} {m : MethodId} {av : Array Value} {below : List Frame} {meth : Method} {c : Code} {Q : State → Prop} {D : va_G} {y : pq_Y} {G : pq_G} (hl : l.stackTraces = false) (W0 : pq_WT G) (C : pq_C p s m av c D y RL wsL_law cL_law 9) (hX : pq_X (pq_A G s.heap.size) s s.heap) {bb L : Nat} {xs : Nat → Int32} (hXs : va_X bb L xs s s.heap) (hbl : bb < s.heap.size) (hbA : ¬ pq_A G s.heap.size bb) {a1 a2 a3 : Nat} (k1_ : pq_ok G 10 a1) (k2_ : pq_ok G 11 a2) (k3_ : pq_ok G 13 a3) {x4 : Int32} {S S1 : pq_N} {cells slots : Nat} (hc : cells + 8 ≤ 601024) (hs : slots + 48 ≤ 7293034) (h : F_L_c38 G S xs L a1 a2 a3 x4 = some S1) (kk : pq_V p l e room_1 s m av below meth c (cells + 8) (slots + 48) Q D y 9 (pq_A G s.heap.size) (fun _ => True) G S1 2770 [(0, .ref bb), (1, .ref a1), (2, .ref a2), (3, .ref a3), (4, .int x4)] []) : pq_V p l e room_1 s m av below meth c cells slots Q D y 9 (pq_A G s.heap.size) (fun _ => True) G S 2369 [(0, .ref bb), (1, .ref a1), (2, .ref a2), (3, .ref a3), (4, .int x4)] [] := by
  unfold F_L_c38 at h
  refine pv_aload_n C 1 dL_law_2369 rfl rfl ?_
  refine pv_aload_n C 0 dL_law_2370 rfl rfl ?_
  refine pv_iload C 4 dL_law_2371 rfl ?_
  refine pv_iconst (v := 1) C dL_law_2373 (by decide) ?_
  refine pv_iadd C dL_law_2374 ?_
  obtain ⟨g11, h⟩ := pq_gd h
  refine pv_sld C hXs hbl hbA g11 dL_law_2375 ?_
  refine pv_aload_n C 0 dL_law_2376 rfl rfl ?_
  refine pv_iload C 4 dL_law_2377 rfl ?_
  refine pv_iconst (v := 2) C dL_law_2379 (by decide) ?_
  refine pv_iadd C dL_law_2380 ?_
  obtain ⟨g12, h⟩ := pq_gd h
  refine pv_sld C hXs hbl hbA g12 dL_law_2381 ?_
  refine pv_aload_n C 3 dL_law_2382 rfl rfl ?_
  obtain ⟨v13, S14, e15, h⟩ := pq_bs h
  refine pv_hcalli C (kc := 2) (ks := 12) hX [.ref a1, .int (xs (Int32.toNatClampNeg (x4 + (1 : Int32)))), .int (xs (Int32.toNatClampNeg (x4 + (2 : Int32)))), .ref a3] (fun sz => r_L_readAt hl W0 k1_ k3_ e15 sz) (vx_cwSW 4 C.1.2.2.2.2 gL_law_L_readAt rfl rfl rfl (by decide +kernel) ⟨Nat.le_of_ble_eq_true rfl, Nat.le_of_ble_eq_true rfl⟩) rfl rfl (Nat.le_of_ble_eq_true rfl) dL_law_2383 ⟨Nat.le_trans (m := 601024) (by omega) (Nat.le_of_ble_eq_true rfl), Nat.le_trans (m := 7293034) (by omega) (Nat.le_of_ble_eq_true rfl)⟩ ?_
  refine pv_istore C [(5, .int v13), (0, .ref bb), (1, .ref a1), (2, .ref a2), (3, .ref a3), (4, .int x4)] dL_law_2386 (by decide) rfl ?_
  refine pv_aload_n C 3 dL_law_2388 rfl rfl ?_
  refine pv_aload_n C 1 dL_law_2389 rfl rfl ?_
  refine pv_iload C 5 dL_law_2390 rfl ?_
  refine pv_iconst (v := 1) C dL_law_2392 (by decide) ?_
  refine pv_iadd C dL_law_2393 ?_
  obtain ⟨g16, h⟩ := pq_gd h
  refine pv_sld C hXs hbl hbA g16 dL_law_2394 ?_
  refine pv_aload_n C 1 dL_law_2395 rfl rfl ?_
  refine pv_iload C 5 dL_law_2396 rfl ?_
  refine pv_iconst (v := 2) C dL_law_2398 (by decide) ?_
  refine pv_iadd C dL_law_2399 ?_
  obtain ⟨g17, h⟩ := pq_gd h
  refine pv_sld C hXs hbl hbA g17 dL_law_2400 ?_
  obtain ⟨v18, S19, e20, h⟩ := pq_bs h
  refine pv_calliV C (ci := 11) rfl (by decide) k2_ [.int (xs (Int32.toNatClampNeg (x4 + (1 : Int32)))), .int (xs (Int32.toNatClampNeg (x4 + (2 : Int32))))] (fun sz => r_X11_readAt W0 k2_ e20 sz) (cwV 2 C.1.2.2.2.2 gL_law_X11_readAt rfl rfl rfl (by decide +kernel) ⟨Nat.le_of_ble_eq_true rfl, Nat.le_of_ble_eq_true rfl⟩) rfl rfl (Nat.le_of_ble_eq_true rfl) dL_law_2401 ⟨Nat.le_trans (m := 601024) (by omega) (Nat.le_of_ble_eq_true rfl), Nat.le_trans (m := 7293034) (by omega) (Nat.le_of_ble_eq_true rfl)⟩ ?_
  refine pv_istore C [(6, .int v18), (5, .int v13), (0, .ref bb), (1, .ref a1), (2, .ref a2), (3, .ref a3), (4, .int x4)] dL_law_2404 (by decide) rfl ?_
  refine pv_aload_n C 4 dL_law_2406 rfl rfl ?_
  obtain ⟨v21, S22, e23, h⟩ := pq_bs h
  refine pv_calliV C (ci := 11) rfl (by decide) k2_ [] (fun sz => r_X11_thrown W0 k2_ e23 sz) (cwV 0 C.1.2.2.2.2 gL_law_X11_thrown rfl rfl rfl (by decide +kernel) ⟨Nat.le_of_ble_eq_true rfl, Nat.le_of_ble_eq_true rfl⟩) rfl rfl (Nat.le_of_ble_eq_true rfl) dL_law_2407 ⟨Nat.le_trans (m := 601024) (by omega) (Nat.le_of_ble_eq_true rfl), Nat.le_trans (m := 7293034) (by omega) (Nat.le_of_ble_eq_true rfl)⟩ ?_
  refine pv_iload C 1 dL_law_2410 rfl ?_
  refine pv_icmp_eq (tgt := 2417) C dL_law_2412 (by decide) (fun c24 => ?_) (fun c24 => ?_)
  · have h := pq_it c24 h
    refine pv_iload C 1 dL_law_2417 rfl ?_
    refine pv_if_ne (tgt := 2434) C dL_law_2419 (by decide) (fun c25 => ?_) (fun c25 => ?_)
    · have h := pq_if c25 h
      refine pv_goto (tgt := 2770) C dL_law_2434 (by decide) ?_
      refine pv_sub [2, 3, 4, 5, 6] rfl ?_
      cases h
      exact pv_wide (k := cells + 8) (n := slots + 48) (by omega) (by omega) kk
    · have h := pq_it c25 h
      refine pv_aload_n C 5 dL_law_2422 rfl rfl ?_
      refine pv_iconst (v := 0) C dL_law_2423 (by decide) ?_
      obtain ⟨g26, h⟩ := pq_gd h
      refine pv_laload C k3_ g26 dL_law_2424 ?_
      refine pv_iload C 0 dL_law_2425 rfl ?_
      refine pv_i2l C dL_law_2427 ?_
      refine pv_lcmp C dL_law_2428 ?_
      refine pv_if_eq (tgt := 2434) C dL_law_2429 (by decide) (fun c27 => ?_) (fun c27 => ?_)
      · have h := pq_it c27 h
        refine pv_goto (tgt := 2770) C dL_law_2434 (by decide) ?_
        refine pv_sub [2, 3, 4, 5, 6] rfl ?_
        cases h
        exact pv_wide (k := cells + 8) (n := slots + 48) (by omega) (by omega) kk
      · have h := pq_if c27 h
        cases h
  · have h := pq_if c24 h
    cases h
def F_L_c39 (G : pq_G) (S : pq_N) (xs : Nat → Int32) (L : Nat) (a1 a2 a3 : Nat) (x4 : Int32) : Option pq_N := (pq_bd (F_X10_glossary G S a1) fun v11 S12 => (pq_bd (F_X11_glossary G S12 a2) fun v14 S15 => (if v11 = v14 then some S15 else none)))
set_option maxHeartbeats 4000000 in
set_option maxRecDepth 100000 in
theorem r_L_c39 {p : Program} {l : Launch} {e : Env} {s : State} {m : MethodId} {av : Array Value} {below : List Frame} {meth : Method} {c : Code} {Q : State → Prop} {D : va_G} {y : pq_Y} {G : pq_G} (hl : l.stackTraces = false) (W0 : pq_WT G) (C : pq_C p s m av c D y RL wsL_law cL_law 9) (hX : pq_X (pq_A G s.heap.size) s s.heap) {bb L : Nat} {xs : Nat → Int32} (hXs : va_X bb L xs s s.heap) (hbl : bb < s.heap.size) (hbA : ¬ pq_A G s.heap.size bb) {a1 a2 a3 : Nat} (k1_ : pq_ok G 10 a1) (k2_ : pq_ok G 11 a2) (k3_ : pq_ok G 13 a3) {x4 : Int32} {S S1 : pq_N} {cells slots : Nat} (hc : cells + 8 ≤ 601024) (hs : slots + 48 ≤ 7293034) (h : F_L_c39 G S xs L a1 a2 a3 x4 = some S1) (kk : pq_V p l e room_1 s m av below meth c (cells + 8) (slots + 48) Q D y 9 (pq_A G s.heap.size) (fun _ => True) G S1 2770 [(0, .ref bb), (1, .ref a1), (2, .ref a2), (3, .ref a3), (4, .int x4)] []) : pq_V p l e room_1 s m av below meth c cells slots Q D y 9 (pq_A G s.heap.size) (fun _ => True) G S 2437 [(0, .ref bb), (1, .ref a1), (2, .ref a2), (3, .ref a3), (4, .int x4)] [] := by
  unfold F_L_c39 at h
  refine pv_aload_n C 1 dL_law_2437 rfl rfl ?_
  obtain ⟨v11, S12, e13, h⟩ := pq_bs h
  refine pv_calliV C (ci := 10) rfl (by decide) k1_ [] (fun sz => r_X10_glossary W0 k1_ e13 sz) (cwV 0 C.1.2.2.2.2 gL_law_X10_glossary rfl rfl rfl (by decide +kernel) ⟨Nat.le_of_ble_eq_true rfl, Nat.le_of_ble_eq_true rfl⟩) rfl rfl (Nat.le_of_ble_eq_true rfl) dL_law_2438 ⟨Nat.le_trans (m := 601024) (by omega) (Nat.le_of_ble_eq_true rfl), Nat.le_trans (m := 7293034) (by omega) (Nat.le_of_ble_eq_true rfl)⟩ ?_
  refine pv_aload_n C 2 dL_law_2441 rfl rfl ?_
  obtain ⟨v14, S15, e16, h⟩ := pq_bs h
  refine pv_calliV C (ci := 11) rfl (by decide) k2_ [] (fun sz => r_X11_glossary W0 k2_ e16 sz) (cwV 0 C.1.2.2.2.2 gL_law_X11_glossary rfl rfl rfl (by decide +kernel) ⟨Nat.le_of_ble_eq_true rfl, Nat.le_of_ble_eq_true rfl⟩) rfl rfl (Nat.le_of_ble_eq_true rfl) dL_law_2442 ⟨Nat.le_trans (m := 601024) (by omega) (Nat.le_of_ble_eq_true rfl), Nat.le_trans (m := 7293034) (by omega) (Nat.le_of_ble_eq_true rfl)⟩ ?_
  refine pv_icmp_eq (tgt := 2770) C dL_law_2445 (by decide) (fun c17 => ?_) (fun c17 => ?_)
  · have h := pq_it c17 h
    refine pv_sub [0, 1, 2, 3, 4] rfl ?_
    cases h
    exact pv_wide (k := cells + 8) (n := slots + 48) (by omega) (by omega) kk
  · have h := pq_if c17 h
    cases h
def F_L_c40 (G : pq_G) (S : pq_N) (xs : Nat → Int32) (L : Nat) (a1 a2 a3 : Nat) (x4 : Int32) : Option pq_N := (if (x4 + (1 : Int32)) < 0 ∨ L ≤ (Int32.toNatClampNeg (x4 + (1 : Int32))) then none else (pq_bd (F_L_timesOf G S a1 (xs (Int32.toNatClampNeg (x4 + (1 : Int32)))) a3) fun v12 S13 => (if (x4 + (1 : Int32)) < 0 ∨ L ≤ (Int32.toNatClampNeg (x4 + (1 : Int32))) then none else (pq_bd (F_X11_timesOf G S13 a2 (xs (Int32.toNatClampNeg (x4 + (1 : Int32))))) fun v16 S17 => (pq_bd (F_X11_thrown G S17 a2) fun v19 S20 => (if v19 = v12 then (if v12 = (0 : Int32) then (if (0 : Int32) < 0 ∨ pq_n G a3 ≤ (Int32.toNatClampNeg (0 : Int32)) then none else (if (lg_cmp (S20.2 a3 (Int32.toNatClampNeg (0 : Int32))) (Int32.toInt64 v16)) = (0 : Int32) then some S20 else none)) else some S20) else none))))))
set_option maxHeartbeats 4000000 in
set_option maxRecDepth 100000 in
theorem r_L_c40 {p : Program} {l : Launch} {e : Env} {s : State} {m : MethodId} {av : Array Value} {below : List Frame} {meth : Method} {c : Code} {Q : State → Prop} {D : va_G} {y : pq_Y} {G : pq_G} (hl : l.stackTraces = false) (W0 : pq_WT G) (C : pq_C p s m av c D y RL wsL_law cL_law 9) (hX : pq_X (pq_A G s.heap.size) s s.heap) {bb L : Nat} {xs : Nat → Int32} (hXs : va_X bb L xs s s.heap) (hbl : bb < s.heap.size) (hbA : ¬ pq_A G s.heap.size bb) {a1 a2 a3 : Nat} (k1_ : pq_ok G 10 a1) (k2_ : pq_ok G 11 a2) (k3_ : pq_ok G 13 a3) {x4 : Int32} {S S1 : pq_N} {cells slots : Nat} (hc : cells + 8 ≤ 601024) (hs : slots + 48 ≤ 7293034) (h : F_L_c40 G S xs L a1 a2 a3 x4 = some S1) (kk : pq_V p l e room_1 s m av below meth c (cells + 8) (slots + 48) Q D y 9 (pq_A G s.heap.size) (fun _ => True) G S1 2770 [(0, .ref bb), (1, .ref a1), (2, .ref a2), (3, .ref a3), (4, .int x4)] []) : pq_V p l e room_1 s m av below meth c cells slots Q D y 9 (pq_A G s.heap.size) (fun _ => True) G S 2450 [(0, .ref bb), (1, .ref a1), (2, .ref a2), (3, .ref a3), (4, .int x4)] [] := by
  unfold F_L_c40 at h
  refine pv_aload_n C 1 dL_law_2450 rfl rfl ?_
  refine pv_aload_n C 0 dL_law_2451 rfl rfl ?_
  refine pv_iload C 4 dL_law_2452 rfl ?_
  refine pv_iconst (v := 1) C dL_law_2454 (by decide) ?_
  refine pv_iadd C dL_law_2455 ?_
  obtain ⟨g11, h⟩ := pq_gd h
  refine pv_sld C hXs hbl hbA g11 dL_law_2456 ?_
  refine pv_aload_n C 3 dL_law_2457 rfl rfl ?_
  obtain ⟨v12, S13, e14, h⟩ := pq_bs h
  refine pv_hcalli C (kc := 1) (ks := 6) hX [.ref a1, .int (xs (Int32.toNatClampNeg (x4 + (1 : Int32)))), .ref a3] (fun sz => r_L_timesOf hl W0 k1_ k3_ e14 sz) (vx_cwSW 3 C.1.2.2.2.2 gL_law_L_timesOf rfl rfl rfl (by decide +kernel) ⟨Nat.le_of_ble_eq_true rfl, Nat.le_of_ble_eq_true rfl⟩) rfl rfl (Nat.le_of_ble_eq_true rfl) dL_law_2458 ⟨Nat.le_trans (m := 601024) (by omega) (Nat.le_of_ble_eq_true rfl), Nat.le_trans (m := 7293034) (by omega) (Nat.le_of_ble_eq_true rfl)⟩ ?_
  refine pv_istore C [(5, .int v12), (0, .ref bb), (1, .ref a1), (2, .ref a2), (3, .ref a3), (4, .int x4)] dL_law_2461 (by decide) rfl ?_
  refine pv_aload_n C 3 dL_law_2463 rfl rfl ?_
  refine pv_aload_n C 1 dL_law_2464 rfl rfl ?_
  refine pv_iload C 5 dL_law_2465 rfl ?_
  refine pv_iconst (v := 1) C dL_law_2467 (by decide) ?_
  refine pv_iadd C dL_law_2468 ?_
  obtain ⟨g15, h⟩ := pq_gd h
  refine pv_sld C hXs hbl hbA g15 dL_law_2469 ?_
  obtain ⟨v16, S17, e18, h⟩ := pq_bs h
  refine pv_calliV C (ci := 11) rfl (by decide) k2_ [.int (xs (Int32.toNatClampNeg (x4 + (1 : Int32))))] (fun sz => r_X11_timesOf W0 k2_ e18 sz) (cwV 1 C.1.2.2.2.2 gL_law_X11_timesOf rfl rfl rfl (by decide +kernel) ⟨Nat.le_of_ble_eq_true rfl, Nat.le_of_ble_eq_true rfl⟩) rfl rfl (Nat.le_of_ble_eq_true rfl) dL_law_2470 ⟨Nat.le_trans (m := 601024) (by omega) (Nat.le_of_ble_eq_true rfl), Nat.le_trans (m := 7293034) (by omega) (Nat.le_of_ble_eq_true rfl)⟩ ?_
  refine pv_istore C [(6, .int v16), (5, .int v12), (0, .ref bb), (1, .ref a1), (2, .ref a2), (3, .ref a3), (4, .int x4)] dL_law_2473 (by decide) rfl ?_
  refine pv_aload_n C 4 dL_law_2475 rfl rfl ?_
  obtain ⟨v19, S20, e21, h⟩ := pq_bs h
  refine pv_calliV C (ci := 11) rfl (by decide) k2_ [] (fun sz => r_X11_thrown W0 k2_ e21 sz) (cwV 0 C.1.2.2.2.2 gL_law_X11_thrown rfl rfl rfl (by decide +kernel) ⟨Nat.le_of_ble_eq_true rfl, Nat.le_of_ble_eq_true rfl⟩) rfl rfl (Nat.le_of_ble_eq_true rfl) dL_law_2476 ⟨Nat.le_trans (m := 601024) (by omega) (Nat.le_of_ble_eq_true rfl), Nat.le_trans (m := 7293034) (by omega) (Nat.le_of_ble_eq_true rfl)⟩ ?_
  refine pv_iload C 1 dL_law_2479 rfl ?_
  refine pv_icmp_eq (tgt := 2486) C dL_law_2481 (by decide) (fun c22 => ?_) (fun c22 => ?_)
  · have h := pq_it c22 h
    refine pv_iload C 1 dL_law_2486 rfl ?_
    refine pv_if_ne (tgt := 2503) C dL_law_2488 (by decide) (fun c23 => ?_) (fun c23 => ?_)
    · have h := pq_if c23 h
      refine pv_goto (tgt := 2770) C dL_law_2503 (by decide) ?_
      refine pv_sub [2, 3, 4, 5, 6] rfl ?_
      cases h
      exact pv_wide (k := cells + 8) (n := slots + 48) (by omega) (by omega) kk
    · have h := pq_it c23 h
      refine pv_aload_n C 5 dL_law_2491 rfl rfl ?_
      refine pv_iconst (v := 0) C dL_law_2492 (by decide) ?_
      obtain ⟨g24, h⟩ := pq_gd h
      refine pv_laload C k3_ g24 dL_law_2493 ?_
      refine pv_iload C 0 dL_law_2494 rfl ?_
      refine pv_i2l C dL_law_2496 ?_
      refine pv_lcmp C dL_law_2497 ?_
      refine pv_if_eq (tgt := 2503) C dL_law_2498 (by decide) (fun c25 => ?_) (fun c25 => ?_)
      · have h := pq_it c25 h
        refine pv_goto (tgt := 2770) C dL_law_2503 (by decide) ?_
        refine pv_sub [2, 3, 4, 5, 6] rfl ?_
        cases h
        exact pv_wide (k := cells + 8) (n := slots + 48) (by omega) (by omega) kk
      · have h := pq_if c25 h
        cases h
  · have h := pq_if c22 h
    cases h
def F_L_c41 (G : pq_G) (S : pq_N) (xs : Nat → Int32) (L : Nat) (a1 a2 a3 : Nat) (x4 : Int32) : Option pq_N := (if (x4 + (1 : Int32)) < 0 ∨ L ≤ (Int32.toNatClampNeg (x4 + (1 : Int32))) then none else (if (x4 + (2 : Int32)) < 0 ∨ L ≤ (Int32.toNatClampNeg (x4 + (2 : Int32))) then none else (pq_bd (F_L_glossaryLetter G S a1 (xs (Int32.toNatClampNeg (x4 + (1 : Int32)))) (xs (Int32.toNatClampNeg (x4 + (2 : Int32)))) a3) fun v13 S14 => (if (x4 + (1 : Int32)) < 0 ∨ L ≤ (Int32.toNatClampNeg (x4 + (1 : Int32))) then none else (if (x4 + (2 : Int32)) < 0 ∨ L ≤ (Int32.toNatClampNeg (x4 + (2 : Int32))) then none else (pq_bd (F_X11_glossaryLetter G S14 a2 (xs (Int32.toNatClampNeg (x4 + (1 : Int32)))) (xs (Int32.toNatClampNeg (x4 + (2 : Int32))))) fun v18 S19 => (pq_bd (F_X11_thrown G S19 a2) fun v21 S22 => (if v21 = v13 then (if v13 = (0 : Int32) then (if (0 : Int32) < 0 ∨ pq_n G a3 ≤ (Int32.toNatClampNeg (0 : Int32)) then none else (if (lg_cmp (S22.2 a3 (Int32.toNatClampNeg (0 : Int32))) (Int32.toInt64 v18)) = (0 : Int32) then some S22 else none)) else some S22) else none))))))))
set_option maxHeartbeats 4000000 in
set_option maxRecDepth 100000 in
theorem r_L_c41 {p : Program} {l : Launch} {e : Env} {s : State} {m : MethodId} {av : Array Value} {below : List Frame} {meth : Method} {c : Code} {Q : State → Prop} {D : va_G} {y : pq_Y} {G : pq_G} (hl : l.stackTraces = false) (W0 : pq_WT G) (C : pq_C p s m av c D y RL wsL_law cL_law 9) (hX : pq_X (pq_A G s.heap.size) s s.heap) {bb L : Nat} {xs : Nat → Int32} (hXs : va_X bb L xs s s.heap) (hbl : bb < s.heap.size) (hbA : ¬ pq_A G s.heap.size bb) {a1 a2 a3 : Nat} (k1_ : pq_ok G 10 a1) (k2_ : pq_ok G 11 a2) (k3_ : pq_ok G 13 a3) {x4 : Int32} {S S1 : pq_N} {cells slots : Nat} (hc : cells + 8 ≤ 601024) (hs : slots + 48 ≤ 7293034) (h : F_L_c41 G S xs L a1 a2 a3 x4 = some S1) (kk : pq_V p l e room_1 s m av below meth c (cells + 8) (slots + 48) Q D y 9 (pq_A G s.heap.size) (fun _ => True) G S1 2770 [(0, .ref bb), (1, .ref a1), (2, .ref a2), (3, .ref a3), (4, .int x4)] []) : pq_V p l e room_1 s m av below meth c cells slots Q D y 9 (pq_A G s.heap.size) (fun _ => True) G S 2506 [(0, .ref bb), (1, .ref a1), (2, .ref a2), (3, .ref a3), (4, .int x4)] [] := by
  unfold F_L_c41 at h
  refine pv_aload_n C 1 dL_law_2506 rfl rfl ?_
  refine pv_aload_n C 0 dL_law_2507 rfl rfl ?_
  refine pv_iload C 4 dL_law_2508 rfl ?_
  refine pv_iconst (v := 1) C dL_law_2510 (by decide) ?_
  refine pv_iadd C dL_law_2511 ?_
  obtain ⟨g11, h⟩ := pq_gd h
  refine pv_sld C hXs hbl hbA g11 dL_law_2512 ?_
  refine pv_aload_n C 0 dL_law_2513 rfl rfl ?_
  refine pv_iload C 4 dL_law_2514 rfl ?_
  refine pv_iconst (v := 2) C dL_law_2516 (by decide) ?_
  refine pv_iadd C dL_law_2517 ?_
  obtain ⟨g12, h⟩ := pq_gd h
  refine pv_sld C hXs hbl hbA g12 dL_law_2518 ?_
  refine pv_aload_n C 3 dL_law_2519 rfl rfl ?_
  obtain ⟨v13, S14, e15, h⟩ := pq_bs h
  refine pv_hcalli C (kc := 2) (ks := 12) hX [.ref a1, .int (xs (Int32.toNatClampNeg (x4 + (1 : Int32)))), .int (xs (Int32.toNatClampNeg (x4 + (2 : Int32)))), .ref a3] (fun sz => r_L_glossaryLetter hl W0 k1_ k3_ e15 sz) (vx_cwSW 4 C.1.2.2.2.2 gL_law_L_glossaryLetter rfl rfl rfl (by decide +kernel) ⟨Nat.le_of_ble_eq_true rfl, Nat.le_of_ble_eq_true rfl⟩) rfl rfl (Nat.le_of_ble_eq_true rfl) dL_law_2520 ⟨Nat.le_trans (m := 601024) (by omega) (Nat.le_of_ble_eq_true rfl), Nat.le_trans (m := 7293034) (by omega) (Nat.le_of_ble_eq_true rfl)⟩ ?_
  refine pv_istore C [(5, .int v13), (0, .ref bb), (1, .ref a1), (2, .ref a2), (3, .ref a3), (4, .int x4)] dL_law_2523 (by decide) rfl ?_
  refine pv_aload_n C 3 dL_law_2525 rfl rfl ?_
  refine pv_aload_n C 1 dL_law_2526 rfl rfl ?_
  refine pv_iload C 5 dL_law_2527 rfl ?_
  refine pv_iconst (v := 1) C dL_law_2529 (by decide) ?_
  refine pv_iadd C dL_law_2530 ?_
  obtain ⟨g16, h⟩ := pq_gd h
  refine pv_sld C hXs hbl hbA g16 dL_law_2531 ?_
  refine pv_aload_n C 1 dL_law_2532 rfl rfl ?_
  refine pv_iload C 5 dL_law_2533 rfl ?_
  refine pv_iconst (v := 2) C dL_law_2535 (by decide) ?_
  refine pv_iadd C dL_law_2536 ?_
  obtain ⟨g17, h⟩ := pq_gd h
  refine pv_sld C hXs hbl hbA g17 dL_law_2537 ?_
  obtain ⟨v18, S19, e20, h⟩ := pq_bs h
  refine pv_calliV C (ci := 11) rfl (by decide) k2_ [.int (xs (Int32.toNatClampNeg (x4 + (1 : Int32)))), .int (xs (Int32.toNatClampNeg (x4 + (2 : Int32))))] (fun sz => r_X11_glossaryLetter W0 k2_ e20 sz) (cwV 2 C.1.2.2.2.2 gL_law_X11_glossaryLetter rfl rfl rfl (by decide +kernel) ⟨Nat.le_of_ble_eq_true rfl, Nat.le_of_ble_eq_true rfl⟩) rfl rfl (Nat.le_of_ble_eq_true rfl) dL_law_2538 ⟨Nat.le_trans (m := 601024) (by omega) (Nat.le_of_ble_eq_true rfl), Nat.le_trans (m := 7293034) (by omega) (Nat.le_of_ble_eq_true rfl)⟩ ?_
  refine pv_istore C [(6, .int v18), (5, .int v13), (0, .ref bb), (1, .ref a1), (2, .ref a2), (3, .ref a3), (4, .int x4)] dL_law_2541 (by decide) rfl ?_
  refine pv_aload_n C 4 dL_law_2543 rfl rfl ?_
  obtain ⟨v21, S22, e23, h⟩ := pq_bs h
  refine pv_calliV C (ci := 11) rfl (by decide) k2_ [] (fun sz => r_X11_thrown W0 k2_ e23 sz) (cwV 0 C.1.2.2.2.2 gL_law_X11_thrown rfl rfl rfl (by decide +kernel) ⟨Nat.le_of_ble_eq_true rfl, Nat.le_of_ble_eq_true rfl⟩) rfl rfl (Nat.le_of_ble_eq_true rfl) dL_law_2544 ⟨Nat.le_trans (m := 601024) (by omega) (Nat.le_of_ble_eq_true rfl), Nat.le_trans (m := 7293034) (by omega) (Nat.le_of_ble_eq_true rfl)⟩ ?_
  refine pv_iload C 1 dL_law_2547 rfl ?_
  refine pv_icmp_eq (tgt := 2554) C dL_law_2549 (by decide) (fun c24 => ?_) (fun c24 => ?_)
  · have h := pq_it c24 h
    refine pv_iload C 1 dL_law_2554 rfl ?_
    refine pv_if_ne (tgt := 2571) C dL_law_2556 (by decide) (fun c25 => ?_) (fun c25 => ?_)
    · have h := pq_if c25 h
      refine pv_goto (tgt := 2770) C dL_law_2571 (by decide) ?_
      refine pv_sub [2, 3, 4, 5, 6] rfl ?_
      cases h
      exact pv_wide (k := cells + 8) (n := slots + 48) (by omega) (by omega) kk
    · have h := pq_it c25 h
      refine pv_aload_n C 5 dL_law_2559 rfl rfl ?_
      refine pv_iconst (v := 0) C dL_law_2560 (by decide) ?_
      obtain ⟨g26, h⟩ := pq_gd h
      refine pv_laload C k3_ g26 dL_law_2561 ?_
      refine pv_iload C 0 dL_law_2562 rfl ?_
      refine pv_i2l C dL_law_2564 ?_
      refine pv_lcmp C dL_law_2565 ?_
      refine pv_if_eq (tgt := 2571) C dL_law_2566 (by decide) (fun c27 => ?_) (fun c27 => ?_)
      · have h := pq_it c27 h
        refine pv_goto (tgt := 2770) C dL_law_2571 (by decide) ?_
        refine pv_sub [2, 3, 4, 5, 6] rfl ?_
        cases h
        exact pv_wide (k := cells + 8) (n := slots + 48) (by omega) (by omega) kk
      · have h := pq_if c27 h
        cases h
  · have h := pq_if c24 h
    cases h
def F_L_c42 (G : pq_G) (S : pq_N) (xs : Nat → Int32) (L : Nat) (a1 a2 a3 : Nat) (x4 : Int32) : Option pq_N := (if (x4 + (1 : Int32)) < 0 ∨ L ≤ (Int32.toNatClampNeg (x4 + (1 : Int32))) then none else (pq_bd (F_L_append G S a1 (xs (Int32.toNatClampNeg (x4 + (1 : Int32)))) a3) fun v12 S13 => (if (x4 + (1 : Int32)) < 0 ∨ L ≤ (Int32.toNatClampNeg (x4 + (1 : Int32))) then none else (pq_bd (F_X11_append G S13 a2 (xs (Int32.toNatClampNeg (x4 + (1 : Int32))))) fun v16 S17 => (pq_bd (F_X11_thrown G S17 a2) fun v19 S20 => (if v19 = v12 then (if v12 = (0 : Int32) then (if (0 : Int32) < 0 ∨ pq_n G a3 ≤ (Int32.toNatClampNeg (0 : Int32)) then none else (if (lg_cmp (S20.2 a3 (Int32.toNatClampNeg (0 : Int32))) (Int32.toInt64 v16)) = (0 : Int32) then some S20 else none)) else some S20) else none))))))
set_option maxHeartbeats 4000000 in
set_option maxRecDepth 100000 in
theorem r_L_c42 {p : Program} {l : Launch} {e : Env} {s : State} {m : MethodId} {av : Array Value} {below : List Frame} {meth : Method} {c : Code} {Q : State → Prop} {D : va_G} {y : pq_Y} {G : pq_G} (hl : l.stackTraces = false) (W0 : pq_WT G) (C : pq_C p s m av c D y RL wsL_law cL_law 9) (hX : pq_X (pq_A G s.heap.size) s s.heap) {bb L : Nat} {xs : Nat → Int32} (hXs : va_X bb L xs s s.heap) (hbl : bb < s.heap.size) (hbA : ¬ pq_A G s.heap.size bb) {a1 a2 a3 : Nat} (k1_ : pq_ok G 10 a1) (k2_ : pq_ok G 11 a2) (k3_ : pq_ok G 13 a3) {x4 : Int32} {S S1 : pq_N} {cells slots : Nat} (hc : cells + 8 ≤ 601024) (hs : slots + 48 ≤ 7293034) (h : F_L_c42 G S xs L a1 a2 a3 x4 = some S1) (kk : pq_V p l e room_1 s m av below meth c (cells + 8) (slots + 48) Q D y 9 (pq_A G s.heap.size) (fun _ => True) G S1 2770 [(0, .ref bb), (1, .ref a1), (2, .ref a2), (3, .ref a3), (4, .int x4)] []) : pq_V p l e room_1 s m av below meth c cells slots Q D y 9 (pq_A G s.heap.size) (fun _ => True) G S 2574 [(0, .ref bb), (1, .ref a1), (2, .ref a2), (3, .ref a3), (4, .int x4)] [] := by
  unfold F_L_c42 at h
  refine pv_aload_n C 1 dL_law_2574 rfl rfl ?_
  refine pv_aload_n C 0 dL_law_2575 rfl rfl ?_
  refine pv_iload C 4 dL_law_2576 rfl ?_
  refine pv_iconst (v := 1) C dL_law_2578 (by decide) ?_
  refine pv_iadd C dL_law_2579 ?_
  obtain ⟨g11, h⟩ := pq_gd h
  refine pv_sld C hXs hbl hbA g11 dL_law_2580 ?_
  refine pv_aload_n C 3 dL_law_2581 rfl rfl ?_
  obtain ⟨v12, S13, e14, h⟩ := pq_bs h
  refine pv_hcalli C (kc := 1) (ks := 6) hX [.ref a1, .int (xs (Int32.toNatClampNeg (x4 + (1 : Int32)))), .ref a3] (fun sz => r_L_append hl W0 k1_ k3_ e14 sz) (vx_cwSW 3 C.1.2.2.2.2 gL_law_L_append rfl rfl rfl (by decide +kernel) ⟨Nat.le_of_ble_eq_true rfl, Nat.le_of_ble_eq_true rfl⟩) rfl rfl (Nat.le_of_ble_eq_true rfl) dL_law_2582 ⟨Nat.le_trans (m := 601024) (by omega) (Nat.le_of_ble_eq_true rfl), Nat.le_trans (m := 7293034) (by omega) (Nat.le_of_ble_eq_true rfl)⟩ ?_
  refine pv_istore C [(5, .int v12), (0, .ref bb), (1, .ref a1), (2, .ref a2), (3, .ref a3), (4, .int x4)] dL_law_2585 (by decide) rfl ?_
  refine pv_aload_n C 3 dL_law_2587 rfl rfl ?_
  refine pv_aload_n C 1 dL_law_2588 rfl rfl ?_
  refine pv_iload C 5 dL_law_2589 rfl ?_
  refine pv_iconst (v := 1) C dL_law_2591 (by decide) ?_
  refine pv_iadd C dL_law_2592 ?_
  obtain ⟨g15, h⟩ := pq_gd h
  refine pv_sld C hXs hbl hbA g15 dL_law_2593 ?_
  obtain ⟨v16, S17, e18, h⟩ := pq_bs h
  refine pv_calliV C (ci := 11) rfl (by decide) k2_ [.int (xs (Int32.toNatClampNeg (x4 + (1 : Int32))))] (fun sz => r_X11_append W0 k2_ e18 sz) (cwV 1 C.1.2.2.2.2 gL_law_X11_append rfl rfl rfl (by decide +kernel) ⟨Nat.le_of_ble_eq_true rfl, Nat.le_of_ble_eq_true rfl⟩) rfl rfl (Nat.le_of_ble_eq_true rfl) dL_law_2594 ⟨Nat.le_trans (m := 601024) (by omega) (Nat.le_of_ble_eq_true rfl), Nat.le_trans (m := 7293034) (by omega) (Nat.le_of_ble_eq_true rfl)⟩ ?_
  refine pv_istore C [(6, .int v16), (5, .int v12), (0, .ref bb), (1, .ref a1), (2, .ref a2), (3, .ref a3), (4, .int x4)] dL_law_2597 (by decide) rfl ?_
  refine pv_aload_n C 4 dL_law_2599 rfl rfl ?_
  obtain ⟨v19, S20, e21, h⟩ := pq_bs h
  refine pv_calliV C (ci := 11) rfl (by decide) k2_ [] (fun sz => r_X11_thrown W0 k2_ e21 sz) (cwV 0 C.1.2.2.2.2 gL_law_X11_thrown rfl rfl rfl (by decide +kernel) ⟨Nat.le_of_ble_eq_true rfl, Nat.le_of_ble_eq_true rfl⟩) rfl rfl (Nat.le_of_ble_eq_true rfl) dL_law_2600 ⟨Nat.le_trans (m := 601024) (by omega) (Nat.le_of_ble_eq_true rfl), Nat.le_trans (m := 7293034) (by omega) (Nat.le_of_ble_eq_true rfl)⟩ ?_
  refine pv_iload C 1 dL_law_2603 rfl ?_
  refine pv_icmp_eq (tgt := 2610) C dL_law_2605 (by decide) (fun c22 => ?_) (fun c22 => ?_)
  · have h := pq_it c22 h
    refine pv_iload C 1 dL_law_2610 rfl ?_
    refine pv_if_ne (tgt := 2627) C dL_law_2612 (by decide) (fun c23 => ?_) (fun c23 => ?_)
    · have h := pq_if c23 h
      refine pv_goto (tgt := 2770) C dL_law_2627 (by decide) ?_
      refine pv_sub [2, 3, 4, 5, 6] rfl ?_
      cases h
      exact pv_wide (k := cells + 8) (n := slots + 48) (by omega) (by omega) kk
    · have h := pq_it c23 h
      refine pv_aload_n C 5 dL_law_2615 rfl rfl ?_
      refine pv_iconst (v := 0) C dL_law_2616 (by decide) ?_
      obtain ⟨g24, h⟩ := pq_gd h
      refine pv_laload C k3_ g24 dL_law_2617 ?_
      refine pv_iload C 0 dL_law_2618 rfl ?_
      refine pv_i2l C dL_law_2620 ?_
      refine pv_lcmp C dL_law_2621 ?_
      refine pv_if_eq (tgt := 2627) C dL_law_2622 (by decide) (fun c25 => ?_) (fun c25 => ?_)
      · have h := pq_it c25 h
        refine pv_goto (tgt := 2770) C dL_law_2627 (by decide) ?_
        refine pv_sub [2, 3, 4, 5, 6] rfl ?_
        cases h
        exact pv_wide (k := cells + 8) (n := slots + 48) (by omega) (by omega) kk
      · have h := pq_if c25 h
        cases h
  · have h := pq_if c22 h
    cases h
def F_L_c43 (G : pq_G) (S : pq_N) (xs : Nat → Int32) (L : Nat) (a1 a2 a3 : Nat) (x4 : Int32) : Option pq_N := (pq_bd (F_X10_clearText G S a1) fun v11 S12 => (pq_bd (F_X11_clearText G S12 a2) fun v14 S15 => (if v11 = v14 then some S15 else none)))
set_option maxHeartbeats 4000000 in
set_option maxRecDepth 100000 in
theorem r_L_c43 {p : Program} {l : Launch} {e : Env} {s : State} {m : MethodId} {av : Array Value} {below : List Frame} {meth : Method} {c : Code} {Q : State → Prop} {D : va_G} {y : pq_Y} {G : pq_G} (hl : l.stackTraces = false) (W0 : pq_WT G) (C : pq_C p s m av c D y RL wsL_law cL_law 9) (hX : pq_X (pq_A G s.heap.size) s s.heap) {bb L : Nat} {xs : Nat → Int32} (hXs : va_X bb L xs s s.heap) (hbl : bb < s.heap.size) (hbA : ¬ pq_A G s.heap.size bb) {a1 a2 a3 : Nat} (k1_ : pq_ok G 10 a1) (k2_ : pq_ok G 11 a2) (k3_ : pq_ok G 13 a3) {x4 : Int32} {S S1 : pq_N} {cells slots : Nat} (hc : cells + 8 ≤ 601024) (hs : slots + 48 ≤ 7293034) (h : F_L_c43 G S xs L a1 a2 a3 x4 = some S1) (kk : pq_V p l e room_1 s m av below meth c (cells + 8) (slots + 48) Q D y 9 (pq_A G s.heap.size) (fun _ => True) G S1 2770 [(0, .ref bb), (1, .ref a1), (2, .ref a2), (3, .ref a3), (4, .int x4)] []) : pq_V p l e room_1 s m av below meth c cells slots Q D y 9 (pq_A G s.heap.size) (fun _ => True) G S 2630 [(0, .ref bb), (1, .ref a1), (2, .ref a2), (3, .ref a3), (4, .int x4)] [] := by
  unfold F_L_c43 at h
  refine pv_aload_n C 1 dL_law_2630 rfl rfl ?_
  obtain ⟨v11, S12, e13, h⟩ := pq_bs h
  refine pv_calliV C (ci := 10) rfl (by decide) k1_ [] (fun sz => r_X10_clearText W0 k1_ e13 sz) (cwV 0 C.1.2.2.2.2 gL_law_X10_clearText rfl rfl rfl (by decide +kernel) ⟨Nat.le_of_ble_eq_true rfl, Nat.le_of_ble_eq_true rfl⟩) rfl rfl (Nat.le_of_ble_eq_true rfl) dL_law_2631 ⟨Nat.le_trans (m := 601024) (by omega) (Nat.le_of_ble_eq_true rfl), Nat.le_trans (m := 7293034) (by omega) (Nat.le_of_ble_eq_true rfl)⟩ ?_
  refine pv_aload_n C 2 dL_law_2634 rfl rfl ?_
  obtain ⟨v14, S15, e16, h⟩ := pq_bs h
  refine pv_calliV C (ci := 11) rfl (by decide) k2_ [] (fun sz => r_X11_clearText W0 k2_ e16 sz) (cwV 0 C.1.2.2.2.2 gL_law_X11_clearText rfl rfl rfl (by decide +kernel) ⟨Nat.le_of_ble_eq_true rfl, Nat.le_of_ble_eq_true rfl⟩) rfl rfl (Nat.le_of_ble_eq_true rfl) dL_law_2635 ⟨Nat.le_trans (m := 601024) (by omega) (Nat.le_of_ble_eq_true rfl), Nat.le_trans (m := 7293034) (by omega) (Nat.le_of_ble_eq_true rfl)⟩ ?_
  refine pv_icmp_eq (tgt := 2770) C dL_law_2638 (by decide) (fun c17 => ?_) (fun c17 => ?_)
  · have h := pq_it c17 h
    refine pv_sub [0, 1, 2, 3, 4] rfl ?_
    cases h
    exact pv_wide (k := cells + 8) (n := slots + 48) (by omega) (by omega) kk
  · have h := pq_if c17 h
    cases h
def F_L_c44 (G : pq_G) (S : pq_N) (xs : Nat → Int32) (L : Nat) (a1 a2 a3 : Nat) (x4 : Int32) : Option pq_N := (pq_bd (F_X10_errorPosition G S a1) fun v11 S12 => (pq_bd (F_X11_errorPosition G S12 a2) fun v14 S15 => (if v11 = v14 then some S15 else none)))
set_option maxHeartbeats 4000000 in
set_option maxRecDepth 100000 in
theorem r_L_c44 {p : Program} {l : Launch} {e : Env} {s : State} {m : MethodId} {av : Array Value} {below : List Frame} {meth : Method} {c : Code} {Q : State → Prop} {D : va_G} {y : pq_Y} {G : pq_G} (hl : l.stackTraces = false) (W0 : pq_WT G) (C : pq_C p s m av c D y RL wsL_law cL_law 9) (hX : pq_X (pq_A G s.heap.size) s s.heap) {bb L : Nat} {xs : Nat → Int32} (hXs : va_X bb L xs s s.heap) (hbl : bb < s.heap.size) (hbA : ¬ pq_A G s.heap.size bb) {a1 a2 a3 : Nat} (k1_ : pq_ok G 10 a1) (k2_ : pq_ok G 11 a2) (k3_ : pq_ok G 13 a3) {x4 : Int32} {S S1 : pq_N} {cells slots : Nat} (hc : cells + 8 ≤ 601024) (hs : slots + 48 ≤ 7293034) (h : F_L_c44 G S xs L a1 a2 a3 x4 = some S1) (kk : pq_V p l e room_1 s m av below meth c (cells + 8) (slots + 48) Q D y 9 (pq_A G s.heap.size) (fun _ => True) G S1 2770 [(0, .ref bb), (1, .ref a1), (2, .ref a2), (3, .ref a3), (4, .int x4)] []) : pq_V p l e room_1 s m av below meth c cells slots Q D y 9 (pq_A G s.heap.size) (fun _ => True) G S 2643 [(0, .ref bb), (1, .ref a1), (2, .ref a2), (3, .ref a3), (4, .int x4)] [] := by
  unfold F_L_c44 at h
  refine pv_aload_n C 1 dL_law_2643 rfl rfl ?_
  obtain ⟨v11, S12, e13, h⟩ := pq_bs h
  refine pv_calliV C (ci := 10) rfl (by decide) k1_ [] (fun sz => r_X10_errorPosition W0 k1_ e13 sz) (cwV 0 C.1.2.2.2.2 gL_law_X10_errorPosition rfl rfl rfl (by decide +kernel) ⟨Nat.le_of_ble_eq_true rfl, Nat.le_of_ble_eq_true rfl⟩) rfl rfl (Nat.le_of_ble_eq_true rfl) dL_law_2644 ⟨Nat.le_trans (m := 601024) (by omega) (Nat.le_of_ble_eq_true rfl), Nat.le_trans (m := 7293034) (by omega) (Nat.le_of_ble_eq_true rfl)⟩ ?_
  refine pv_aload_n C 2 dL_law_2647 rfl rfl ?_
  obtain ⟨v14, S15, e16, h⟩ := pq_bs h
  refine pv_calliV C (ci := 11) rfl (by decide) k2_ [] (fun sz => r_X11_errorPosition W0 k2_ e16 sz) (cwV 0 C.1.2.2.2.2 gL_law_X11_errorPosition rfl rfl rfl (by decide +kernel) ⟨Nat.le_of_ble_eq_true rfl, Nat.le_of_ble_eq_true rfl⟩) rfl rfl (Nat.le_of_ble_eq_true rfl) dL_law_2648 ⟨Nat.le_trans (m := 601024) (by omega) (Nat.le_of_ble_eq_true rfl), Nat.le_trans (m := 7293034) (by omega) (Nat.le_of_ble_eq_true rfl)⟩ ?_
  refine pv_icmp_eq (tgt := 2770) C dL_law_2651 (by decide) (fun c17 => ?_) (fun c17 => ?_)
  · have h := pq_it c17 h
    refine pv_sub [0, 1, 2, 3, 4] rfl ?_
    cases h
    exact pv_wide (k := cells + 8) (n := slots + 48) (by omega) (by omega) kk
  · have h := pq_if c17 h
    cases h
def F_L_c45 (G : pq_G) (S : pq_N) (xs : Nat → Int32) (L : Nat) (a1 a2 a3 : Nat) (x4 : Int32) : Option pq_N := (pq_bd (F_L_undo G S a1 a3) fun v11 S12 => (pq_bd (F_X11_undo G S12 a2) fun v14 S15 => (pq_bd (F_X11_thrown G S15 a2) fun v17 S18 => (if v17 = v11 then (if v11 = (0 : Int32) then (if (0 : Int32) < 0 ∨ pq_n G a3 ≤ (Int32.toNatClampNeg (0 : Int32)) then none else (if (lg_cmp (S18.2 a3 (Int32.toNatClampNeg (0 : Int32))) (Int32.toInt64 v14)) = (0 : Int32) then some S18 else none)) else some S18) else none))))
set_option maxHeartbeats 4000000 in
set_option maxRecDepth 100000 in
theorem r_L_c45 {p : Program} {l : Launch} {e : Env} {s : State} {m : MethodId} {av : Array Value} {below : List Frame} {meth : Method} {c : Code} {Q : State → Prop} {D : va_G} {y : pq_Y} {G : pq_G} (hl : l.stackTraces = false) (W0 : pq_WT G) (C : pq_C p s m av c D y RL wsL_law cL_law 9) (hX : pq_X (pq_A G s.heap.size) s s.heap) {bb L : Nat} {xs : Nat → Int32} (hXs : va_X bb L xs s s.heap) (hbl : bb < s.heap.size) (hbA : ¬ pq_A G s.heap.size bb) {a1 a2 a3 : Nat} (k1_ : pq_ok G 10 a1) (k2_ : pq_ok G 11 a2) (k3_ : pq_ok G 13 a3) {x4 : Int32} {S S1 : pq_N} {cells slots : Nat} (hc : cells + 8 ≤ 601024) (hs : slots + 48 ≤ 7293034) (h : F_L_c45 G S xs L a1 a2 a3 x4 = some S1) (kk : pq_V p l e room_1 s m av below meth c (cells + 8) (slots + 48) Q D y 9 (pq_A G s.heap.size) (fun _ => True) G S1 2770 [(0, .ref bb), (1, .ref a1), (2, .ref a2), (3, .ref a3), (4, .int x4)] []) : pq_V p l e room_1 s m av below meth c cells slots Q D y 9 (pq_A G s.heap.size) (fun _ => True) G S 2656 [(0, .ref bb), (1, .ref a1), (2, .ref a2), (3, .ref a3), (4, .int x4)] [] := by
  unfold F_L_c45 at h
  refine pv_aload_n C 1 dL_law_2656 rfl rfl ?_
  refine pv_aload_n C 3 dL_law_2657 rfl rfl ?_
  obtain ⟨v11, S12, e13, h⟩ := pq_bs h
  refine pv_hcalli C (kc := 1) (ks := 6) hX [.ref a1, .ref a3] (fun sz => r_L_undo hl W0 k1_ k3_ e13 sz) (vx_cwSW 2 C.1.2.2.2.2 gL_law_L_undo rfl rfl rfl (by decide +kernel) ⟨Nat.le_of_ble_eq_true rfl, Nat.le_of_ble_eq_true rfl⟩) rfl rfl (Nat.le_of_ble_eq_true rfl) dL_law_2658 ⟨Nat.le_trans (m := 601024) (by omega) (Nat.le_of_ble_eq_true rfl), Nat.le_trans (m := 7293034) (by omega) (Nat.le_of_ble_eq_true rfl)⟩ ?_
  refine pv_istore C [(5, .int v11), (0, .ref bb), (1, .ref a1), (2, .ref a2), (3, .ref a3), (4, .int x4)] dL_law_2661 (by decide) rfl ?_
  refine pv_aload_n C 3 dL_law_2663 rfl rfl ?_
  obtain ⟨v14, S15, e16, h⟩ := pq_bs h
  refine pv_calliV C (ci := 11) rfl (by decide) k2_ [] (fun sz => r_X11_undo W0 k2_ e16 sz) (cwV 0 C.1.2.2.2.2 gL_law_X11_undo rfl rfl rfl (by decide +kernel) ⟨Nat.le_of_ble_eq_true rfl, Nat.le_of_ble_eq_true rfl⟩) rfl rfl (Nat.le_of_ble_eq_true rfl) dL_law_2664 ⟨Nat.le_trans (m := 601024) (by omega) (Nat.le_of_ble_eq_true rfl), Nat.le_trans (m := 7293034) (by omega) (Nat.le_of_ble_eq_true rfl)⟩ ?_
  refine pv_istore C [(6, .int v14), (5, .int v11), (0, .ref bb), (1, .ref a1), (2, .ref a2), (3, .ref a3), (4, .int x4)] dL_law_2667 (by decide) rfl ?_
  refine pv_aload_n C 4 dL_law_2669 rfl rfl ?_
  obtain ⟨v17, S18, e19, h⟩ := pq_bs h
  refine pv_calliV C (ci := 11) rfl (by decide) k2_ [] (fun sz => r_X11_thrown W0 k2_ e19 sz) (cwV 0 C.1.2.2.2.2 gL_law_X11_thrown rfl rfl rfl (by decide +kernel) ⟨Nat.le_of_ble_eq_true rfl, Nat.le_of_ble_eq_true rfl⟩) rfl rfl (Nat.le_of_ble_eq_true rfl) dL_law_2670 ⟨Nat.le_trans (m := 601024) (by omega) (Nat.le_of_ble_eq_true rfl), Nat.le_trans (m := 7293034) (by omega) (Nat.le_of_ble_eq_true rfl)⟩ ?_
  refine pv_iload C 1 dL_law_2673 rfl ?_
  refine pv_icmp_eq (tgt := 2680) C dL_law_2675 (by decide) (fun c20 => ?_) (fun c20 => ?_)
  · have h := pq_it c20 h
    refine pv_iload C 1 dL_law_2680 rfl ?_
    refine pv_if_ne (tgt := 2697) C dL_law_2682 (by decide) (fun c21 => ?_) (fun c21 => ?_)
    · have h := pq_if c21 h
      refine pv_goto (tgt := 2770) C dL_law_2697 (by decide) ?_
      refine pv_sub [2, 3, 4, 5, 6] rfl ?_
      cases h
      exact pv_wide (k := cells + 8) (n := slots + 48) (by omega) (by omega) kk
    · have h := pq_it c21 h
      refine pv_aload_n C 5 dL_law_2685 rfl rfl ?_
      refine pv_iconst (v := 0) C dL_law_2686 (by decide) ?_
      obtain ⟨g22, h⟩ := pq_gd h
      refine pv_laload C k3_ g22 dL_law_2687 ?_
      refine pv_iload C 0 dL_law_2688 rfl ?_
      refine pv_i2l C dL_law_2690 ?_
      refine pv_lcmp C dL_law_2691 ?_
      refine pv_if_eq (tgt := 2697) C dL_law_2692 (by decide) (fun c23 => ?_) (fun c23 => ?_)
      · have h := pq_it c23 h
        refine pv_goto (tgt := 2770) C dL_law_2697 (by decide) ?_
        refine pv_sub [2, 3, 4, 5, 6] rfl ?_
        cases h
        exact pv_wide (k := cells + 8) (n := slots + 48) (by omega) (by omega) kk
      · have h := pq_if c23 h
        cases h
  · have h := pq_if c20 h
    cases h
def F_L_c46 (G : pq_G) (S : pq_N) (xs : Nat → Int32) (L : Nat) (a1 a2 a3 : Nat) (x4 : Int32) : Option pq_N := (pq_bd (F_X10_savedStates G S a1) fun v11 S12 => (pq_bd (F_X11_savedStates G S12 a2) fun v14 S15 => (if v11 = v14 then some S15 else none)))
set_option maxHeartbeats 4000000 in
set_option maxRecDepth 100000 in
theorem r_L_c46 {p : Program} {l : Launch} {e : Env} {s : State} {m : MethodId} {av : Array Value} {below : List Frame} {meth : Method} {c : Code} {Q : State → Prop} {D : va_G} {y : pq_Y} {G : pq_G} (hl : l.stackTraces = false) (W0 : pq_WT G) (C : pq_C p s m av c D y RL wsL_law cL_law 9) (hX : pq_X (pq_A G s.heap.size) s s.heap) {bb L : Nat} {xs : Nat → Int32} (hXs : va_X bb L xs s s.heap) (hbl : bb < s.heap.size) (hbA : ¬ pq_A G s.heap.size bb) {a1 a2 a3 : Nat} (k1_ : pq_ok G 10 a1) (k2_ : pq_ok G 11 a2) (k3_ : pq_ok G 13 a3) {x4 : Int32} {S S1 : pq_N} {cells slots : Nat} (hc : cells + 8 ≤ 601024) (hs : slots + 48 ≤ 7293034) (h : F_L_c46 G S xs L a1 a2 a3 x4 = some S1) (kk : pq_V p l e room_1 s m av below meth c (cells + 8) (slots + 48) Q D y 9 (pq_A G s.heap.size) (fun _ => True) G S1 2770 [(0, .ref bb), (1, .ref a1), (2, .ref a2), (3, .ref a3), (4, .int x4)] []) : pq_V p l e room_1 s m av below meth c cells slots Q D y 9 (pq_A G s.heap.size) (fun _ => True) G S 2700 [(0, .ref bb), (1, .ref a1), (2, .ref a2), (3, .ref a3), (4, .int x4)] [] := by
  unfold F_L_c46 at h
  refine pv_aload_n C 1 dL_law_2700 rfl rfl ?_
  obtain ⟨v11, S12, e13, h⟩ := pq_bs h
  refine pv_calliV C (ci := 10) rfl (by decide) k1_ [] (fun sz => r_X10_savedStates W0 k1_ e13 sz) (cwV 0 C.1.2.2.2.2 gL_law_X10_savedStates rfl rfl rfl (by decide +kernel) ⟨Nat.le_of_ble_eq_true rfl, Nat.le_of_ble_eq_true rfl⟩) rfl rfl (Nat.le_of_ble_eq_true rfl) dL_law_2701 ⟨Nat.le_trans (m := 601024) (by omega) (Nat.le_of_ble_eq_true rfl), Nat.le_trans (m := 7293034) (by omega) (Nat.le_of_ble_eq_true rfl)⟩ ?_
  refine pv_aload_n C 2 dL_law_2704 rfl rfl ?_
  obtain ⟨v14, S15, e16, h⟩ := pq_bs h
  refine pv_calliV C (ci := 11) rfl (by decide) k2_ [] (fun sz => r_X11_savedStates W0 k2_ e16 sz) (cwV 0 C.1.2.2.2.2 gL_law_X11_savedStates rfl rfl rfl (by decide +kernel) ⟨Nat.le_of_ble_eq_true rfl, Nat.le_of_ble_eq_true rfl⟩) rfl rfl (Nat.le_of_ble_eq_true rfl) dL_law_2705 ⟨Nat.le_trans (m := 601024) (by omega) (Nat.le_of_ble_eq_true rfl), Nat.le_trans (m := 7293034) (by omega) (Nat.le_of_ble_eq_true rfl)⟩ ?_
  refine pv_icmp_eq (tgt := 2770) C dL_law_2708 (by decide) (fun c17 => ?_) (fun c17 => ?_)
  · have h := pq_it c17 h
    refine pv_sub [0, 1, 2, 3, 4] rfl ?_
    cases h
    exact pv_wide (k := cells + 8) (n := slots + 48) (by omega) (by omega) kk
  · have h := pq_if c17 h
    cases h
def F_L_c47 (G : pq_G) (S : pq_N) (xs : Nat → Int32) (L : Nat) (a1 a2 a3 : Nat) (x4 : Int32) : Option pq_N := (pq_bd (F_X10_takeSnapshot G S a1) fun v11 S12 => (pq_bd (F_X11_takeSnapshot G S12 a2) fun v14 S15 => (if v11 = v14 then some S15 else none)))
set_option maxHeartbeats 4000000 in
set_option maxRecDepth 100000 in
theorem r_L_c47 {p : Program} {l : Launch} {e : Env} {s : State} {m : MethodId} {av : Array Value} {below : List Frame} {meth : Method} {c : Code} {Q : State → Prop} {D : va_G} {y : pq_Y} {G : pq_G} (hl : l.stackTraces = false) (W0 : pq_WT G) (C : pq_C p s m av c D y RL wsL_law cL_law 9) (hX : pq_X (pq_A G s.heap.size) s s.heap) {bb L : Nat} {xs : Nat → Int32} (hXs : va_X bb L xs s s.heap) (hbl : bb < s.heap.size) (hbA : ¬ pq_A G s.heap.size bb) {a1 a2 a3 : Nat} (k1_ : pq_ok G 10 a1) (k2_ : pq_ok G 11 a2) (k3_ : pq_ok G 13 a3) {x4 : Int32} {S S1 : pq_N} {cells slots : Nat} (hc : cells + 8 ≤ 601024) (hs : slots + 48 ≤ 7293034) (h : F_L_c47 G S xs L a1 a2 a3 x4 = some S1) (kk : pq_V p l e room_1 s m av below meth c (cells + 8) (slots + 48) Q D y 9 (pq_A G s.heap.size) (fun _ => True) G S1 2770 [(0, .ref bb), (1, .ref a1), (2, .ref a2), (3, .ref a3), (4, .int x4)] []) : pq_V p l e room_1 s m av below meth c cells slots Q D y 9 (pq_A G s.heap.size) (fun _ => True) G S 2713 [(0, .ref bb), (1, .ref a1), (2, .ref a2), (3, .ref a3), (4, .int x4)] [] := by
  unfold F_L_c47 at h
  refine pv_aload_n C 1 dL_law_2713 rfl rfl ?_
  obtain ⟨v11, S12, e13, h⟩ := pq_bs h
  refine pv_calliV C (ci := 10) rfl (by decide) k1_ [] (fun sz => r_X10_takeSnapshot W0 k1_ e13 sz) (cwV 0 C.1.2.2.2.2 gL_law_X10_takeSnapshot rfl rfl rfl (by decide +kernel) ⟨Nat.le_of_ble_eq_true rfl, Nat.le_of_ble_eq_true rfl⟩) rfl rfl (Nat.le_of_ble_eq_true rfl) dL_law_2714 ⟨Nat.le_trans (m := 601024) (by omega) (Nat.le_of_ble_eq_true rfl), Nat.le_trans (m := 7293034) (by omega) (Nat.le_of_ble_eq_true rfl)⟩ ?_
  refine pv_aload_n C 2 dL_law_2717 rfl rfl ?_
  obtain ⟨v14, S15, e16, h⟩ := pq_bs h
  refine pv_calliV C (ci := 11) rfl (by decide) k2_ [] (fun sz => r_X11_takeSnapshot W0 k2_ e16 sz) (cwV 0 C.1.2.2.2.2 gL_law_X11_takeSnapshot rfl rfl rfl (by decide +kernel) ⟨Nat.le_of_ble_eq_true rfl, Nat.le_of_ble_eq_true rfl⟩) rfl rfl (Nat.le_of_ble_eq_true rfl) dL_law_2718 ⟨Nat.le_trans (m := 601024) (by omega) (Nat.le_of_ble_eq_true rfl), Nat.le_trans (m := 7293034) (by omega) (Nat.le_of_ble_eq_true rfl)⟩ ?_
  refine pv_icmp_eq (tgt := 2770) C dL_law_2721 (by decide) (fun c17 => ?_) (fun c17 => ?_)
  · have h := pq_it c17 h
    refine pv_sub [0, 1, 2, 3, 4] rfl ?_
    cases h
    exact pv_wide (k := cells + 8) (n := slots + 48) (by omega) (by omega) kk
  · have h := pq_if c17 h
    cases h
def F_L_c48 (G : pq_G) (S : pq_N) (xs : Nat → Int32) (L : Nat) (a1 a2 a3 : Nat) (x4 : Int32) : Option pq_N := (pq_bd (F_L_restoreSnapshot G S a1 a3) fun v11 S12 => (pq_bd (F_X11_restoreSnapshot G S12 a2) fun v14 S15 => (pq_bd (F_X11_thrown G S15 a2) fun v17 S18 => (if v17 = v11 then (if v11 = (0 : Int32) then (if (0 : Int32) < 0 ∨ pq_n G a3 ≤ (Int32.toNatClampNeg (0 : Int32)) then none else (if (lg_cmp (S18.2 a3 (Int32.toNatClampNeg (0 : Int32))) (Int32.toInt64 v14)) = (0 : Int32) then some S18 else none)) else some S18) else none))))
set_option maxHeartbeats 4000000 in
set_option maxRecDepth 100000 in
theorem r_L_c48 {p : Program} {l : Launch} {e : Env} {s : State} {m : MethodId} {av : Array Value} {below : List Frame} {meth : Method} {c : Code} {Q : State → Prop} {D : va_G} {y : pq_Y} {G : pq_G} (hl : l.stackTraces = false) (W0 : pq_WT G) (C : pq_C p s m av c D y RL wsL_law cL_law 9) (hX : pq_X (pq_A G s.heap.size) s s.heap) {bb L : Nat} {xs : Nat → Int32} (hXs : va_X bb L xs s s.heap) (hbl : bb < s.heap.size) (hbA : ¬ pq_A G s.heap.size bb) {a1 a2 a3 : Nat} (k1_ : pq_ok G 10 a1) (k2_ : pq_ok G 11 a2) (k3_ : pq_ok G 13 a3) {x4 : Int32} {S S1 : pq_N} {cells slots : Nat} (hc : cells + 8 ≤ 601024) (hs : slots + 48 ≤ 7293034) (h : F_L_c48 G S xs L a1 a2 a3 x4 = some S1) (kk : pq_V p l e room_1 s m av below meth c (cells + 8) (slots + 48) Q D y 9 (pq_A G s.heap.size) (fun _ => True) G S1 2770 [(0, .ref bb), (1, .ref a1), (2, .ref a2), (3, .ref a3), (4, .int x4)] []) : pq_V p l e room_1 s m av below meth c cells slots Q D y 9 (pq_A G s.heap.size) (fun _ => True) G S 2726 [(0, .ref bb), (1, .ref a1), (2, .ref a2), (3, .ref a3), (4, .int x4)] [] := by
  unfold F_L_c48 at h
  refine pv_aload_n C 1 dL_law_2726 rfl rfl ?_
  refine pv_aload_n C 3 dL_law_2727 rfl rfl ?_
  obtain ⟨v11, S12, e13, h⟩ := pq_bs h
  refine pv_hcalli C (kc := 1) (ks := 6) hX [.ref a1, .ref a3] (fun sz => r_L_restoreSnapshot hl W0 k1_ k3_ e13 sz) (vx_cwSW 2 C.1.2.2.2.2 gL_law_L_restoreSnapshot rfl rfl rfl (by decide +kernel) ⟨Nat.le_of_ble_eq_true rfl, Nat.le_of_ble_eq_true rfl⟩) rfl rfl (Nat.le_of_ble_eq_true rfl) dL_law_2728 ⟨Nat.le_trans (m := 601024) (by omega) (Nat.le_of_ble_eq_true rfl), Nat.le_trans (m := 7293034) (by omega) (Nat.le_of_ble_eq_true rfl)⟩ ?_
  refine pv_istore C [(5, .int v11), (0, .ref bb), (1, .ref a1), (2, .ref a2), (3, .ref a3), (4, .int x4)] dL_law_2731 (by decide) rfl ?_
  refine pv_aload_n C 3 dL_law_2733 rfl rfl ?_
  obtain ⟨v14, S15, e16, h⟩ := pq_bs h
  refine pv_calliV C (ci := 11) rfl (by decide) k2_ [] (fun sz => r_X11_restoreSnapshot W0 k2_ e16 sz) (cwV 0 C.1.2.2.2.2 gL_law_X11_restoreSnapshot rfl rfl rfl (by decide +kernel) ⟨Nat.le_of_ble_eq_true rfl, Nat.le_of_ble_eq_true rfl⟩) rfl rfl (Nat.le_of_ble_eq_true rfl) dL_law_2734 ⟨Nat.le_trans (m := 601024) (by omega) (Nat.le_of_ble_eq_true rfl), Nat.le_trans (m := 7293034) (by omega) (Nat.le_of_ble_eq_true rfl)⟩ ?_
  refine pv_istore C [(6, .int v14), (5, .int v11), (0, .ref bb), (1, .ref a1), (2, .ref a2), (3, .ref a3), (4, .int x4)] dL_law_2737 (by decide) rfl ?_
  refine pv_aload_n C 4 dL_law_2739 rfl rfl ?_
  obtain ⟨v17, S18, e19, h⟩ := pq_bs h
  refine pv_calliV C (ci := 11) rfl (by decide) k2_ [] (fun sz => r_X11_thrown W0 k2_ e19 sz) (cwV 0 C.1.2.2.2.2 gL_law_X11_thrown rfl rfl rfl (by decide +kernel) ⟨Nat.le_of_ble_eq_true rfl, Nat.le_of_ble_eq_true rfl⟩) rfl rfl (Nat.le_of_ble_eq_true rfl) dL_law_2740 ⟨Nat.le_trans (m := 601024) (by omega) (Nat.le_of_ble_eq_true rfl), Nat.le_trans (m := 7293034) (by omega) (Nat.le_of_ble_eq_true rfl)⟩ ?_
  refine pv_iload C 1 dL_law_2743 rfl ?_
  refine pv_icmp_eq (tgt := 2750) C dL_law_2745 (by decide) (fun c20 => ?_) (fun c20 => ?_)
  · have h := pq_it c20 h
    refine pv_iload C 1 dL_law_2750 rfl ?_
    refine pv_if_ne (tgt := 2767) C dL_law_2752 (by decide) (fun c21 => ?_) (fun c21 => ?_)
    · have h := pq_if c21 h
      refine pv_goto (tgt := 2770) C dL_law_2767 (by decide) ?_
      refine pv_sub [2, 3, 4, 5, 6] rfl ?_
      cases h
      exact pv_wide (k := cells + 8) (n := slots + 48) (by omega) (by omega) kk
    · have h := pq_it c21 h
      refine pv_aload_n C 5 dL_law_2755 rfl rfl ?_
      refine pv_iconst (v := 0) C dL_law_2756 (by decide) ?_
      obtain ⟨g22, h⟩ := pq_gd h
      refine pv_laload C k3_ g22 dL_law_2757 ?_
      refine pv_iload C 0 dL_law_2758 rfl ?_
      refine pv_i2l C dL_law_2760 ?_
      refine pv_lcmp C dL_law_2761 ?_
      refine pv_if_eq (tgt := 2767) C dL_law_2762 (by decide) (fun c23 => ?_) (fun c23 => ?_)
      · have h := pq_it c23 h
        refine pv_goto (tgt := 2770) C dL_law_2767 (by decide) ?_
        refine pv_sub [2, 3, 4, 5, 6] rfl ?_
        cases h
        exact pv_wide (k := cells + 8) (n := slots + 48) (by omega) (by omega) kk
      · have h := pq_if c23 h
        cases h
  · have h := pq_if c20 h
    cases h
