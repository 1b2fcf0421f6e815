def F_L_low (G : pq_G) (S : pq_N) (x0 : Int32) (x1 : Int32) : Option (Int32 × pq_N) := (if x1 = 0 then none else some (((x0 &&& (2147483647 : Int32)) - (x0 &&& (2147483647 : Int32)) / x1 * x1), S))
set_option maxHeartbeats 4000000 in
set_option maxRecDepth 100000 in
theorem r_L_low {l : Launch} {D : va_G} {y : pq_Y} {G : pq_G} (W0 : pq_WT G) {S : pq_N} {x0 : Int32} {x1 : Int32}  {r : Int32} {S1 : pq_N} (h : F_L_low G S x0 x1 = some (r, S1)) (sz : Nat) : Met l yL_low wsL_low ({ frames := 0, cells := 0, slots := 0, locals := 0 } : Room) (pq_P D y G S sz [.int x0, .int x1]) (pq_Qi D y G sz r S1) 0 0 (pq_A G sz) := by
  refine pq_enter RL 2 (by decide) rfl rfl rfl ?_
  intro p e s m below meth c C hsz hr hlk
  subst hsz
  unfold F_L_low at h
  refine pv_sub (lo1 := [(0, .int x0), (1, .int x1)]) [0, 1] rfl ?_
  refine pv_iload_n C 0 dL_low_0 rfl rfl ?_
  refine pv_ldc C (List.mem_of_getElem? (i := 1) rfl) dL_low_1 ?_
  refine pv_iand C dL_low_3 ?_
  refine pv_iload_n C 1 dL_low_4 rfl rfl ?_
  obtain ⟨g11, h⟩ := pq_gd h
  refine pv_irem C dL_low_5 g11 ?_
  exact pv_iret C hr hlk h dL_low_6
def F_L_isQuotation_b447 (G : pq_G)  (S : pq_N) (a0 : Nat) (x1 : Int32) (x2 : Int32) (x5 : Int32) (x6 : Int32) (x10 : Int32) : Option (Int32 × pq_N) := (pq_bd (E_X10_changesAtOrigin G S a0 x1 x2) fun v119 S120 => (if x5 < v119 then some ((0 : Int32), S120) else (if (1 : Int32) < x10 then some ((1 : Int32), S120) else (pq_bd (E_X10_changesAtOrigin G S120 a0 x1 x2) fun v124 S125 => (if v124 = x6 then some ((1 : Int32), S125) else some ((0 : Int32), S125))))))
def F_L_isQuotation_b406 (G : pq_G)  (S : pq_N) (a0 : Nat) (x1 : Int32) (x2 : Int32) (x3 : Int32) (x5 : Int32) (x6 : Int32) (x9 : Int32) (x10 : Int32) (x11 : Int32) (t0 : Int32) (t1 : Int32) : Option (Int32 × pq_N) := (if t1 = t0 then (if x3 < x11 then some ((0 : Int32), S) else (if x9 = (-1 : Int32) then F_L_isQuotation_b447 G S a0 x1 x2 x5 x6 x10 else (pq_bd (E_X10_traceOf G S a0 x3 x9) fun v111 S112 => (if x10 = (v111 + (1 : Int32)) then (pq_bd (E_X10_originOf G S112 a0 x3 x9) fun v115 S116 => (if x11 = v115 then F_L_isQuotation_b447 G S116 a0 x1 x2 x5 x6 x10 else some ((0 : Int32), S116))) else some ((0 : Int32), S112))))) else some ((0 : Int32), S))
def F_L_isQuotation_b381 (G : pq_G)  (S : pq_N) (a0 : Nat) (x1 : Int32) (x2 : Int32) (x3 : Int32) (x5 : Int32) (x6 : Int32) (x9 : Int32) (x10 : Int32) (x11 : Int32) (t0 : Int32) (t1 : Int32) : Option (Int32 × pq_N) := (if t1 = t0 then (if x11 = x3 then (if x10 = (1 : Int32) then F_L_isQuotation_b406 G S a0 x1 x2 x3 x5 x6 x9 x10 x11 (1 : Int32) (1 : Int32) else F_L_isQuotation_b406 G S a0 x1 x2 x3 x5 x6 x9 x10 x11 (0 : Int32) (1 : Int32)) else (if x10 = (1 : Int32) then F_L_isQuotation_b406 G S a0 x1 x2 x3 x5 x6 x9 x10 x11 (1 : Int32) (0 : Int32) else F_L_isQuotation_b406 G S a0 x1 x2 x3 x5 x6 x9 x10 x11 (0 : Int32) (0 : Int32))) else some ((0 : Int32), S))
def F_L_isQuotation_b356 (G : pq_G)  (S : pq_N) (a0 : Nat) (x1 : Int32) (x2 : Int32) (x3 : Int32) (x5 : Int32) (x6 : Int32) (x9 : Int32) (x10 : Int32) (x11 : Int32) (t0 : Int32) (t1 : Int32) : Option (Int32 × pq_N) := (if t1 = t0 then (if x10 = (1 : Int32) then (if x9 = (-1 : Int32) then F_L_isQuotation_b381 G S a0 x1 x2 x3 x5 x6 x9 x10 x11 (1 : Int32) (1 : Int32) else F_L_isQuotation_b381 G S a0 x1 x2 x3 x5 x6 x9 x10 x11 (0 : Int32) (1 : Int32)) else (if x9 = (-1 : Int32) then F_L_isQuotation_b381 G S a0 x1 x2 x3 x5 x6 x9 x10 x11 (1 : Int32) (0 : Int32) else F_L_isQuotation_b381 G S a0 x1 x2 x3 x5 x6 x9 x10 x11 (0 : Int32) (0 : Int32))) else some ((0 : Int32), S))
def F_L_isQuotation_b327 (G : pq_G)  (S : pq_N) (a0 : Nat) (x1 : Int32) (x2 : Int32) (x3 : Int32) (x5 : Int32) (x6 : Int32) (x9 : Int32) (x10 : Int32) (x11 : Int32) (x12 : Int32) (x13 : Int32) (x14 : Int32) (t0 : Int32) : Option (Int32 × pq_N) := (if x13 = (0 : Int32) then some ((0 : Int32), S) else (if x14 = (0 : Int32) then some ((0 : Int32), S) else (if t0 = (0 : Int32) then some ((0 : Int32), S) else (if x6 = (0 : Int32) then F_L_isQuotation_b356 G S a0 x1 x2 x3 x5 x6 x9 x10 x11 (1 : Int32) x12 else F_L_isQuotation_b356 G S a0 x1 x2 x3 x5 x6 x9 x10 x11 (0 : Int32) x12))))
def F_L_isQuotation_b295 (G : pq_G)  (S : pq_N) (a0 : Nat) (x1 : Int32) (x2 : Int32) (x3 : Int32) (x5 : Int32) (x6 : Int32) (x8 : Int32) (x9 : Int32) (x10 : Int32) (x11 : Int32) (x12 : Int32) (x13 : Int32) (t0 : Int32) : Option (Int32 × pq_N) := (if x5 ≤ x8 then (if x6 < (x8 - x5) then F_L_isQuotation_b327 G S a0 x1 x2 x3 x5 x6 x9 x10 x11 x12 x13 t0 (0 : Int32) else F_L_isQuotation_b327 G S a0 x1 x2 x3 x5 x6 x9 x10 x11 x12 x13 t0 (1 : Int32)) else (if x6 < (x5 - x8) then F_L_isQuotation_b327 G S a0 x1 x2 x3 x5 x6 x9 x10 x11 x12 x13 t0 (0 : Int32) else F_L_isQuotation_b327 G S a0 x1 x2 x3 x5 x6 x9 x10 x11 x12 x13 t0 (1 : Int32)))
def F_L_isQuotation_b260 (G : pq_G)  (S : pq_N) (a0 : Nat) (x1 : Int32) (x2 : Int32) (x3 : Int32) (x5 : Int32) (x6 : Int32) (x7 : Int32) (x8 : Int32) (x9 : Int32) (x10 : Int32) (x11 : Int32) (x12 : Int32) (t0 : Int32) : Option (Int32 × pq_N) := (pq_bd (E_X10_pageOf G S a0 x1 x2) fun v82 S83 => (if v82 = (x7 / (8 : Int32)) then (pq_bd (E_X10_pageOf G S83 a0 x1 x2) fun v86 S87 => (pq_bd (E_X10_wordsOn G S87 a0 x3 v86) fun v89 S90 => (if v89 ≤ (0 : Int32) then F_L_isQuotation_b295 G S90 a0 x1 x2 x3 x5 x6 x8 x9 x10 x11 x12 t0 (0 : Int32) else F_L_isQuotation_b295 G S90 a0 x1 x2 x3 x5 x6 x8 x9 x10 x11 x12 t0 (1 : Int32)))) else F_L_isQuotation_b295 G S83 a0 x1 x2 x3 x5 x6 x8 x9 x10 x11 x12 t0 (0 : Int32)))
def F_L_isQuotation_b214 (G : pq_G)  (S : pq_N) (a0 : Nat) (x1 : Int32) (x2 : Int32) (x3 : Int32) (x5 : Int32) (x6 : Int32) (x7 : Int32) (x8 : Int32) (x9 : Int32) (x10 : Int32) (x11 : Int32) (x12 : Int32) : Option (Int32 × pq_N) := (if x9 = (-1 : Int32) then F_L_isQuotation_b260 G S a0 x1 x2 x3 x5 x6 x7 x8 x9 x10 x11 x12 (1 : Int32) else (pq_bd (E_X10_beginOf G S a0 x3 x9) fun v71 S72 => (if x7 < v71 then F_L_isQuotation_b260 G S72 a0 x1 x2 x3 x5 x6 x7 x8 x9 x10 x11 x12 (0 : Int32) else (pq_bd (E_X10_beginOf G S72 a0 x3 x9) fun v75 S76 => (pq_bd (E_X10_lengthOf G S76 a0 x3 x9) fun v78 S79 => (if (v75 + v78) < (x7 + x8) then F_L_isQuotation_b260 G S79 a0 x1 x2 x3 x5 x6 x7 x8 x9 x10 x11 x12 (0 : Int32) else F_L_isQuotation_b260 G S79 a0 x1 x2 x3 x5 x6 x7 x8 x9 x10 x11 x12 (1 : Int32)))))))
def F_L_isQuotation_b178 (G : pq_G)  : Nat → pq_N → Nat → Int32 → Int32 → Int32 → Int32 → Int32 → Int32 → Int32 → Int32 → Int32 → Int32 → Int32 → Int32 → Int32 → Option (Int32 × pq_N)
  | 0, _, _, _, _, _, _, _, _, _, _, _, _, _, _, _ => none
  | n + 1, S, a0, x1, x2, x3, x4, x5, x6, x7, x8, x9, x10, x11, x12, x13 => (if x5 ≤ x13 then F_L_isQuotation_b214 G S a0 x1 x2 x3 x5 x6 x7 x8 x9 x10 x11 x12 else (if x12 = (0 : Int32) then F_L_isQuotation_b214 G S a0 x1 x2 x3 x5 x6 x7 x8 x9 x10 x11 x12 else (pq_bd (E_X10_isSameWord G S a0 x1 (x4 + x13) x3 (x7 + x13)) fun v67 S68 => (F_L_isQuotation_b178 G n) S68 a0 x1 x2 x3 x4 x5 x6 x7 x8 x9 x10 x11 v67 (x13 + (1 : Int32)))))
def F_L_isQuotation (G : pq_G) (S : pq_N) (a0 : Nat) (x1 : Int32) (x2 : Int32) : Option (Int32 × pq_N) := (pq_bd (E_X10_sourceOf G S a0 x1 x2) fun v11 S12 => (pq_bd (E_X10_beginOf G S12 a0 x1 x2) fun v14 S15 => (pq_bd (E_X10_lengthOf G S15 a0 x1 x2) fun v17 S18 => (pq_bd (E_X10_changesByTable G S18 a0 x1 x2) fun v20 S21 => (pq_bd (E_X10_passageOf G S21 a0 x1 x2) fun v23 S24 => (pq_bd (E_X10_passageLength G S24 a0 x1 x2) fun v26 S27 => (pq_bd (E_X10_comesFrom G S27 a0 x1 x2) fun v29 S30 => (pq_bd (E_X10_traceOf G S30 a0 x1 x2) fun v32 S33 => (pq_bd (E_X10_originOf G S33 a0 x1 x2) fun v35 S36 => (if v11 < (0 : Int32) then some ((0 : Int32), S36) else (if x1 ≤ v11 then some ((0 : Int32), S36) else (pq_bd (E_X10_dayOf G S36 a0 v11) fun v40 S41 => (pq_bd (E_X10_dayOf G S41 a0 x1) fun v43 S44 => (if v43 ≤ v40 then some ((0 : Int32), S44) else (if v17 < (1 : Int32) then some ((0 : Int32), S44) else (pq_bd (E_X10_wordsOf G S44 a0 x1) fun v48 S49 => (if v48 < (v14 + v17) then some ((0 : Int32), S49) else (if v23 < (0 : Int32) then some ((0 : Int32), S49) else (if v26 < (1 : Int32) then some ((0 : Int32), S49) else (pq_bd (E_X10_wordsOf G S49 a0 v11) fun v54 S55 => (if v54 < (v23 + v26) then some ((0 : Int32), S55) else (pq_bd (E_X10_changesByPassages G S55 a0 x1 x2) fun v58 S59 => (if v20 = v58 then (if v20 < (0 : Int32) then some ((0 : Int32), S59) else (if v20 ≤ v17 then (if v26 = v17 then F_L_isQuotation_b178 G pq_fuel S59 a0 x1 x2 v11 v14 v17 v20 v23 v26 v29 v32 v35 (1 : Int32) (0 : Int32) else F_L_isQuotation_b178 G pq_fuel S59 a0 x1 x2 v11 v14 v17 v20 v23 v26 v29 v32 v35 (0 : Int32) (0 : Int32)) else some ((0 : Int32), S59))) else some ((0 : Int32), S59))))))))))))))))))))))))
set_option maxHeartbeats 4000000 in
set_option maxRecDepth 100000 in
theorem r_L_isQuotation_b447 {p : Program} {l : Launch} {e : Env} {s : State} {m : MethodId} {av : Array Value} {below : List Frame} {meth : Method} {c : Code} {D : va_G} {y : pq_Y} {G : pq_G} {r : Int32} {S1 : pq_N} (W0 : pq_WT G) (C : pq_C p s m av c D y RL wsL_isQuotation cL_isQuotation 16) (hr : meth.sig.returnType = (some .boolean)) (hlk : meth.locks = false) : ∀ (S : pq_N) (a0 : Nat) (x1 : Int32) (x2 : Int32) (x5 : Int32) (x6 : Int32) (x10 : Int32), pq_ok G 10 a0 → F_L_isQuotation_b447 G S a0 x1 x2 x5 x6 x10 = some (r, S1) → pq_V p l e (headSpec wsL_isQuotation ({ frames := 7, cells := 0, slots := 0, locals := 174 } : Room)).room s m av below meth c 0 0 (MQ below (pq_Qi D y G s.heap.size r S1) av s 0 0 (pq_A G s.heap.size)) D y 16 (pq_A G s.heap.size) (fun _ => True) G S 447 [(0, .ref a0), (1, .int x1), (2, .int x2), (5, .int x5), (6, .int x6), (10, .int x10)] [] := by
  intro S a0 x1 x2 x5 x6 x10 k0_ h
  unfold F_L_isQuotation_b447 at h
  refine pv_aload_n C 0 dL_isQuotation_447 rfl rfl ?_
  refine pv_iload_n C 1 dL_isQuotation_448 rfl rfl ?_
  refine pv_iload_n C 2 dL_isQuotation_449 rfl rfl ?_
  obtain ⟨v119, S120, e121, h⟩ := pq_bs h
  refine pv_calliV C (ci := 10) rfl (by decide) k0_ [.int x1, .int x2] (fun sz => e_X10_changesAtOrigin W0 k0_ e121 sz) (cwV 2 C.1.2.2.2.2 gL_isQuotation_X10_changesAtOrigin rfl rfl rfl (by decide +kernel) ⟨Nat.le_of_ble_eq_true rfl, Nat.le_of_ble_eq_true rfl⟩) rfl rfl (Nat.le_of_ble_eq_true rfl) dL_isQuotation_450 ⟨Nat.le_of_ble_eq_true rfl, Nat.le_of_ble_eq_true rfl⟩ ?_
  refine pv_iload C 3 dL_isQuotation_453 rfl ?_
  refine pv_icmp_gt (tgt := 479) C dL_isQuotation_455 (by decide) (fun c122 => ?_) (fun c122 => ?_)
  · have h := pq_it c122 h
    refine pv_iconst (v := 0) C dL_isQuotation_479 (by decide) ?_
    exact pv_zret C hr rfl hlk h dL_isQuotation_480
  · have h := pq_if c122 h
    refine pv_iload C 5 dL_isQuotation_458 rfl ?_
    refine pv_iconst (v := 1) C dL_isQuotation_460 (by decide) ?_
    refine pv_icmp_gt (tgt := 475) C dL_isQuotation_461 (by decide) (fun c123 => ?_) (fun c123 => ?_)
    · have h := pq_it c123 h
      refine pv_iconst (v := 1) C dL_isQuotation_475 (by decide) ?_
      refine pv_goto (tgt := 480) C dL_isQuotation_476 (by decide) ?_
      exact pv_zret C hr rfl hlk h dL_isQuotation_480
    · have h := pq_if c123 h
      refine pv_aload_n C 0 dL_isQuotation_464 rfl rfl ?_
      refine pv_iload_n C 1 dL_isQuotation_465 rfl rfl ?_
      refine pv_iload_n C 2 dL_isQuotation_466 rfl rfl ?_
      obtain ⟨v124, S125, e126, h⟩ := pq_bs h
      refine pv_calliV C (ci := 10) rfl (by decide) k0_ [.int x1, .int x2] (fun sz => e_X10_changesAtOrigin W0 k0_ e126 sz) (cwV 2 C.1.2.2.2.2 gL_isQuotation_X10_changesAtOrigin rfl rfl rfl (by decide +kernel) ⟨Nat.le_of_ble_eq_true rfl, Nat.le_of_ble_eq_true rfl⟩) rfl rfl (Nat.le_of_ble_eq_true rfl) dL_isQuotation_467 ⟨Nat.le_of_ble_eq_true rfl, Nat.le_of_ble_eq_true rfl⟩ ?_
      refine pv_iload C 4 dL_isQuotation_470 rfl ?_
      refine pv_icmp_ne (tgt := 479) C dL_isQuotation_472 (by decide) (fun c127 => ?_) (fun c127 => ?_)
      · have h := pq_if c127 h
        refine pv_iconst (v := 0) C dL_isQuotation_479 (by decide) ?_
        exact pv_zret C hr rfl hlk h dL_isQuotation_480
      · have h := pq_it c127 h
        refine pv_iconst (v := 1) C dL_isQuotation_475 (by decide) ?_
        refine pv_goto (tgt := 480) C dL_isQuotation_476 (by decide) ?_
        exact pv_zret C hr rfl hlk h dL_isQuotation_480
set_option maxHeartbeats 4000000 in
set_option maxRecDepth 100000 in
theorem r_L_isQuotation_b406 {p : Program} {l : Launch} {e : Env} {s : State} {m : MethodId} {av : Array Value} {below : List Frame} {meth : Method} {c : Code} {D : va_G} {y : pq_Y} {G : pq_G} {r : Int32} {S1 : pq_N} (W0 : pq_WT G) (C : pq_C p s m av c D y RL wsL_isQuotation cL_isQuotation 16) (hr : meth.sig.returnType = (some .boolean)) (hlk : meth.locks = false) : ∀ (S : pq_N) (a0 : Nat) (x1 : Int32) (x2 : Int32) (x3 : Int32) (x5 : Int32) (x6 : Int32) (x9 : Int32) (x10 : Int32) (x11 : Int32) (t0 : Int32) (t1 : Int32), pq_ok G 10 a0 → F_L_isQuotation_b406 G S a0 x1 x2 x3 x5 x6 x9 x10 x11 t0 t1 = some (r, S1) → pq_V p l e (headSpec wsL_isQuotation ({ frames := 7, cells := 0, slots := 0, locals := 174 } : Room)).room s m av below meth c 0 0 (MQ below (pq_Qi D y G s.heap.size r S1) av s 0 0 (pq_A G s.heap.size)) D y 16 (pq_A G s.heap.size) (fun _ => True) G S 406 [(0, .ref a0), (1, .int x1), (2, .int x2), (3, .int x3), (5, .int x5), (6, .int x6), (9, .int x9), (10, .int x10), (11, .int x11)] [.int t0, .int t1] := by
  intro S a0 x1 x2 x3 x5 x6 x9 x10 x11 t0 t1 k0_ h
  unfold F_L_isQuotation_b406 at h
  refine pv_icmp_ne (tgt := 479) C dL_isQuotation_406 (by decide) (fun c108 => ?_) (fun c108 => ?_)
  · have h := pq_if c108 h
    refine pv_iconst (v := 0) C dL_isQuotation_479 (by decide) ?_
    exact pv_zret C hr rfl hlk h dL_isQuotation_480
  · have h := pq_it c108 h
    refine pv_iload C 8 dL_isQuotation_409 rfl ?_
    refine pv_iload_n C 3 dL_isQuotation_411 rfl rfl ?_
    refine pv_icmp_gt (tgt := 479) C dL_isQuotation_412 (by decide) (fun c109 => ?_) (fun c109 => ?_)
    · have h := pq_it c109 h
      refine pv_iconst (v := 0) C dL_isQuotation_479 (by decide) ?_
      exact pv_zret C hr rfl hlk h dL_isQuotation_480
    · have h := pq_if c109 h
      refine pv_iload C 6 dL_isQuotation_415 rfl ?_
      refine pv_iconst (v := -1) C dL_isQuotation_417 (by decide) ?_
      refine pv_icmp_eq (tgt := 447) C dL_isQuotation_418 (by decide) (fun c110 => ?_) (fun c110 => ?_)
      · have h := pq_it c110 h
        refine pv_sub [0, 1, 2, 4, 5, 7] rfl ?_
        exact r_L_isQuotation_b447 W0 C hr hlk _ _ _ _ _ _ _ k0_ h
      · have h := pq_if c110 h
        refine pv_iload C 7 dL_isQuotation_421 rfl ?_
        refine pv_aload_n C 0 dL_isQuotation_423 rfl rfl ?_
        refine pv_iload_n C 3 dL_isQuotation_424 rfl rfl ?_
        refine pv_iload C 6 dL_isQuotation_425 rfl ?_
        obtain ⟨v111, S112, e113, h⟩ := pq_bs h
        refine pv_calliV C (ci := 10) rfl (by decide) k0_ [.int x3, .int x9] (fun sz => e_X10_traceOf W0 k0_ e113 sz) (cwV 2 C.1.2.2.2.2 gL_isQuotation_X10_traceOf rfl rfl rfl (by decide +kernel) ⟨Nat.le_of_ble_eq_true rfl, Nat.le_of_ble_eq_true rfl⟩) rfl rfl (Nat.le_of_ble_eq_true rfl) dL_isQuotation_427 ⟨Nat.le_of_ble_eq_true rfl, Nat.le_of_ble_eq_true rfl⟩ ?_
        refine pv_iconst (v := 1) C dL_isQuotation_430 (by decide) ?_
        refine pv_iadd C dL_isQuotation_431 ?_
        refine pv_icmp_ne (tgt := 479) C dL_isQuotation_432 (by decide) (fun c114 => ?_) (fun c114 => ?_)
        · have h := pq_if c114 h
          refine pv_iconst (v := 0) C dL_isQuotation_479 (by decide) ?_
          exact pv_zret C hr rfl hlk h dL_isQuotation_480
        · have h := pq_it c114 h
          refine pv_iload C 8 dL_isQuotation_435 rfl ?_
          refine pv_aload_n C 0 dL_isQuotation_437 rfl rfl ?_
          refine pv_iload_n C 3 dL_isQuotation_438 rfl rfl ?_
          refine pv_iload C 6 dL_isQuotation_439 rfl ?_
          obtain ⟨v115, S116, e117, h⟩ := pq_bs h
          refine pv_calliV C (ci := 10) rfl (by decide) k0_ [.int x3, .int x9] (fun sz => e_X10_originOf W0 k0_ e117 sz) (cwV 2 C.1.2.2.2.2 gL_isQuotation_X10_originOf rfl rfl rfl (by decide +kernel) ⟨Nat.le_of_ble_eq_true rfl, Nat.le_of_ble_eq_true rfl⟩) rfl rfl (Nat.le_of_ble_eq_true rfl) dL_isQuotation_441 ⟨Nat.le_of_ble_eq_true rfl, Nat.le_of_ble_eq_true rfl⟩ ?_
          refine pv_icmp_ne (tgt := 479) C dL_isQuotation_444 (by decide) (fun c118 => ?_) (fun c118 => ?_)
          · have h := pq_if c118 h
            refine pv_iconst (v := 0) C dL_isQuotation_479 (by decide) ?_
            exact pv_zret C hr rfl hlk h dL_isQuotation_480
          · have h := pq_it c118 h
            refine pv_sub [0, 1, 2, 4, 5, 7] rfl ?_
            exact r_L_isQuotation_b447 W0 C hr hlk _ _ _ _ _ _ _ k0_ h
set_option maxHeartbeats 4000000 in
set_option maxRecDepth 100000 in
theorem r_L_isQuotation_b381 {p : Program} {l : Launch} {e : Env} {s : State} {m : MethodId} {av : Array Value} {below : List Frame} {meth : Method} {c : Code} {D : va_G} {y : pq_Y} {G : pq_G} {r : Int32} {S1 : pq_N} (W0 : pq_WT G) (C : pq_C p s m av c D y RL wsL_isQuotation cL_isQuotation 16) (hr : meth.sig.returnType = (some .boolean)) (hlk : meth.locks = false) : ∀ (S : pq_N) (a0 : Nat) (x1 : Int32) (x2 : Int32) (x3 : Int32) (x5 : Int32) (x6 : Int32) (x9 : Int32) (x10 : Int32) (x11 : Int32) (t0 : Int32) (t1 : Int32), pq_ok G 10 a0 → F_L_isQuotation_b381 G S a0 x1 x2 x3 x5 x6 x9 x10 x11 t0 t1 = some (r, S1) → pq_V p l e (headSpec wsL_isQuotation ({ frames := 7, cells := 0, slots := 0, locals := 174 } : Room)).room s m av below meth c 0 0 (MQ below (pq_Qi D y G s.heap.size r S1) av s 0 0 (pq_A G s.heap.size)) D y 16 (pq_A G s.heap.size) (fun _ => True) G S 381 [(0, .ref a0), (1, .int x1), (2, .int x2), (3, .int x3), (5, .int x5), (6, .int x6), (9, .int x9), (10, .int x10), (11, .int x11)] [.int t0, .int t1] := by
  intro S a0 x1 x2 x3 x5 x6 x9 x10 x11 t0 t1 k0_ h
  unfold F_L_isQuotation_b381 at h
  refine pv_icmp_ne (tgt := 479) C dL_isQuotation_381 (by decide) (fun c104 => ?_) (fun c104 => ?_)
  · have h := pq_if c104 h
    refine pv_iconst (v := 0) C dL_isQuotation_479 (by decide) ?_
    exact pv_zret C hr rfl hlk h dL_isQuotation_480
  · have h := pq_it c104 h
    refine pv_iload C 8 dL_isQuotation_384 rfl ?_
    refine pv_iload_n C 3 dL_isQuotation_386 rfl rfl ?_
    refine pv_icmp_ne (tgt := 394) C dL_isQuotation_387 (by decide) (fun c105 => ?_) (fun c105 => ?_)
    · have h := pq_if c105 h
      refine pv_iconst (v := 0) C dL_isQuotation_394 (by decide) ?_
      refine pv_iload C 7 dL_isQuotation_395 rfl ?_
      refine pv_iconst (v := 1) C dL_isQuotation_397 (by decide) ?_
      refine pv_icmp_ne (tgt := 405) C dL_isQuotation_398 (by decide) (fun c106 => ?_) (fun c106 => ?_)
      · have h := pq_if c106 h
        refine pv_iconst (v := 0) C dL_isQuotation_405 (by decide) ?_
        refine pv_sub [0, 1, 2, 3, 4, 5, 6, 7, 8] rfl ?_
        exact r_L_isQuotation_b406 W0 C hr hlk _ _ _ _ _ _ _ _ _ _ _ _ k0_ h
      · have h := pq_it c106 h
        refine pv_iconst (v := 1) C dL_isQuotation_401 (by decide) ?_
        refine pv_goto (tgt := 406) C dL_isQuotation_402 (by decide) ?_
        refine pv_sub [0, 1, 2, 3, 4, 5, 6, 7, 8] rfl ?_
        exact r_L_isQuotation_b406 W0 C hr hlk _ _ _ _ _ _ _ _ _ _ _ _ k0_ h
    · have h := pq_it c105 h
      refine pv_iconst (v := 1) C dL_isQuotation_390 (by decide) ?_
      refine pv_goto (tgt := 395) C dL_isQuotation_391 (by decide) ?_
      refine pv_iload C 7 dL_isQuotation_395 rfl ?_
      refine pv_iconst (v := 1) C dL_isQuotation_397 (by decide) ?_
      refine pv_icmp_ne (tgt := 405) C dL_isQuotation_398 (by decide) (fun c107 => ?_) (fun c107 => ?_)
      · have h := pq_if c107 h
        refine pv_iconst (v := 0) C dL_isQuotation_405 (by decide) ?_
        refine pv_sub [0, 1, 2, 3, 4, 5, 6, 7, 8] rfl ?_
        exact r_L_isQuotation_b406 W0 C hr hlk _ _ _ _ _ _ _ _ _ _ _ _ k0_ h
      · have h := pq_it c107 h
        refine pv_iconst (v := 1) C dL_isQuotation_401 (by decide) ?_
        refine pv_goto (tgt := 406) C dL_isQuotation_402 (by decide) ?_
        refine pv_sub [0, 1, 2, 3, 4, 5, 6, 7, 8] rfl ?_
        exact r_L_isQuotation_b406 W0 C hr hlk _ _ _ _ _ _ _ _ _ _ _ _ k0_ h
set_option maxHeartbeats 4000000 in
set_option maxRecDepth 100000 in
theorem r_L_isQuotation_b356 {p : Program} {l : Launch} {e : Env} {s : State} {m : MethodId} {av : Array Value} {below : List Frame} {meth : Method} {c : Code} {D : va_G} {y : pq_Y} {G : pq_G} {r : Int32} {S1 : pq_N} (W0 : pq_WT G) (C : pq_C p s m av c D y RL wsL_isQuotation cL_isQuotation 16) (hr : meth.sig.returnType = (some .boolean)) (hlk : meth.locks = false) : ∀ (S : pq_N) (a0 : Nat) (x1 : Int32) (x2 : Int32) (x3 : Int32) (x5 : Int32) (x6 : Int32) (x9 : Int32) (x10 : Int32) (x11 : Int32) (t0 : Int32) (t1 : Int32), pq_ok G 10 a0 → F_L_isQuotation_b356 G S a0 x1 x2 x3 x5 x6 x9 x10 x11 t0 t1 = some (r, S1) → pq_V p l e (headSpec wsL_isQuotation ({ frames := 7, cells := 0, slots := 0, locals := 174 } : Room)).room s m av below meth c 0 0 (MQ below (pq_Qi D y G s.heap.size r S1) av s 0 0 (pq_A G s.heap.size)) D y 16 (pq_A G s.heap.size) (fun _ => True) G S 356 [(0, .ref a0), (1, .int x1), (2, .int x2), (3, .int x3), (5, .int x5), (6, .int x6), (9, .int x9), (10, .int x10), (11, .int x11)] [.int t0, .int t1] := by
  intro S a0 x1 x2 x3 x5 x6 x9 x10 x11 t0 t1 k0_ h
  unfold F_L_isQuotation_b356 at h
  refine pv_icmp_ne (tgt := 479) C dL_isQuotation_356 (by decide) (fun c100 => ?_) (fun c100 => ?_)
  · have h := pq_if c100 h
    refine pv_iconst (v := 0) C dL_isQuotation_479 (by decide) ?_
    exact pv_zret C hr rfl hlk h dL_isQuotation_480
  · have h := pq_it c100 h
    refine pv_iload C 7 dL_isQuotation_359 rfl ?_
    refine pv_iconst (v := 1) C dL_isQuotation_361 (by decide) ?_
    refine pv_icmp_ne (tgt := 369) C dL_isQuotation_362 (by decide) (fun c101 => ?_) (fun c101 => ?_)
    · have h := pq_if c101 h
      refine pv_iconst (v := 0) C dL_isQuotation_369 (by decide) ?_
      refine pv_iload C 6 dL_isQuotation_370 rfl ?_
      refine pv_iconst (v := -1) C dL_isQuotation_372 (by decide) ?_
      refine pv_icmp_ne (tgt := 380) C dL_isQuotation_373 (by decide) (fun c102 => ?_) (fun c102 => ?_)
      · have h := pq_if c102 h
        refine pv_iconst (v := 0) C dL_isQuotation_380 (by decide) ?_
        refine pv_sub [0, 1, 2, 3, 4, 5, 6, 7, 8] rfl ?_
        exact r_L_isQuotation_b381 W0 C hr hlk _ _ _ _ _ _ _ _ _ _ _ _ k0_ h
      · have h := pq_it c102 h
        refine pv_iconst (v := 1) C dL_isQuotation_376 (by decide) ?_
        refine pv_goto (tgt := 381) C dL_isQuotation_377 (by decide) ?_
        refine pv_sub [0, 1, 2, 3, 4, 5, 6, 7, 8] rfl ?_
        exact r_L_isQuotation_b381 W0 C hr hlk _ _ _ _ _ _ _ _ _ _ _ _ k0_ h
    · have h := pq_it c101 h
      refine pv_iconst (v := 1) C dL_isQuotation_365 (by decide) ?_
      refine pv_goto (tgt := 370) C dL_isQuotation_366 (by decide) ?_
      refine pv_iload C 6 dL_isQuotation_370 rfl ?_
      refine pv_iconst (v := -1) C dL_isQuotation_372 (by decide) ?_
      refine pv_icmp_ne (tgt := 380) C dL_isQuotation_373 (by decide) (fun c103 => ?_) (fun c103 => ?_)
      · have h := pq_if c103 h
        refine pv_iconst (v := 0) C dL_isQuotation_380 (by decide) ?_
        refine pv_sub [0, 1, 2, 3, 4, 5, 6, 7, 8] rfl ?_
        exact r_L_isQuotation_b381 W0 C hr hlk _ _ _ _ _ _ _ _ _ _ _ _ k0_ h
      · have h := pq_it c103 h
        refine pv_iconst (v := 1) C dL_isQuotation_376 (by decide) ?_
        refine pv_goto (tgt := 381) C dL_isQuotation_377 (by decide) ?_
        refine pv_sub [0, 1, 2, 3, 4, 5, 6, 7, 8] rfl ?_
        exact r_L_isQuotation_b381 W0 C hr hlk _ _ _ _ _ _ _ _ _ _ _ _ k0_ h
set_option maxHeartbeats 4000000 in
set_option maxRecDepth 100000 in
theorem r_L_isQuotation_b327 {p : Program} {l : Launch} {e : Env} {s : State} {m : MethodId} {av : Array Value} {below : List Frame} {meth : Method} {c : Code} {D : va_G} {y : pq_Y} {G : pq_G} {r : Int32} {S1 : pq_N} (W0 : pq_WT G) (C : pq_C p s m av c D y RL wsL_isQuotation cL_isQuotation 16) (hr : meth.sig.returnType = (some .boolean)) (hlk : meth.locks = false) : ∀ (S : pq_N) (a0 : Nat) (x1 : Int32) (x2 : Int32) (x3 : Int32) (x5 : Int32) (x6 : Int32) (x9 : Int32) (x10 : Int32) (x11 : Int32) (x12 : Int32) (x13 : Int32) (x14 : Int32) (t0 : Int32), pq_ok G 10 a0 → F_L_isQuotation_b327 G S a0 x1 x2 x3 x5 x6 x9 x10 x11 x12 x13 x14 t0 = some (r, S1) → pq_V p l e (headSpec wsL_isQuotation ({ frames := 7, cells := 0, slots := 0, locals := 174 } : Room)).room s m av below meth c 0 0 (MQ below (pq_Qi D y G s.heap.size r S1) av s 0 0 (pq_A G s.heap.size)) D y 16 (pq_A G s.heap.size) (fun _ => True) G S 327 [(0, .ref a0), (1, .int x1), (2, .int x2), (3, .int x3), (5, .int x5), (6, .int x6), (9, .int x9), (10, .int x10), (11, .int x11), (12, .int x12), (13, .int x13), (14, .int x14)] [.int t0] := by
  intro S a0 x1 x2 x3 x5 x6 x9 x10 x11 x12 x13 x14 t0 k0_ h
  unfold F_L_isQuotation_b327 at h
  refine pv_istore C [(15, .int t0), (0, .ref a0), (1, .int x1), (2, .int x2), (3, .int x3), (5, .int x5), (6, .int x6), (9, .int x9), (10, .int x10), (11, .int x11), (12, .int x12), (13, .int x13), (14, .int x14)] dL_isQuotation_327 (by decide) rfl ?_
  refine pv_iload C 11 dL_isQuotation_329 rfl ?_
  refine pv_if_eq (tgt := 479) C dL_isQuotation_331 (by decide) (fun c96 => ?_) (fun c96 => ?_)
  · have h := pq_it c96 h
    refine pv_iconst (v := 0) C dL_isQuotation_479 (by decide) ?_
    exact pv_zret C hr rfl hlk h dL_isQuotation_480
  · have h := pq_if c96 h
    refine pv_iload C 12 dL_isQuotation_334 rfl ?_
    refine pv_if_eq (tgt := 479) C dL_isQuotation_336 (by decide) (fun c97 => ?_) (fun c97 => ?_)
    · have h := pq_it c97 h
      refine pv_iconst (v := 0) C dL_isQuotation_479 (by decide) ?_
      exact pv_zret C hr rfl hlk h dL_isQuotation_480
    · have h := pq_if c97 h
      refine pv_iload C 0 dL_isQuotation_339 rfl ?_
      refine pv_if_eq (tgt := 479) C dL_isQuotation_341 (by decide) (fun c98 => ?_) (fun c98 => ?_)
      · have h := pq_it c98 h
        refine pv_iconst (v := 0) C dL_isQuotation_479 (by decide) ?_
        exact pv_zret C hr rfl hlk h dL_isQuotation_480
      · have h := pq_if c98 h
        refine pv_iload C 10 dL_isQuotation_344 rfl ?_
        refine pv_iload C 6 dL_isQuotation_346 rfl ?_
        refine pv_if_ne (tgt := 355) C dL_isQuotation_348 (by decide) (fun c99 => ?_) (fun c99 => ?_)
        · have h := pq_if c99 h
          refine pv_iconst (v := 0) C dL_isQuotation_355 (by decide) ?_
          refine pv_sub [1, 2, 3, 4, 5, 6, 7, 8, 9] rfl ?_
          exact r_L_isQuotation_b356 W0 C hr hlk _ _ _ _ _ _ _ _ _ _ _ _ k0_ h
        · have h := pq_it c99 h
          refine pv_iconst (v := 1) C dL_isQuotation_351 (by decide) ?_
          refine pv_goto (tgt := 356) C dL_isQuotation_352 (by decide) ?_
          refine pv_sub [1, 2, 3, 4, 5, 6, 7, 8, 9] rfl ?_
          exact r_L_isQuotation_b356 W0 C hr hlk _ _ _ _ _ _ _ _ _ _ _ _ k0_ h
set_option maxHeartbeats 4000000 in
set_option maxRecDepth 100000 in
theorem r_L_isQuotation_b295 {p : Program} {l : Launch} {e : Env} {s : State} {m : MethodId} {av : Array Value} {below : List Frame} {meth : Method} {c : Code} {D : va_G} {y : pq_Y} {G : pq_G} {r : Int32} {S1 : pq_N} (W0 : pq_WT G) (C : pq_C p s m av c D y RL wsL_isQuotation cL_isQuotation 16) (hr : meth.sig.returnType = (some .boolean)) (hlk : meth.locks = false) : ∀ (S : pq_N) (a0 : Nat) (x1 : Int32) (x2 : Int32) (x3 : Int32) (x5 : Int32) (x6 : Int32) (x8 : Int32) (x9 : Int32) (x10 : Int32) (x11 : Int32) (x12 : Int32) (x13 : Int32) (t0 : Int32), pq_ok G 10 a0 → F_L_isQuotation_b295 G S a0 x1 x2 x3 x5 x6 x8 x9 x10 x11 x12 x13 t0 = some (r, S1) → pq_V p l e (headSpec wsL_isQuotation ({ frames := 7, cells := 0, slots := 0, locals := 174 } : Room)).room s m av below meth c 0 0 (MQ below (pq_Qi D y G s.heap.size r S1) av s 0 0 (pq_A G s.heap.size)) D y 16 (pq_A G s.heap.size) (fun _ => True) G S 295 [(0, .ref a0), (1, .int x1), (2, .int x2), (3, .int x3), (5, .int x5), (6, .int x6), (8, .int x8), (9, .int x9), (10, .int x10), (11, .int x11), (12, .int x12), (13, .int x13)] [.int t0] := by
  intro S a0 x1 x2 x3 x5 x6 x8 x9 x10 x11 x12 x13 t0 k0_ h
  unfold F_L_isQuotation_b295 at h
  refine pv_istore C [(14, .int t0), (0, .ref a0), (1, .int x1), (2, .int x2), (3, .int x3), (5, .int x5), (6, .int x6), (8, .int x8), (9, .int x9), (10, .int x10), (11, .int x11), (12, .int x12), (13, .int x13)] dL_isQuotation_295 (by decide) rfl ?_
  refine pv_iload C 6 dL_isQuotation_297 rfl ?_
  refine pv_iload C 7 dL_isQuotation_299 rfl ?_
  refine pv_iload C 5 dL_isQuotation_301 rfl ?_
  refine pv_icmp_ge (tgt := 314) C dL_isQuotation_303 (by decide) (fun c93 => ?_) (fun c93 => ?_)
  · have h := pq_it c93 h
    refine pv_iload C 7 dL_isQuotation_314 rfl ?_
    refine pv_iload C 5 dL_isQuotation_316 rfl ?_
    refine pv_isub C dL_isQuotation_318 ?_
    refine pv_icmp_lt (tgt := 326) C dL_isQuotation_319 (by decide) (fun c94 => ?_) (fun c94 => ?_)
    · have h := pq_it c94 h
      refine pv_iconst (v := 0) C dL_isQuotation_326 (by decide) ?_
      refine pv_sub [1, 2, 3, 4, 5, 6, 8, 9, 10, 11, 12, 0] rfl ?_
      exact r_L_isQuotation_b327 W0 C hr hlk _ _ _ _ _ _ _ _ _ _ _ _ _ _ k0_ h
    · have h := pq_if c94 h
      refine pv_iconst (v := 1) C dL_isQuotation_322 (by decide) ?_
      refine pv_goto (tgt := 327) C dL_isQuotation_323 (by decide) ?_
      refine pv_sub [1, 2, 3, 4, 5, 6, 8, 9, 10, 11, 12, 0] rfl ?_
      exact r_L_isQuotation_b327 W0 C hr hlk _ _ _ _ _ _ _ _ _ _ _ _ _ _ k0_ h
  · have h := pq_if c93 h
    refine pv_iload C 5 dL_isQuotation_306 rfl ?_
    refine pv_iload C 7 dL_isQuotation_308 rfl ?_
    refine pv_isub C dL_isQuotation_310 ?_
    refine pv_goto (tgt := 319) C dL_isQuotation_311 (by decide) ?_
    refine pv_icmp_lt (tgt := 326) C dL_isQuotation_319 (by decide) (fun c95 => ?_) (fun c95 => ?_)
    · have h := pq_it c95 h
      refine pv_iconst (v := 0) C dL_isQuotation_326 (by decide) ?_
      refine pv_sub [1, 2, 3, 4, 5, 6, 8, 9, 10, 11, 12, 0] rfl ?_
      exact r_L_isQuotation_b327 W0 C hr hlk _ _ _ _ _ _ _ _ _ _ _ _ _ _ k0_ h
    · have h := pq_if c95 h
      refine pv_iconst (v := 1) C dL_isQuotation_322 (by decide) ?_
      refine pv_goto (tgt := 327) C dL_isQuotation_323 (by decide) ?_
      refine pv_sub [1, 2, 3, 4, 5, 6, 8, 9, 10, 11, 12, 0] rfl ?_
      exact r_L_isQuotation_b327 W0 C hr hlk _ _ _ _ _ _ _ _ _ _ _ _ _ _ k0_ h
set_option maxHeartbeats 4000000 in
set_option maxRecDepth 100000 in
theorem r_L_isQuotation_b260 {p : Program} {l : Launch} {e : Env} {s : State} {m : MethodId} {av : Array Value} {below : List Frame} {meth : Method} {c : Code} {D : va_G} {y : pq_Y} {G : pq_G} {r : Int32} {S1 : pq_N} (W0 : pq_WT G) (C : pq_C p s m av c D y RL wsL_isQuotation cL_isQuotation 16) (hr : meth.sig.returnType = (some .boolean)) (hlk : meth.locks = false) : ∀ (S : pq_N) (a0 : Nat) (x1 : Int32) (x2 : Int32) (x3 : Int32) (x5 : Int32) (x6 : Int32) (x7 : Int32) (x8 : Int32) (x9 : Int32) (x10 : Int32) (x11 : Int32) (x12 : Int32) (t0 : Int32), pq_ok G 10 a0 → F_L_isQuotation_b260 G S a0 x1 x2 x3 x5 x6 x7 x8 x9 x10 x11 x12 t0 = some (r, S1) → pq_V p l e (headSpec wsL_isQuotation ({ frames := 7, cells := 0, slots := 0, locals := 174 } : Room)).room s m av below meth c 0 0 (MQ below (pq_Qi D y G s.heap.size r S1) av s 0 0 (pq_A G s.heap.size)) D y 16 (pq_A G s.heap.size) (fun _ => True) G S 260 [(0, .ref a0), (1, .int x1), (2, .int x2), (3, .int x3), (5, .int x5), (6, .int x6), (7, .int x7), (8, .int x8), (9, .int x9), (10, .int x10), (11, .int x11), (12, .int x12)] [.int t0] := by
  intro S a0 x1 x2 x3 x5 x6 x7 x8 x9 x10 x11 x12 t0 k0_ h
  unfold F_L_isQuotation_b260 at h
  refine pv_istore C [(13, .int t0), (0, .ref a0), (1, .int x1), (2, .int x2), (3, .int x3), (5, .int x5), (6, .int x6), (7, .int x7), (8, .int x8), (9, .int x9), (10, .int x10), (11, .int x11), (12, .int x12)] dL_isQuotation_260 (by decide) rfl ?_
  refine pv_aload_n C 1 dL_isQuotation_262 rfl rfl ?_
  refine pv_iload_n C 2 dL_isQuotation_263 rfl rfl ?_
  refine pv_iload_n C 3 dL_isQuotation_264 rfl rfl ?_
  obtain ⟨v82, S83, e84, h⟩ := pq_bs h
  refine pv_calliV C (ci := 10) rfl (by decide) k0_ [.int x1, .int x2] (fun sz => e_X10_pageOf W0 k0_ e84 sz) (cwV 2 C.1.2.2.2.2 gL_isQuotation_X10_pageOf rfl rfl rfl (by decide +kernel) ⟨Nat.le_of_ble_eq_true rfl, Nat.le_of_ble_eq_true rfl⟩) rfl rfl (Nat.le_of_ble_eq_true rfl) dL_isQuotation_265 ⟨Nat.le_of_ble_eq_true rfl, Nat.le_of_ble_eq_true rfl⟩ ?_
  refine pv_iload C 7 dL_isQuotation_268 rfl ?_
  refine pv_bipush (v := 8) C dL_isQuotation_270 (by decide) ?_
  refine pv_idiv C dL_isQuotation_272 (by decide) ?_
  refine pv_icmp_ne (tgt := 294) C dL_isQuotation_273 (by decide) (fun c85 => ?_) (fun c85 => ?_)
  · have h := pq_if c85 h
    refine pv_iconst (v := 0) C dL_isQuotation_294 (by decide) ?_
    refine pv_sub [1, 2, 3, 4, 5, 6, 8, 9, 10, 11, 12, 0] rfl ?_
    exact r_L_isQuotation_b295 W0 C hr hlk _ _ _ _ _ _ _ _ _ _ _ _ _ _ k0_ h
  · have h := pq_it c85 h
    refine pv_aload_n C 1 dL_isQuotation_276 rfl rfl ?_
    refine pv_iload_n C 4 dL_isQuotation_277 rfl rfl ?_
    refine pv_aload_n C 1 dL_isQuotation_278 rfl rfl ?_
    refine pv_iload_n C 2 dL_isQuotation_279 rfl rfl ?_
    refine pv_iload_n C 3 dL_isQuotation_280 rfl rfl ?_
    obtain ⟨v86, S87, e88, h⟩ := pq_bs h
    refine pv_calliV C (ci := 10) rfl (by decide) k0_ [.int x1, .int x2] (fun sz => e_X10_pageOf W0 k0_ e88 sz) (cwV 2 C.1.2.2.2.2 gL_isQuotation_X10_pageOf rfl rfl rfl (by decide +kernel) ⟨Nat.le_of_ble_eq_true rfl, Nat.le_of_ble_eq_true rfl⟩) rfl rfl (Nat.le_of_ble_eq_true rfl) dL_isQuotation_281 ⟨Nat.le_of_ble_eq_true rfl, Nat.le_of_ble_eq_true rfl⟩ ?_
    obtain ⟨v89, S90, e91, h⟩ := pq_bs h
    refine pv_calliV C (ci := 10) rfl (by decide) k0_ [.int x3, .int v86] (fun sz => e_X10_wordsOn W0 k0_ e91 sz) (cwV 2 C.1.2.2.2.2 gL_isQuotation_X10_wordsOn rfl rfl rfl (by decide +kernel) ⟨Nat.le_of_ble_eq_true rfl, Nat.le_of_ble_eq_true rfl⟩) rfl rfl (Nat.le_of_ble_eq_true rfl) dL_isQuotation_284 ⟨Nat.le_of_ble_eq_true rfl, Nat.le_of_ble_eq_true rfl⟩ ?_
    refine pv_if_le (tgt := 294) C dL_isQuotation_287 (by decide) (fun c92 => ?_) (fun c92 => ?_)
    · have h := pq_it c92 h
      refine pv_iconst (v := 0) C dL_isQuotation_294 (by decide) ?_
      refine pv_sub [1, 2, 3, 4, 5, 6, 8, 9, 10, 11, 12, 0] rfl ?_
      exact r_L_isQuotation_b295 W0 C hr hlk _ _ _ _ _ _ _ _ _ _ _ _ _ _ k0_ h
    · have h := pq_if c92 h
      refine pv_iconst (v := 1) C dL_isQuotation_290 (by decide) ?_
      refine pv_goto (tgt := 295) C dL_isQuotation_291 (by decide) ?_
      refine pv_sub [1, 2, 3, 4, 5, 6, 8, 9, 10, 11, 12, 0] rfl ?_
      exact r_L_isQuotation_b295 W0 C hr hlk _ _ _ _ _ _ _ _ _ _ _ _ _ _ k0_ h
set_option maxHeartbeats 4000000 in
set_option maxRecDepth 100000 in
theorem r_L_isQuotation_b214 {p : Program} {l : Launch} {e : Env} {s : State} {m : MethodId} {av : Array Value} {below : List Frame} {meth : Method} {c : Code} {D : va_G} {y : pq_Y} {G : pq_G} {r : Int32} {S1 : pq_N} (W0 : pq_WT G) (C : pq_C p s m av c D y RL wsL_isQuotation cL_isQuotation 16) (hr : meth.sig.returnType = (some .boolean)) (hlk : meth.locks = false) : ∀ (S : pq_N) (a0 : Nat) (x1 : Int32) (x2 : Int32) (x3 : Int32) (x5 : Int32) (x6 : Int32) (x7 : Int32) (x8 : Int32) (x9 : Int32) (x10 : Int32) (x11 : Int32) (x12 : Int32), pq_ok G 10 a0 → F_L_isQuotation_b214 G S a0 x1 x2 x3 x5 x6 x7 x8 x9 x10 x11 x12 = some (r, S1) → pq_V p l e (headSpec wsL_isQuotation ({ frames := 7, cells := 0, slots := 0, locals := 174 } : Room)).room s m av below meth c 0 0 (MQ below (pq_Qi D y G s.heap.size r S1) av s 0 0 (pq_A G s.heap.size)) D y 16 (pq_A G s.heap.size) (fun _ => True) G S 214 [(0, .ref a0), (1, .int x1), (2, .int x2), (3, .int x3), (5, .int x5), (6, .int x6), (7, .int x7), (8, .int x8), (9, .int x9), (10, .int x10), (11, .int x11), (12, .int x12)] [] := by
  intro S a0 x1 x2 x3 x5 x6 x7 x8 x9 x10 x11 x12 k0_ h
  unfold F_L_isQuotation_b214 at h
  refine pv_iload C 8 dL_isQuotation_214 rfl ?_
  refine pv_iconst (v := -1) C dL_isQuotation_216 (by decide) ?_
  refine pv_icmp_eq (tgt := 255) C dL_isQuotation_217 (by decide) (fun c70 => ?_) (fun c70 => ?_)
  · have h := pq_it c70 h
    refine pv_iconst (v := 1) C dL_isQuotation_255 (by decide) ?_
    refine pv_goto (tgt := 260) C dL_isQuotation_256 (by decide) ?_
    refine pv_sub [0, 1, 2, 3, 4, 5, 6, 7, 8, 9, 10, 11] rfl ?_
    exact r_L_isQuotation_b260 W0 C hr hlk _ _ _ _ _ _ _ _ _ _ _ _ _ _ k0_ h
  · have h := pq_if c70 h
    refine pv_aload_n C 0 dL_isQuotation_220 rfl rfl ?_
    refine pv_iload_n C 3 dL_isQuotation_221 rfl rfl ?_
    refine pv_iload C 8 dL_isQuotation_222 rfl ?_
    obtain ⟨v71, S72, e73, h⟩ := pq_bs h
    refine pv_calliV C (ci := 10) rfl (by decide) k0_ [.int x3, .int x9] (fun sz => e_X10_beginOf W0 k0_ e73 sz) (cwV 2 C.1.2.2.2.2 gL_isQuotation_X10_beginOf rfl rfl rfl (by decide +kernel) ⟨Nat.le_of_ble_eq_true rfl, Nat.le_of_ble_eq_true rfl⟩) rfl rfl (Nat.le_of_ble_eq_true rfl) dL_isQuotation_224 ⟨Nat.le_of_ble_eq_true rfl, Nat.le_of_ble_eq_true rfl⟩ ?_
    refine pv_iload C 6 dL_isQuotation_227 rfl ?_
    refine pv_icmp_gt (tgt := 259) C dL_isQuotation_229 (by decide) (fun c74 => ?_) (fun c74 => ?_)
    · have h := pq_it c74 h
      refine pv_iconst (v := 0) C dL_isQuotation_259 (by decide) ?_
      refine pv_sub [0, 1, 2, 3, 4, 5, 6, 7, 8, 9, 10, 11] rfl ?_
      exact r_L_isQuotation_b260 W0 C hr hlk _ _ _ _ _ _ _ _ _ _ _ _ _ _ k0_ h
    · have h := pq_if c74 h
      refine pv_iload C 6 dL_isQuotation_232 rfl ?_
      refine pv_iload C 7 dL_isQuotation_234 rfl ?_
      refine pv_iadd C dL_isQuotation_236 ?_
      refine pv_aload_n C 0 dL_isQuotation_237 rfl rfl ?_
      refine pv_iload_n C 3 dL_isQuotation_238 rfl rfl ?_
      refine pv_iload C 8 dL_isQuotation_239 rfl ?_
      obtain ⟨v75, S76, e77, h⟩ := pq_bs h
      refine pv_calliV C (ci := 10) rfl (by decide) k0_ [.int x3, .int x9] (fun sz => e_X10_beginOf W0 k0_ e77 sz) (cwV 2 C.1.2.2.2.2 gL_isQuotation_X10_beginOf rfl rfl rfl (by decide +kernel) ⟨Nat.le_of_ble_eq_true rfl, Nat.le_of_ble_eq_true rfl⟩) rfl rfl (Nat.le_of_ble_eq_true rfl) dL_isQuotation_241 ⟨Nat.le_of_ble_eq_true rfl, Nat.le_of_ble_eq_true rfl⟩ ?_
      refine pv_aload_n C 0 dL_isQuotation_244 rfl rfl ?_
      refine pv_iload_n C 3 dL_isQuotation_245 rfl rfl ?_
      refine pv_iload C 8 dL_isQuotation_246 rfl ?_
      obtain ⟨v78, S79, e80, h⟩ := pq_bs h
      refine pv_calliV C (ci := 10) rfl (by decide) k0_ [.int x3, .int x9] (fun sz => e_X10_lengthOf W0 k0_ e80 sz) (cwV 2 C.1.2.2.2.2 gL_isQuotation_X10_lengthOf rfl rfl rfl (by decide +kernel) ⟨Nat.le_of_ble_eq_true rfl, Nat.le_of_ble_eq_true rfl⟩) rfl rfl (Nat.le_of_ble_eq_true rfl) dL_isQuotation_248 ⟨Nat.le_of_ble_eq_true rfl, Nat.le_of_ble_eq_true rfl⟩ ?_
      refine pv_iadd C dL_isQuotation_251 ?_
      refine pv_icmp_gt (tgt := 259) C dL_isQuotation_252 (by decide) (fun c81 => ?_) (fun c81 => ?_)
      · have h := pq_it c81 h
        refine pv_iconst (v := 0) C dL_isQuotation_259 (by decide) ?_
        refine pv_sub [0, 1, 2, 3, 4, 5, 6, 7, 8, 9, 10, 11] rfl ?_
        exact r_L_isQuotation_b260 W0 C hr hlk _ _ _ _ _ _ _ _ _ _ _ _ _ _ k0_ h
      · have h := pq_if c81 h
        refine pv_iconst (v := 1) C dL_isQuotation_255 (by decide) ?_
        refine pv_goto (tgt := 260) C dL_isQuotation_256 (by decide) ?_
        refine pv_sub [0, 1, 2, 3, 4, 5, 6, 7, 8, 9, 10, 11] rfl ?_
        exact r_L_isQuotation_b260 W0 C hr hlk _ _ _ _ _ _ _ _ _ _ _ _ _ _ k0_ h
set_option maxHeartbeats 4000000 in
set_option maxRecDepth 100000 in
theorem r_L_isQuotation_b178 {p : Program} {l : Launch} {e : Env} {s : State} {m : MethodId} {av : Array Value} {below : List Frame} {meth : Method} {c : Code} {D : va_G} {y : pq_Y} {G : pq_G} {r : Int32} {S1 : pq_N} (W0 : pq_WT G) (C : pq_C p s m av c D y RL wsL_isQuotation cL_isQuotation 16) (hr : meth.sig.returnType = (some .boolean)) (hlk : meth.locks = false) (n : Nat) : ∀ (S : pq_N) (a0 : Nat) (x1 : Int32) (x2 : Int32) (x3 : Int32) (x4 : Int32) (x5 : Int32) (x6 : Int32) (x7 : Int32) (x8 : Int32) (x9 : Int32) (x10 : Int32) (x11 : Int32) (x12 : Int32) (x13 : Int32), pq_ok G 10 a0 → F_L_isQuotation_b178 G n S a0 x1 x2 x3 x4 x5 x6 x7 x8 x9 x10 x11 x12 x13 = some (r, S1) → pq_V p l e (headSpec wsL_isQuotation ({ frames := 7, cells := 0, slots := 0, locals := 174 } : Room)).room s m av below meth c 0 0 (MQ below (pq_Qi D y G s.heap.size r S1) av s 0 0 (pq_A G s.heap.size)) D y 16 (pq_A G s.heap.size) (fun _ => True) G S 178 [(0, .ref a0), (1, .int x1), (2, .int x2), (3, .int x3), (4, .int x4), (5, .int x5), (6, .int x6), (7, .int x7), (8, .int x8), (9, .int x9), (10, .int x10), (11, .int x11), (12, .int x12), (13, .int x13)] [] := by
  induction n with
  | zero =>
    intro S a0 x1 x2 x3 x4 x5 x6 x7 x8 x9 x10 x11 x12 x13 k0_ h
    rw [F_L_isQuotation_b178.eq_1] at h; cases h
  | succ n ih =>
    intro S a0 x1 x2 x3 x4 x5 x6 x7 x8 x9 x10 x11 x12 x13 k0_ h
    rw [F_L_isQuotation_b178.eq_2] at h
    refine pv_iload C 13 dL_isQuotation_178 rfl ?_
    refine pv_iload C 5 dL_isQuotation_180 rfl ?_
    refine pv_icmp_ge (tgt := 214) C dL_isQuotation_182 (by decide) (fun c65 => ?_) (fun c65 => ?_)
    · have h := pq_it c65 h
      refine pv_sub [0, 1, 2, 3, 5, 6, 7, 8, 9, 10, 11, 12] rfl ?_
      exact r_L_isQuotation_b214 W0 C hr hlk _ _ _ _ _ _ _ _ _ _ _ _ _ k0_ h
    · have h := pq_if c65 h
      refine pv_iload C 12 dL_isQuotation_185 rfl ?_
      refine pv_if_eq (tgt := 214) C dL_isQuotation_187 (by decide) (fun c66 => ?_) (fun c66 => ?_)
      · have h := pq_it c66 h
        refine pv_sub [0, 1, 2, 3, 5, 6, 7, 8, 9, 10, 11, 12] rfl ?_
        exact r_L_isQuotation_b214 W0 C hr hlk _ _ _ _ _ _ _ _ _ _ _ _ _ k0_ h
      · have h := pq_if c66 h
        refine pv_aload_n C 0 dL_isQuotation_190 rfl rfl ?_
        refine pv_iload_n C 1 dL_isQuotation_191 rfl rfl ?_
        refine pv_iload C 4 dL_isQuotation_192 rfl ?_
        refine pv_iload C 13 dL_isQuotation_194 rfl ?_
        refine pv_iadd C dL_isQuotation_196 ?_
        refine pv_iload_n C 3 dL_isQuotation_197 rfl rfl ?_
        refine pv_iload C 7 dL_isQuotation_198 rfl ?_
        refine pv_iload C 13 dL_isQuotation_200 rfl ?_
        refine pv_iadd C dL_isQuotation_202 ?_
        obtain ⟨v67, S68, e69, h⟩ := pq_bs h
        refine pv_calliV C (ci := 10) rfl (by decide) k0_ [.int x1, .int (x4 + x13), .int x3, .int (x7 + x13)] (fun sz => e_X10_isSameWord W0 k0_ e69 sz) (cwV 4 C.1.2.2.2.2 gL_isQuotation_X10_isSameWord rfl rfl rfl (by decide +kernel) ⟨Nat.le_of_ble_eq_true rfl, Nat.le_of_ble_eq_true rfl⟩) rfl rfl (Nat.le_of_ble_eq_true rfl) dL_isQuotation_203 ⟨Nat.le_of_ble_eq_true rfl, Nat.le_of_ble_eq_true rfl⟩ ?_
        refine pv_istore C [(12, .int v67), (0, .ref a0), (1, .int x1), (2, .int x2), (3, .int x3), (4, .int x4), (5, .int x5), (6, .int x6), (7, .int x7), (8, .int x8), (9, .int x9), (10, .int x10), (11, .int x11), (13, .int x13)] dL_isQuotation_206 (by decide) rfl ?_
        refine pv_iinc (v := (x13 + (1 : Int32))) C 13 [(13, .int (x13 + (1 : Int32))), (12, .int v67), (0, .ref a0), (1, .int x1), (2, .int x2), (3, .int x3), (4, .int x4), (5, .int x5), (6, .int x6), (7, .int x7), (8, .int x8), (9, .int x9), (10, .int x10), (11, .int x11)] dL_isQuotation_208 rfl rfl (by decide) rfl ?_
        refine pv_goto (tgt := 178) C dL_isQuotation_211 (by decide) ?_
        refine pv_sub [2, 3, 4, 5, 6, 7, 8, 9, 10, 11, 12, 13, 1, 0] rfl ?_
        exact ih _ _ _ _ _ _ _ _ _ _ _ _ _ _ _ k0_ h
set_option maxHeartbeats 4000000 in
set_option maxRecDepth 100000 in
theorem r_L_isQuotation {l : Launch} {D : va_G} {y : pq_Y} {G : pq_G} (W0 : pq_WT G) {S : pq_N} {a0 : Nat} {x1 : Int32} {x2 : Int32} (k0_ : pq_ok G 10 a0) {r : Int32} {S1 : pq_N} (h : F_L_isQuotation G S a0 x1 x2 = some (r, S1)) (sz : Nat) : Met l yL_isQuotation wsL_isQuotation ({ frames := 7, cells := 0, slots := 0, locals := 174 } : Room) (pq_P D y G S sz [.ref a0, .int x1, .int x2]) (pq_Qi D y G sz r S1) 0 0 (pq_A G sz) := by
  refine pq_enter RL 16 (by decide) rfl rfl rfl ?_
  intro p e s m below meth c C hsz hr hlk
  subst hsz
  unfold F_L_isQuotation at h
  refine pv_sub (lo1 := [(0, .ref a0), (1, .int x1), (2, .int x2)]) [0, 1, 2] rfl ?_
  refine pv_aload_n C 0 dL_isQuotation_0 rfl rfl ?_
  refine pv_iload_n C 1 dL_isQuotation_1 rfl rfl ?_
  refine pv_iload_n C 2 dL_isQuotation_2 rfl rfl ?_
  obtain ⟨v11, S12, e13, h⟩ := pq_bs h
  refine pv_calliV C (ci := 10) rfl (by decide) k0_ [.int x1, .int x2] (fun sz => e_X10_sourceOf W0 k0_ e13 sz) (cwV 2 C.1.2.2.2.2 gL_isQuotation_X10_sourceOf rfl rfl rfl (by decide +kernel) ⟨Nat.le_of_ble_eq_true rfl, Nat.le_of_ble_eq_true rfl⟩) rfl rfl (Nat.le_of_ble_eq_true rfl) dL_isQuotation_3 ⟨Nat.le_of_ble_eq_true rfl, Nat.le_of_ble_eq_true rfl⟩ ?_
  refine pv_istore_n C [(3, .int v11), (0, .ref a0), (1, .int x1), (2, .int x2)] dL_isQuotation_6 rfl (by decide) rfl ?_
  refine pv_aload_n C 1 dL_isQuotation_7 rfl rfl ?_
  refine pv_iload_n C 2 dL_isQuotation_8 rfl rfl ?_
  refine pv_iload_n C 3 dL_isQuotation_9 rfl rfl ?_
  obtain ⟨v14, S15, e16, h⟩ := pq_bs h
  refine pv_calliV C (ci := 10) rfl (by decide) k0_ [.int x1, .int x2] (fun sz => e_X10_beginOf W0 k0_ e16 sz) (cwV 2 C.1.2.2.2.2 gL_isQuotation_X10_beginOf rfl rfl rfl (by decide +kernel) ⟨Nat.le_of_ble_eq_true rfl, Nat.le_of_ble_eq_true rfl⟩) rfl rfl (Nat.le_of_ble_eq_true rfl) dL_isQuotation_10 ⟨Nat.le_of_ble_eq_true rfl, Nat.le_of_ble_eq_true rfl⟩ ?_
  refine pv_istore C [(4, .int v14), (3, .int v11), (0, .ref a0), (1, .int x1), (2, .int x2)] dL_isQuotation_13 (by decide) rfl ?_
  refine pv_aload_n C 2 dL_isQuotation_15 rfl rfl ?_
  refine pv_iload_n C 3 dL_isQuotation_16 rfl rfl ?_
  refine pv_iload_n C 4 dL_isQuotation_17 rfl rfl ?_
  obtain ⟨v17, S18, e19, h⟩ := pq_bs h
  refine pv_calliV C (ci := 10) rfl (by decide) k0_ [.int x1, .int x2] (fun sz => e_X10_lengthOf W0 k0_ e19 sz) (cwV 2 C.1.2.2.2.2 gL_isQuotation_X10_lengthOf rfl rfl rfl (by decide +kernel) ⟨Nat.le_of_ble_eq_true rfl, Nat.le_of_ble_eq_true rfl⟩) rfl rfl (Nat.le_of_ble_eq_true rfl) dL_isQuotation_18 ⟨Nat.le_of_ble_eq_true rfl, Nat.le_of_ble_eq_true rfl⟩ ?_
  refine pv_istore C [(5, .int v17), (4, .int v14), (3, .int v11), (0, .ref a0), (1, .int x1), (2, .int x2)] dL_isQuotation_21 (by decide) rfl ?_
  refine pv_aload_n C 3 dL_isQuotation_23 rfl rfl ?_
  refine pv_iload_n C 4 dL_isQuotation_24 rfl rfl ?_
  refine pv_iload_n C 5 dL_isQuotation_25 rfl rfl ?_
  obtain ⟨v20, S21, e22, h⟩ := pq_bs h
  refine pv_calliV C (ci := 10) rfl (by decide) k0_ [.int x1, .int x2] (fun sz => e_X10_changesByTable W0 k0_ e22 sz) (cwV 2 C.1.2.2.2.2 gL_isQuotation_X10_changesByTable rfl rfl rfl (by decide +kernel) ⟨Nat.le_of_ble_eq_true rfl, Nat.le_of_ble_eq_true rfl⟩) rfl rfl (Nat.le_of_ble_eq_true rfl) dL_isQuotation_26 ⟨Nat.le_of_ble_eq_true rfl, Nat.le_of_ble_eq_true rfl⟩ ?_
  refine pv_istore C [(6, .int v20), (5, .int v17), (4, .int v14), (3, .int v11), (0, .ref a0), (1, .int x1), (2, .int x2)] dL_isQuotation_29 (by decide) rfl ?_
  refine pv_aload_n C 4 dL_isQuotation_31 rfl rfl ?_
  refine pv_iload_n C 5 dL_isQuotation_32 rfl rfl ?_
  refine pv_iload_n C 6 dL_isQuotation_33 rfl rfl ?_
  obtain ⟨v23, S24, e25, h⟩ := pq_bs h
  refine pv_calliV C (ci := 10) rfl (by decide) k0_ [.int x1, .int x2] (fun sz => e_X10_passageOf W0 k0_ e25 sz) (cwV 2 C.1.2.2.2.2 gL_isQuotation_X10_passageOf rfl rfl rfl (by decide +kernel) ⟨Nat.le_of_ble_eq_true rfl, Nat.le_of_ble_eq_true rfl⟩) rfl rfl (Nat.le_of_ble_eq_true rfl) dL_isQuotation_34 ⟨Nat.le_of_ble_eq_true rfl, Nat.le_of_ble_eq_true rfl⟩ ?_
  refine pv_istore C [(7, .int v23), (6, .int v20), (5, .int v17), (4, .int v14), (3, .int v11), (0, .ref a0), (1, .int x1), (2, .int x2)] dL_isQuotation_37 (by decide) rfl ?_
  refine pv_aload_n C 5 dL_isQuotation_39 rfl rfl ?_
  refine pv_iload_n C 6 dL_isQuotation_40 rfl rfl ?_
  refine pv_iload_n C 7 dL_isQuotation_41 rfl rfl ?_
  obtain ⟨v26, S27, e28, h⟩ := pq_bs h
  refine pv_calliV C (ci := 10) rfl (by decide) k0_ [.int x1, .int x2] (fun sz => e_X10_passageLength W0 k0_ e28 sz) (cwV 2 C.1.2.2.2.2 gL_isQuotation_X10_passageLength rfl rfl rfl (by decide +kernel) ⟨Nat.le_of_ble_eq_true rfl, Nat.le_of_ble_eq_true rfl⟩) rfl rfl (Nat.le_of_ble_eq_true rfl) dL_isQuotation_42 ⟨Nat.le_of_ble_eq_true rfl, Nat.le_of_ble_eq_true rfl⟩ ?_
  refine pv_istore C [(8, .int v26), (7, .int v23), (6, .int v20), (5, .int v17), (4, .int v14), (3, .int v11), (0, .ref a0), (1, .int x1), (2, .int x2)] dL_isQuotation_45 (by decide) rfl ?_
  refine pv_aload_n C 6 dL_isQuotation_47 rfl rfl ?_
  refine pv_iload_n C 7 dL_isQuotation_48 rfl rfl ?_
  refine pv_iload_n C 8 dL_isQuotation_49 rfl rfl ?_
  obtain ⟨v29, S30, e31, h⟩ := pq_bs h
  refine pv_calliV C (ci := 10) rfl (by decide) k0_ [.int x1, .int x2] (fun sz => e_X10_comesFrom W0 k0_ e31 sz) (cwV 2 C.1.2.2.2.2 gL_isQuotation_X10_comesFrom rfl rfl rfl (by decide +kernel) ⟨Nat.le_of_ble_eq_true rfl, Nat.le_of_ble_eq_true rfl⟩) rfl rfl (Nat.le_of_ble_eq_true rfl) dL_isQuotation_50 ⟨Nat.le_of_ble_eq_true rfl, Nat.le_of_ble_eq_true rfl⟩ ?_
  refine pv_istore C [(9, .int v29), (8, .int v26), (7, .int v23), (6, .int v20), (5, .int v17), (4, .int v14), (3, .int v11), (0, .ref a0), (1, .int x1), (2, .int x2)] dL_isQuotation_53 (by decide) rfl ?_
  refine pv_aload_n C 7 dL_isQuotation_55 rfl rfl ?_
  refine pv_iload_n C 8 dL_isQuotation_56 rfl rfl ?_
  refine pv_iload_n C 9 dL_isQuotation_57 rfl rfl ?_
  obtain ⟨v32, S33, e34, h⟩ := pq_bs h
  refine pv_calliV C (ci := 10) rfl (by decide) k0_ [.int x1, .int x2] (fun sz => e_X10_traceOf W0 k0_ e34 sz) (cwV 2 C.1.2.2.2.2 gL_isQuotation_X10_traceOf rfl rfl rfl (by decide +kernel) ⟨Nat.le_of_ble_eq_true rfl, Nat.le_of_ble_eq_true rfl⟩) rfl rfl (Nat.le_of_ble_eq_true rfl) dL_isQuotation_58 ⟨Nat.le_of_ble_eq_true rfl, Nat.le_of_ble_eq_true rfl⟩ ?_
  refine pv_istore C [(10, .int v32), (9, .int v29), (8, .int v26), (7, .int v23), (6, .int v20), (5, .int v17), (4, .int v14), (3, .int v11), (0, .ref a0), (1, .int x1), (2, .int x2)] dL_isQuotation_61 (by decide) rfl ?_
  refine pv_aload_n C 8 dL_isQuotation_63 rfl rfl ?_
  refine pv_iload_n C 9 dL_isQuotation_64 rfl rfl ?_
  refine pv_iload_n C 10 dL_isQuotation_65 rfl rfl ?_
  obtain ⟨v35, S36, e37, h⟩ := pq_bs h
  refine pv_calliV C (ci := 10) rfl (by decide) k0_ [.int x1, .int x2] (fun sz => e_X10_originOf W0 k0_ e37 sz) (cwV 2 C.1.2.2.2.2 gL_isQuotation_X10_originOf rfl rfl rfl (by decide +kernel) ⟨Nat.le_of_ble_eq_true rfl, Nat.le_of_ble_eq_true rfl⟩) rfl rfl (Nat.le_of_ble_eq_true rfl) dL_isQuotation_66 ⟨Nat.le_of_ble_eq_true rfl, Nat.le_of_ble_eq_true rfl⟩ ?_
  refine pv_istore C [(11, .int v35), (10, .int v32), (9, .int v29), (8, .int v26), (7, .int v23), (6, .int v20), (5, .int v17), (4, .int v14), (3, .int v11), (0, .ref a0), (1, .int x1), (2, .int x2)] dL_isQuotation_69 (by decide) rfl ?_
  refine pv_iload_n C 8 dL_isQuotation_71 rfl rfl ?_
  refine pv_if_lt (tgt := 159) C dL_isQuotation_72 (by decide) (fun c38 => ?_) (fun c38 => ?_)
  · have h := pq_it c38 h
    refine pv_iconst (v := 0) C dL_isQuotation_159 (by decide) ?_
    exact pv_zret C hr rfl hlk h dL_isQuotation_160
  · have h := pq_if c38 h
    refine pv_iload_n C 8 dL_isQuotation_75 rfl rfl ?_
    refine pv_iload_n C 10 dL_isQuotation_76 rfl rfl ?_
    refine pv_icmp_ge (tgt := 159) C dL_isQuotation_77 (by decide) (fun c39 => ?_) (fun c39 => ?_)
    · have h := pq_it c39 h
      refine pv_iconst (v := 0) C dL_isQuotation_159 (by decide) ?_
      exact pv_zret C hr rfl hlk h dL_isQuotation_160
    · have h := pq_if c39 h
      refine pv_aload_n C 9 dL_isQuotation_80 rfl rfl ?_
      refine pv_iload_n C 8 dL_isQuotation_81 rfl rfl ?_
      obtain ⟨v40, S41, e42, h⟩ := pq_bs h
      refine pv_calliV C (ci := 10) rfl (by decide) k0_ [.int v11] (fun sz => e_X10_dayOf W0 k0_ e42 sz) (cwV 1 C.1.2.2.2.2 gL_isQuotation_X10_dayOf rfl rfl rfl (by decide +kernel) ⟨Nat.le_of_ble_eq_true rfl, Nat.le_of_ble_eq_true rfl⟩) rfl rfl (Nat.le_of_ble_eq_true rfl) dL_isQuotation_82 ⟨Nat.le_of_ble_eq_true rfl, Nat.le_of_ble_eq_true rfl⟩ ?_
      refine pv_aload_n C 9 dL_isQuotation_85 rfl rfl ?_
      refine pv_iload_n C 10 dL_isQuotation_86 rfl rfl ?_
      obtain ⟨v43, S44, e45, h⟩ := pq_bs h
      refine pv_calliV C (ci := 10) rfl (by decide) k0_ [.int x1] (fun sz => e_X10_dayOf W0 k0_ e45 sz) (cwV 1 C.1.2.2.2.2 gL_isQuotation_X10_dayOf rfl rfl rfl (by decide +kernel) ⟨Nat.le_of_ble_eq_true rfl, Nat.le_of_ble_eq_true rfl⟩) rfl rfl (Nat.le_of_ble_eq_true rfl) dL_isQuotation_87 ⟨Nat.le_of_ble_eq_true rfl, Nat.le_of_ble_eq_true rfl⟩ ?_
      refine pv_icmp_ge (tgt := 159) C dL_isQuotation_90 (by decide) (fun c46 => ?_) (fun c46 => ?_)
      · have h := pq_it c46 h
        refine pv_iconst (v := 0) C dL_isQuotation_159 (by decide) ?_
        exact pv_zret C hr rfl hlk h dL_isQuotation_160
      · have h := pq_if c46 h
        refine pv_iload C 6 dL_isQuotation_93 rfl ?_
        refine pv_iconst (v := 1) C dL_isQuotation_95 (by decide) ?_
        refine pv_icmp_lt (tgt := 159) C dL_isQuotation_96 (by decide) (fun c47 => ?_) (fun c47 => ?_)
        · have h := pq_it c47 h
          refine pv_iconst (v := 0) C dL_isQuotation_159 (by decide) ?_
          exact pv_zret C hr rfl hlk h dL_isQuotation_160
        · have h := pq_if c47 h
          refine pv_iload C 7 dL_isQuotation_99 rfl ?_
          refine pv_iload C 6 dL_isQuotation_101 rfl ?_
          refine pv_iadd C dL_isQuotation_103 ?_
          refine pv_aload_n C 9 dL_isQuotation_104 rfl rfl ?_
          refine pv_iload_n C 10 dL_isQuotation_105 rfl rfl ?_
          obtain ⟨v48, S49, e50, h⟩ := pq_bs h
          refine pv_calliV C (ci := 10) rfl (by decide) k0_ [.int x1] (fun sz => e_X10_wordsOf W0 k0_ e50 sz) (cwV 1 C.1.2.2.2.2 gL_isQuotation_X10_wordsOf rfl rfl rfl (by decide +kernel) ⟨Nat.le_of_ble_eq_true rfl, Nat.le_of_ble_eq_true rfl⟩) rfl rfl (Nat.le_of_ble_eq_true rfl) dL_isQuotation_106 ⟨Nat.le_of_ble_eq_true rfl, Nat.le_of_ble_eq_true rfl⟩ ?_
          refine pv_icmp_gt (tgt := 159) C dL_isQuotation_109 (by decide) (fun c51 => ?_) (fun c51 => ?_)
          · have h := pq_it c51 h
            refine pv_iconst (v := 0) C dL_isQuotation_159 (by decide) ?_
            exact pv_zret C hr rfl hlk h dL_isQuotation_160
          · have h := pq_if c51 h
            refine pv_iload C 4 dL_isQuotation_112 rfl ?_
            refine pv_if_lt (tgt := 159) C dL_isQuotation_114 (by decide) (fun c52 => ?_) (fun c52 => ?_)
            · have h := pq_it c52 h
              refine pv_iconst (v := 0) C dL_isQuotation_159 (by decide) ?_
              exact pv_zret C hr rfl hlk h dL_isQuotation_160
            · have h := pq_if c52 h
              refine pv_iload C 3 dL_isQuotation_117 rfl ?_
              refine pv_iconst (v := 1) C dL_isQuotation_119 (by decide) ?_
              refine pv_icmp_lt (tgt := 159) C dL_isQuotation_120 (by decide) (fun c53 => ?_) (fun c53 => ?_)
              · have h := pq_it c53 h
                refine pv_iconst (v := 0) C dL_isQuotation_159 (by decide) ?_
                exact pv_zret C hr rfl hlk h dL_isQuotation_160
              · have h := pq_if c53 h
                refine pv_iload C 4 dL_isQuotation_123 rfl ?_
                refine pv_iload C 3 dL_isQuotation_125 rfl ?_
                refine pv_iadd C dL_isQuotation_127 ?_
                refine pv_aload_n C 9 dL_isQuotation_128 rfl rfl ?_
                refine pv_iload_n C 8 dL_isQuotation_129 rfl rfl ?_
                obtain ⟨v54, S55, e56, h⟩ := pq_bs h
                refine pv_calliV C (ci := 10) rfl (by decide) k0_ [.int v11] (fun sz => e_X10_wordsOf W0 k0_ e56 sz) (cwV 1 C.1.2.2.2.2 gL_isQuotation_X10_wordsOf rfl rfl rfl (by decide +kernel) ⟨Nat.le_of_ble_eq_true rfl, Nat.le_of_ble_eq_true rfl⟩) rfl rfl (Nat.le_of_ble_eq_true rfl) dL_isQuotation_130 ⟨Nat.le_of_ble_eq_true rfl, Nat.le_of_ble_eq_true rfl⟩ ?_
                refine pv_icmp_gt (tgt := 159) C dL_isQuotation_133 (by decide) (fun c57 => ?_) (fun c57 => ?_)
                · have h := pq_it c57 h
                  refine pv_iconst (v := 0) C dL_isQuotation_159 (by decide) ?_
                  exact pv_zret C hr rfl hlk h dL_isQuotation_160
                · have h := pq_if c57 h
                  refine pv_iload C 5 dL_isQuotation_136 rfl ?_
                  refine pv_aload_n C 9 dL_isQuotation_138 rfl rfl ?_
                  refine pv_iload_n C 10 dL_isQuotation_139 rfl rfl ?_
                  refine pv_iload_n C 11 dL_isQuotation_140 rfl rfl ?_
                  obtain ⟨v58, S59, e60, h⟩ := pq_bs h
                  refine pv_calliV C (ci := 10) rfl (by decide) k0_ [.int x1, .int x2] (fun sz => e_X10_changesByPassages W0 k0_ e60 sz) (cwV 2 C.1.2.2.2.2 gL_isQuotation_X10_changesByPassages rfl rfl rfl (by decide +kernel) ⟨Nat.le_of_ble_eq_true rfl, Nat.le_of_ble_eq_true rfl⟩) rfl rfl (Nat.le_of_ble_eq_true rfl) dL_isQuotation_141 ⟨Nat.le_of_ble_eq_true rfl, Nat.le_of_ble_eq_true rfl⟩ ?_
                  refine pv_icmp_ne (tgt := 159) C dL_isQuotation_144 (by decide) (fun c61 => ?_) (fun c61 => ?_)
                  · have h := pq_if c61 h
                    refine pv_iconst (v := 0) C dL_isQuotation_159 (by decide) ?_
                    exact pv_zret C hr rfl hlk h dL_isQuotation_160
                  · have h := pq_it c61 h
                    refine pv_iload C 5 dL_isQuotation_147 rfl ?_
                    refine pv_if_lt (tgt := 159) C dL_isQuotation_149 (by decide) (fun c62 => ?_) (fun c62 => ?_)
                    · have h := pq_it c62 h
                      refine pv_iconst (v := 0) C dL_isQuotation_159 (by decide) ?_
                      exact pv_zret C hr rfl hlk h dL_isQuotation_160
                    · have h := pq_if c62 h
                      refine pv_iload C 5 dL_isQuotation_152 rfl ?_
                      refine pv_iload C 6 dL_isQuotation_154 rfl ?_
                      refine pv_icmp_le (tgt := 161) C dL_isQuotation_156 (by decide) (fun c63 => ?_) (fun c63 => ?_)
                      · have h := pq_it c63 h
                        refine pv_iload C 3 dL_isQuotation_161 rfl ?_
                        refine pv_iload C 6 dL_isQuotation_163 rfl ?_
                        refine pv_icmp_ne (tgt := 172) C dL_isQuotation_165 (by decide) (fun c64 => ?_) (fun c64 => ?_)
                        · have h := pq_if c64 h
                          refine pv_iconst (v := 0) C dL_isQuotation_172 (by decide) ?_
                          refine pv_istore C [(12, .int (0 : Int32)), (11, .int v35), (10, .int v32), (9, .int v29), (8, .int v26), (7, .int v23), (6, .int v20), (5, .int v17), (4, .int v14), (3, .int v11), (0, .ref a0), (1, .int x1), (2, .int x2)] dL_isQuotation_173 (by decide) rfl ?_
                          refine pv_iconst (v := 0) C dL_isQuotation_175 (by decide) ?_
                          refine pv_istore C [(13, .int (0 : Int32)), (12, .int (0 : Int32)), (11, .int v35), (10, .int v32), (9, .int v29), (8, .int v26), (7, .int v23), (6, .int v20), (5, .int v17), (4, .int v14), (3, .int v11), (0, .ref a0), (1, .int x1), (2, .int x2)] dL_isQuotation_176 (by decide) rfl ?_
                          refine pv_sub [11, 12, 13, 10, 9, 8, 7, 6, 5, 4, 3, 2, 1, 0] rfl ?_
                          exact r_L_isQuotation_b178 W0 C hr hlk pq_fuel _ _ _ _ _ _ _ _ _ _ _ _ _ _ _ k0_ h
                        · have h := pq_it c64 h
                          refine pv_iconst (v := 1) C dL_isQuotation_168 (by decide) ?_
                          refine pv_goto (tgt := 173) C dL_isQuotation_169 (by decide) ?_
                          refine pv_istore C [(12, .int (1 : Int32)), (11, .int v35), (10, .int v32), (9, .int v29), (8, .int v26), (7, .int v23), (6, .int v20), (5, .int v17), (4, .int v14), (3, .int v11), (0, .ref a0), (1, .int x1), (2, .int x2)] dL_isQuotation_173 (by decide) rfl ?_
                          refine pv_iconst (v := 0) C dL_isQuotation_175 (by decide) ?_
                          refine pv_istore C [(13, .int (0 : Int32)), (12, .int (1 : Int32)), (11, .int v35), (10, .int v32), (9, .int v29), (8, .int v26), (7, .int v23), (6, .int v20), (5, .int v17), (4, .int v14), (3, .int v11), (0, .ref a0), (1, .int x1), (2, .int x2)] dL_isQuotation_176 (by decide) rfl ?_
                          refine pv_sub [11, 12, 13, 10, 9, 8, 7, 6, 5, 4, 3, 2, 1, 0] rfl ?_
                          exact r_L_isQuotation_b178 W0 C hr hlk pq_fuel _ _ _ _ _ _ _ _ _ _ _ _ _ _ _ k0_ h
                      · have h := pq_if c63 h
                        refine pv_iconst (v := 0) C dL_isQuotation_159 (by decide) ?_
                        exact pv_zret C hr rfl hlk h dL_isQuotation_160
