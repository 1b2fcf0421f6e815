theorem pq_cst_1 : Cond.castable (pq_E 1) (pq_E 1) ∈ pq_xw := by decide +kernel
theorem pq_cst_2 : Cond.castable (pq_E 2) (pq_E 2) ∈ pq_xw := by decide +kernel
theorem pq_cst_3 : Cond.castable (pq_E 3) (pq_E 3) ∈ pq_xw := by decide +kernel
def F_L_tryPrint (G : pq_G) (S : pq_N) (a0 : Nat) (x1 : Int32) : Option (Int32 × pq_N) := pq_bh (F_X10_print G S a0 x1) (fun k19 S12 => (if k19 = 1 then some ((-7001 : Int32), S12) else (if k19 = 2 then some ((-7002 : Int32), S12) else none))) (fun v11 S12 => some (v11, S12))
set_option maxHeartbeats 4000000 in
set_option maxRecDepth 100000 in
theorem r_L_tryPrint {l : Launch} (hl : l.stackTraces = false) {D : va_G} {y : pq_Y} {G : pq_G} (W0 : pq_WT G) {S : pq_N} {a0 : Nat} {x1 : Int32} (k0_ : pq_ok G 10 a0) {r : Int32} {S1 : pq_N} (h : F_L_tryPrint G S a0 x1 = some (r, S1)) (sz : Nat) : Met l yL_tryPrint wsL_tryPrint ({ frames := 7, cells := 1, slots := 6, locals := 151 } : Room) (pq_PX D y G S sz [.ref a0, .int x1]) (pq_Qi D y G sz r S1) 1 6 (pq_A G sz) := by
  refine pq_enterH RL 3 (by decide) rfl rfl rfl ?_
  intro p e s m below meth c C hsz hr hlk hX htab
  subst hsz
  unfold F_L_tryPrint at h
  refine pv_sub (lo1 := [(0, .ref a0), (1, .int x1)]) [0, 1] rfl ?_
  refine pv_aload_n C 0 dL_tryPrint_0 rfl rfl ?_
  refine pv_iload_n C 1 dL_tryPrint_1 rfl rfl ?_
  rcases pq_bhs h with ⟨k14, S12, e13, h⟩ | ⟨v11, S12, e13, h⟩
  · by_cases c15 : k14 = 1
    · have h := pq_it c15 h
      subst c15
      refine pv_xcalliVH C (kc := 1) (ks := 6) (ci := 10) rfl (by decide) k0_ hX [.int x1] (fun sz => r_X10_print hl W0 k0_ e13 sz) (cwV 1 C.1.2.2.2.2 gL_tryPrint_X10_print rfl rfl rfl (by decide +kernel) ⟨Nat.le_of_ble_eq_true rfl, Nat.le_of_ble_eq_true rfl⟩) rfl rfl (Nat.le_of_ble_eq_true rfl) dL_tryPrint_2 ⟨Nat.le_of_ble_eq_true rfl, Nat.le_of_ble_eq_true rfl⟩ [] ⟨0, 5, 6, 16⟩ [⟨0, 5, 11, 18⟩] (htab.trans rfl) (fun z hz => nomatch hz) rfl (by decide) (List.mem_of_getElem? (i := 1) rfl) pq_cst_1 (fun q9 => ?_)
      refine pv_astore_n C [(2, .ref q9), (0, .ref a0), (1, .int x1)] dL_tryPrint_6 rfl (by decide) rfl ?_
      refine pv_sipush (v := -7001) C dL_tryPrint_7 (by decide) ?_
      refine pv_wide (k := 1) (n := 6) (Nat.le_of_ble_eq_true rfl) (Nat.le_of_ble_eq_true rfl) ?_
      exact pv_iret C hr hlk h dL_tryPrint_10
    · have h := pq_if c15 h
      by_cases c17 : k14 = 2
      · have h := pq_it c17 h
        subst c17
        refine pv_xcalliVH C (kc := 1) (ks := 6) (ci := 10) rfl (by decide) k0_ hX [.int x1] (fun sz => r_X10_print hl W0 k0_ e13 sz) (cwV 1 C.1.2.2.2.2 gL_tryPrint_X10_print rfl rfl rfl (by decide +kernel) ⟨Nat.le_of_ble_eq_true rfl, Nat.le_of_ble_eq_true rfl⟩) rfl rfl (Nat.le_of_ble_eq_true rfl) dL_tryPrint_2 ⟨Nat.le_of_ble_eq_true rfl, Nat.le_of_ble_eq_true rfl⟩ [⟨0, 5, 6, 16⟩] ⟨0, 5, 11, 18⟩ [] (htab.trans rfl) (fun z hz => by rw [List.mem_singleton.mp hz]; exact Or.inr ⟨by decide, _, C.1.2.2.2.2 _ (List.mem_of_getElem? (i := 1) rfl), hX.2.2.2.2.1⟩) rfl (by decide) (List.mem_of_getElem? (i := 2) rfl) pq_cst_2 (fun q9 => ?_)
        refine pv_astore_n C [(2, .ref q9), (0, .ref a0), (1, .int x1)] dL_tryPrint_11 rfl (by decide) rfl ?_
        refine pv_sipush (v := -7002) C dL_tryPrint_12 (by decide) ?_
        refine pv_wide (k := 1) (n := 6) (Nat.le_of_ble_eq_true rfl) (Nat.le_of_ble_eq_true rfl) ?_
        exact pv_iret C hr hlk h dL_tryPrint_15
      · have h := pq_if c17 h
        cases h
  · refine pv_xcalliVR C (kc := 1) (ks := 6) (ci := 10) rfl (by decide) k0_ hX [.int x1] (fun sz => r_X10_print hl W0 k0_ e13 sz) (cwV 1 C.1.2.2.2.2 gL_tryPrint_X10_print rfl rfl rfl (by decide +kernel) ⟨Nat.le_of_ble_eq_true rfl, Nat.le_of_ble_eq_true rfl⟩) rfl rfl (Nat.le_of_ble_eq_true rfl) dL_tryPrint_2 ⟨Nat.le_of_ble_eq_true rfl, Nat.le_of_ble_eq_true rfl⟩ ?_
    refine pv_wide (k := 1) (n := 6) (Nat.le_of_ble_eq_true rfl) (Nat.le_of_ble_eq_true rfl) ?_
    exact pv_iret C hr hlk h dL_tryPrint_5
def F_L_tryMend (G : pq_G) (S : pq_N) (a0 : Nat) (x1 : Int32) (x2 : Int32) : Option (Int32 × pq_N) := pq_bh (F_X10_mend G S a0 x1 x2) (fun k19 S12 => (if k19 = 3 then some ((-7003 : Int32), S12) else (if k19 = 2 then some ((-7002 : Int32), S12) else none))) (fun v11 S12 => some (v11, S12))
set_option maxHeartbeats 4000000 in
set_option maxRecDepth 100000 in
theorem r_L_tryMend {l : Launch} (hl : l.stackTraces = false) {D : va_G} {y : pq_Y} {G : pq_G} (W0 : pq_WT G) {S : pq_N} {a0 : Nat} {x1 : Int32} {x2 : Int32} (k0_ : pq_ok G 10 a0) {r : Int32} {S1 : pq_N} (h : F_L_tryMend G S a0 x1 x2 = some (r, S1)) (sz : Nat) : Met l yL_tryMend wsL_tryMend ({ frames := 9, cells := 3, slots := 18, locals := 156 } : Room) (pq_PX D y G S sz [.ref a0, .int x1, .int x2]) (pq_Qi D y G sz r S1) 3 18 (pq_A G sz) := by
  refine pq_enterH RL 4 (by decide) rfl rfl rfl ?_
  intro p e s m below meth c C hsz hr hlk hX htab
  subst hsz
  unfold F_L_tryMend at h
  refine pv_sub (lo1 := [(0, .ref a0), (1, .int x1), (2, .int x2)]) [0, 1, 2] rfl ?_
  refine pv_aload_n C 0 dL_tryMend_0 rfl rfl ?_
  refine pv_iload_n C 1 dL_tryMend_1 rfl rfl ?_
  refine pv_iload_n C 2 dL_tryMend_2 rfl rfl ?_
  rcases pq_bhs h with ⟨k14, S12, e13, h⟩ | ⟨v11, S12, e13, h⟩
  · by_cases c15 : k14 = 3
    · have h := pq_it c15 h
      subst c15
      refine pv_xcalliVH C (kc := 3) (ks := 18) (ci := 10) rfl (by decide) k0_ hX [.int x1, .int x2] (fun sz => r_X10_mend hl W0 k0_ e13 sz) (cwV 2 C.1.2.2.2.2 gL_tryMend_X10_mend rfl rfl rfl (by decide +kernel) ⟨Nat.le_of_ble_eq_true rfl, Nat.le_of_ble_eq_true rfl⟩) rfl rfl (Nat.le_of_ble_eq_true rfl) dL_tryMend_3 ⟨Nat.le_of_ble_eq_true rfl, Nat.le_of_ble_eq_true rfl⟩ [] ⟨0, 6, 7, 24⟩ [⟨0, 6, 12, 18⟩] (htab.trans rfl) (fun z hz => nomatch hz) rfl (by decide) (List.mem_of_getElem? (i := 1) rfl) pq_cst_3 (fun q9 => ?_)
      refine pv_astore_n C [(3, .ref q9), (0, .ref a0), (1, .int x1), (2, .int x2)] dL_tryMend_7 rfl (by decide) rfl ?_
      refine pv_sipush (v := -7003) C dL_tryMend_8 (by decide) ?_
      refine pv_wide (k := 3) (n := 18) (Nat.le_of_ble_eq_true rfl) (Nat.le_of_ble_eq_true rfl) ?_
      exact pv_iret C hr hlk h dL_tryMend_11
    · have h := pq_if c15 h
      by_cases c17 : k14 = 2
      · have h := pq_it c17 h
        subst c17
        refine pv_xcalliVH C (kc := 3) (ks := 18) (ci := 10) rfl (by decide) k0_ hX [.int x1, .int x2] (fun sz => r_X10_mend hl W0 k0_ e13 sz) (cwV 2 C.1.2.2.2.2 gL_tryMend_X10_mend rfl rfl rfl (by decide +kernel) ⟨Nat.le_of_ble_eq_true rfl, Nat.le_of_ble_eq_true rfl⟩) rfl rfl (Nat.le_of_ble_eq_true rfl) dL_tryMend_3 ⟨Nat.le_of_ble_eq_true rfl, Nat.le_of_ble_eq_true rfl⟩ [⟨0, 6, 7, 24⟩] ⟨0, 6, 12, 18⟩ [] (htab.trans rfl) (fun z hz => by rw [List.mem_singleton.mp hz]; exact Or.inr ⟨by decide, _, C.1.2.2.2.2 _ (List.mem_of_getElem? (i := 1) rfl), hX.2.2.2.2.2⟩) rfl (by decide) (List.mem_of_getElem? (i := 2) rfl) pq_cst_2 (fun q9 => ?_)
        refine pv_astore_n C [(3, .ref q9), (0, .ref a0), (1, .int x1), (2, .int x2)] dL_tryMend_12 rfl (by decide) rfl ?_
        refine pv_sipush (v := -7002) C dL_tryMend_13 (by decide) ?_
        refine pv_wide (k := 3) (n := 18) (Nat.le_of_ble_eq_true rfl) (Nat.le_of_ble_eq_true rfl) ?_
        exact pv_iret C hr hlk h dL_tryMend_16
      · have h := pq_if c17 h
        cases h
  · refine pv_xcalliVR C (kc := 3) (ks := 18) (ci := 10) rfl (by decide) k0_ hX [.int x1, .int x2] (fun sz => r_X10_mend hl W0 k0_ e13 sz) (cwV 2 C.1.2.2.2.2 gL_tryMend_X10_mend rfl rfl rfl (by decide +kernel) ⟨Nat.le_of_ble_eq_true rfl, Nat.le_of_ble_eq_true rfl⟩) rfl rfl (Nat.le_of_ble_eq_true rfl) dL_tryMend_3 ⟨Nat.le_of_ble_eq_true rfl, Nat.le_of_ble_eq_true rfl⟩ ?_
    refine pv_wide (k := 3) (n := 18) (Nat.le_of_ble_eq_true rfl) (Nat.le_of_ble_eq_true rfl) ?_
    exact pv_iret C hr hlk h dL_tryMend_6
def F_L_tryWithdraw (G : pq_G) (S : pq_N) (a0 : Nat) : Option (Int32 × pq_N) := pq_bh (F_X10_withdraw G S a0) (fun k17 S12 => (if k17 = 2 then some ((-7002 : Int32), S12) else none)) (fun v11 S12 => some (v11, S12))
set_option maxHeartbeats 4000000 in
set_option maxRecDepth 100000 in
theorem r_L_tryWithdraw {l : Launch} (hl : l.stackTraces = false) {D : va_G} {y : pq_Y} {G : pq_G} (W0 : pq_WT G) {S : pq_N} {a0 : Nat} (k0_ : pq_ok G 10 a0) {r : Int32} {S1 : pq_N} (h : F_L_tryWithdraw G S a0 = some (r, S1)) (sz : Nat) : Met l yL_tryWithdraw wsL_tryWithdraw ({ frames := 7, cells := 1, slots := 6, locals := 133 } : Room) (pq_PX D y G S sz [.ref a0]) (pq_Qi D y G sz r S1) 1 6 (pq_A G sz) := by
  refine pq_enterH RL 2 (by decide) rfl rfl rfl ?_
  intro p e s m below meth c C hsz hr hlk hX htab
  subst hsz
  unfold F_L_tryWithdraw at h
  refine pv_sub (lo1 := [(0, .ref a0)]) [0] rfl ?_
  refine pv_aload_n C 0 dL_tryWithdraw_0 rfl rfl ?_
  rcases pq_bhs h with ⟨k14, S12, e13, h⟩ | ⟨v11, S12, e13, h⟩
  · by_cases c15 : k14 = 2
    · have h := pq_it c15 h
      subst c15
      refine pv_xcalliVH C (kc := 1) (ks := 6) (ci := 10) rfl (by decide) k0_ hX [] (fun sz => r_X10_withdraw hl W0 k0_ e13 sz) (cwV 0 C.1.2.2.2.2 gL_tryWithdraw_X10_withdraw rfl rfl rfl (by decide +kernel) ⟨Nat.le_of_ble_eq_true rfl, Nat.le_of_ble_eq_true rfl⟩) rfl rfl (Nat.le_of_ble_eq_true rfl) dL_tryWithdraw_1 ⟨Nat.le_of_ble_eq_true rfl, Nat.le_of_ble_eq_true rfl⟩ [] ⟨0, 4, 5, 18⟩ [] (htab.trans rfl) (fun z hz => nomatch hz) rfl (by decide) (List.mem_of_getElem? (i := 1) rfl) pq_cst_2 (fun q9 => ?_)
      refine pv_astore_n C [(1, .ref q9), (0, .ref a0)] dL_tryWithdraw_5 rfl (by decide) rfl ?_
      refine pv_sipush (v := -7002) C dL_tryWithdraw_6 (by decide) ?_
      refine pv_wide (k := 1) (n := 6) (Nat.le_of_ble_eq_true rfl) (Nat.le_of_ble_eq_true rfl) ?_
      exact pv_iret C hr hlk h dL_tryWithdraw_9
    · have h := pq_if c15 h
      cases h
  · refine pv_xcalliVR C (kc := 1) (ks := 6) (ci := 10) rfl (by decide) k0_ hX [] (fun sz => r_X10_withdraw hl W0 k0_ e13 sz) (cwV 0 C.1.2.2.2.2 gL_tryWithdraw_X10_withdraw rfl rfl rfl (by decide +kernel) ⟨Nat.le_of_ble_eq_true rfl, Nat.le_of_ble_eq_true rfl⟩) rfl rfl (Nat.le_of_ble_eq_true rfl) dL_tryWithdraw_1 ⟨Nat.le_of_ble_eq_true rfl, Nat.le_of_ble_eq_true rfl⟩ ?_
    refine pv_wide (k := 1) (n := 6) (Nat.le_of_ble_eq_true rfl) (Nat.le_of_ble_eq_true rfl) ?_
    exact pv_iret C hr hlk h dL_tryWithdraw_4
