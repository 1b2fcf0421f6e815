theorem pq_cst_1 : Cond.castable (pq_E 1) (pq_E 1) ∈ pq_xw := by decide +kernel
theorem pq_cst_2 : Cond.castable (pq_E 2) (pq_E 2) ∈ pq_xw := by decide +kernel
theorem pq_cst_3 : Cond.castable (pq_E 3) (pq_E 3) ∈ pq_xw := by decide +kernel
def F_L_print (G : pq_G) (S : pq_N) (a0 : Nat) (x1 : Int32) (a2 : Nat) : Option (Int32 × pq_N) := pq_bh (F_X10_print G S a0 x1) (fun k22 S12 => (if k22 = 1 then some ((1 : Int32), S12) else (if k22 = 2 then some ((2 : Int32), S12) else none))) (fun v11 S12 => (if (0 : Int32) < 0 ∨ pq_n G a2 ≤ (Int32.toNatClampNeg (0 : Int32)) then none else (pq_lt (pq_wj S12 a2 (Int32.toNatClampNeg (0 : Int32)) (Int32.toInt64 v11)) fun S20 => some ((0 : Int32), S20))))
set_option maxHeartbeats 4000000 in
set_option maxRecDepth 100000 in
theorem r_L_print {l : Launch} (hl : l.stackTraces = false) {D : va_G} {y : pq_Y} {G : pq_G} (W0 : pq_WT G) {S : pq_N} {a0 : Nat} {x1 : Int32} {a2 : Nat} (k0_ : pq_ok G 10 a0) (k2_ : pq_ok G 13 a2) {r : Int32} {S1 : pq_N} (h : F_L_print G S a0 x1 a2 = some (r, S1)) (sz : Nat) : Met l yL_print wsL_print ({ frames := 7, cells := 1, slots := 6, locals := 151 } : Room) (pq_PX D y G S sz [.ref a0, .int x1, .ref a2]) (pq_Qi D y G sz r S1) 1 6 (pq_A G sz) := by
  refine pq_enterH RL 4 (by decide) rfl rfl rfl ?_
  intro p e s m below meth c C hsz hr hlk hX htab
  subst hsz
  unfold F_L_print at h
  refine pv_sub (lo1 := [(0, .ref a0), (1, .int x1), (2, .ref a2)]) [0, 1, 2] rfl ?_
  refine pv_aload_n C 2 dL_print_0 rfl rfl ?_
  refine pv_iconst (v := 0) C dL_print_1 (by decide) ?_
  refine pv_aload_n C 0 dL_print_2 rfl rfl ?_
  refine pv_iload_n C 1 dL_print_3 rfl rfl ?_
  rcases pq_bhs h with ⟨k14, S12, e13, h⟩ | ⟨v11, S12, e13, h⟩
  · by_cases c15 : k14 = 1
    · have h := pq_it c15 h
      subst c15
      refine pv_xcalliVH C (kc := 1) (ks := 6) (ci := 10) rfl (by decide) k0_ hX [.int x1] (fun sz => r_X10_print hl W0 k0_ e13 sz) (cwV 1 C.1.2.2.2.2 gL_print_X10_print rfl rfl rfl (by decide +kernel) ⟨Nat.le_of_ble_eq_true rfl, Nat.le_of_ble_eq_true rfl⟩) rfl rfl (Nat.le_of_ble_eq_true rfl) dL_print_4 ⟨Nat.le_of_ble_eq_true rfl, Nat.le_of_ble_eq_true rfl⟩ [] ⟨0, 9, 12, 13⟩ [⟨0, 9, 15, 15⟩] (htab.trans rfl) (fun z hz => nomatch hz) rfl (by decide) (List.mem_of_getElem? (i := 1) rfl) pq_cst_1 (fun q9 => ?_)
      refine pv_astore_n C [(3, .ref q9), (0, .ref a0), (1, .int x1), (2, .ref a2)] dL_print_12 rfl (by decide) rfl ?_
      refine pv_iconst (v := 1) C dL_print_13 (by decide) ?_
      refine pv_wide (k := 1) (n := 6) (Nat.le_of_ble_eq_true rfl) (Nat.le_of_ble_eq_true rfl) ?_
      exact pv_iret C hr hlk h dL_print_14
    · have h := pq_if c15 h
      by_cases c17 : k14 = 2
      · have h := pq_it c17 h
        subst c17
        refine pv_xcalliVH C (kc := 1) (ks := 6) (ci := 10) rfl (by decide) k0_ hX [.int x1] (fun sz => r_X10_print hl W0 k0_ e13 sz) (cwV 1 C.1.2.2.2.2 gL_print_X10_print rfl rfl rfl (by decide +kernel) ⟨Nat.le_of_ble_eq_true rfl, Nat.le_of_ble_eq_true rfl⟩) rfl rfl (Nat.le_of_ble_eq_true rfl) dL_print_4 ⟨Nat.le_of_ble_eq_true rfl, Nat.le_of_ble_eq_true rfl⟩ [⟨0, 9, 12, 13⟩] ⟨0, 9, 15, 15⟩ [] (htab.trans rfl) (fun z hz => by rw [List.mem_singleton.mp hz]; exact Or.inr ⟨by decide, _, C.1.2.2.2.2 _ (List.mem_of_getElem? (i := 1) rfl), hX.2.2.2.2.1⟩) rfl (by decide) (List.mem_of_getElem? (i := 2) rfl) pq_cst_2 (fun q9 => ?_)
        refine pv_astore_n C [(3, .ref q9), (0, .ref a0), (1, .int x1), (2, .ref a2)] dL_print_15 rfl (by decide) rfl ?_
        refine pv_iconst (v := 2) C dL_print_16 (by decide) ?_
        refine pv_wide (k := 1) (n := 6) (Nat.le_of_ble_eq_true rfl) (Nat.le_of_ble_eq_true rfl) ?_
        exact pv_iret C hr hlk h dL_print_17
      · have h := pq_if c17 h
        cases h
  · refine pv_xcalliVR C (kc := 1) (ks := 6) (ci := 10) rfl (by decide) k0_ hX [.int x1] (fun sz => r_X10_print hl W0 k0_ e13 sz) (cwV 1 C.1.2.2.2.2 gL_print_X10_print rfl rfl rfl (by decide +kernel) ⟨Nat.le_of_ble_eq_true rfl, Nat.le_of_ble_eq_true rfl⟩) rfl rfl (Nat.le_of_ble_eq_true rfl) dL_print_4 ⟨Nat.le_of_ble_eq_true rfl, Nat.le_of_ble_eq_true rfl⟩ ?_
    refine pv_i2l C dL_print_7 ?_
    obtain ⟨g19, h⟩ := pq_gd h
    refine pv_lastore C k2_ g19 dL_print_8 ?_
    refine pv_nm (fun S20 e21 => ?_)
    have h := pq_ls e21 h
    refine pv_goto (tgt := 18) C dL_print_9 (by decide) ?_
    refine pv_iconst (v := 0) C dL_print_18 (by decide) ?_
    refine pv_wide (k := 1) (n := 6) (Nat.le_of_ble_eq_true rfl) (Nat.le_of_ble_eq_true rfl) ?_
    exact pv_iret C hr hlk h dL_print_19
def F_L_pass (G : pq_G) (S : pq_N) (a0 : Nat) (x1 : Int32) (a2 : Nat) : Option (Int32 × pq_N) := pq_bh (F_X10_pass G S a0 x1) (fun k20 S12 => (if k20 = 1 then some ((1 : Int32), S12) else none)) (fun v11 S12 => (if (0 : Int32) < 0 ∨ pq_n G a2 ≤ (Int32.toNatClampNeg (0 : Int32)) then none else (pq_lt (pq_wj S12 a2 (Int32.toNatClampNeg (0 : Int32)) (Int32.toInt64 v11)) fun S18 => some ((0 : Int32), S18))))
set_option maxHeartbeats 4000000 in
set_option maxRecDepth 100000 in
theorem r_L_pass {l : Launch} (hl : l.stackTraces = false) {D : va_G} {y : pq_Y} {G : pq_G} (W0 : pq_WT G) {S : pq_N} {a0 : Nat} {x1 : Int32} {a2 : Nat} (k0_ : pq_ok G 10 a0) (k2_ : pq_ok G 13 a2) {r : Int32} {S1 : pq_N} (h : F_L_pass G S a0 x1 a2 = some (r, S1)) (sz : Nat) : Met l yL_pass wsL_pass ({ frames := 7, cells := 1, slots := 6, locals := 134 } : Room) (pq_PX D y G S sz [.ref a0, .int x1, .ref a2]) (pq_Qi D y G sz r S1) 1 6 (pq_A G sz) := by
  refine pq_enterH RL 4 (by decide) rfl rfl rfl ?_
  intro p e s m below meth c C hsz hr hlk hX htab
  subst hsz
  unfold F_L_pass at h
  refine pv_sub (lo1 := [(0, .ref a0), (1, .int x1), (2, .ref a2)]) [0, 1, 2] rfl ?_
  refine pv_aload_n C 2 dL_pass_0 rfl rfl ?_
  refine pv_iconst (v := 0) C dL_pass_1 (by decide) ?_
  refine pv_aload_n C 0 dL_pass_2 rfl rfl ?_
  refine pv_iload_n C 1 dL_pass_3 rfl rfl ?_
  rcases pq_bhs h with ⟨k14, S12, e13, h⟩ | ⟨v11, S12, e13, h⟩
  · by_cases c15 : k14 = 1
    · have h := pq_it c15 h
      subst c15
      refine pv_xcalliVH C (kc := 1) (ks := 6) (ci := 10) rfl (by decide) k0_ hX [.int x1] (fun sz => r_X10_pass hl W0 k0_ e13 sz) (cwV 1 C.1.2.2.2.2 gL_pass_X10_pass rfl rfl rfl (by decide +kernel) ⟨Nat.le_of_ble_eq_true rfl, Nat.le_of_ble_eq_true rfl⟩) rfl rfl (Nat.le_of_ble_eq_true rfl) dL_pass_4 ⟨Nat.le_of_ble_eq_true rfl, Nat.le_of_ble_eq_true rfl⟩ [] ⟨0, 9, 12, 13⟩ [] (htab.trans rfl) (fun z hz => nomatch hz) rfl (by decide) (List.mem_of_getElem? (i := 1) rfl) pq_cst_1 (fun q9 => ?_)
      refine pv_astore_n C [(3, .ref q9), (0, .ref a0), (1, .int x1), (2, .ref a2)] dL_pass_12 rfl (by decide) rfl ?_
      refine pv_iconst (v := 1) C dL_pass_13 (by decide) ?_
      refine pv_wide (k := 1) (n := 6) (Nat.le_of_ble_eq_true rfl) (Nat.le_of_ble_eq_true rfl) ?_
      exact pv_iret C hr hlk h dL_pass_14
    · have h := pq_if c15 h
      cases h
  · refine pv_xcalliVR C (kc := 1) (ks := 6) (ci := 10) rfl (by decide) k0_ hX [.int x1] (fun sz => r_X10_pass hl W0 k0_ e13 sz) (cwV 1 C.1.2.2.2.2 gL_pass_X10_pass rfl rfl rfl (by decide +kernel) ⟨Nat.le_of_ble_eq_true rfl, Nat.le_of_ble_eq_true rfl⟩) rfl rfl (Nat.le_of_ble_eq_true rfl) dL_pass_4 ⟨Nat.le_of_ble_eq_true rfl, Nat.le_of_ble_eq_true rfl⟩ ?_
    refine pv_i2l C dL_pass_7 ?_
    obtain ⟨g17, h⟩ := pq_gd h
    refine pv_lastore C k2_ g17 dL_pass_8 ?_
    refine pv_nm (fun S18 e19 => ?_)
    have h := pq_ls e19 h
    refine pv_goto (tgt := 15) C dL_pass_9 (by decide) ?_
    refine pv_iconst (v := 0) C dL_pass_15 (by decide) ?_
    refine pv_wide (k := 1) (n := 6) (Nat.le_of_ble_eq_true rfl) (Nat.le_of_ble_eq_true rfl) ?_
    exact pv_iret C hr hlk h dL_pass_16
def F_L_mend (G : pq_G) (S : pq_N) (a0 : Nat) (x1 : Int32) (x2 : Int32) (a3 : Nat) : Option (Int32 × pq_N) := pq_bh (F_X10_mend G S a0 x1 x2) (fun k22 S12 => (if k22 = 3 then some ((1 : Int32), S12) else (if k22 = 2 then some ((2 : Int32), S12) else none))) (fun v11 S12 => (if (0 : Int32) < 0 ∨ pq_n G a3 ≤ (Int32.toNatClampNeg (0 : Int32)) then none else (pq_lt (pq_wj S12 a3 (Int32.toNatClampNeg (0 : Int32)) (Int32.toInt64 v11)) fun S20 => some ((0 : Int32), S20))))
set_option maxHeartbeats 4000000 in
set_option maxRecDepth 100000 in
theorem r_L_mend {l : Launch} (hl : l.stackTraces = false) {D : va_G} {y : pq_Y} {G : pq_G} (W0 : pq_WT G) {S : pq_N} {a0 : Nat} {x1 : Int32} {x2 : Int32} {a3 : Nat} (k0_ : pq_ok G 10 a0) (k3_ : pq_ok G 13 a3) {r : Int32} {S1 : pq_N} (h : F_L_mend G S a0 x1 x2 a3 = some (r, S1)) (sz : Nat) : Met l yL_mend wsL_mend ({ frames := 9, cells := 3, slots := 18, locals := 156 } : Room) (pq_PX D y G S sz [.ref a0, .int x1, .int x2, .ref a3]) (pq_Qi D y G sz r S1) 3 18 (pq_A G sz) := by
  refine pq_enterH RL 5 (by decide) rfl rfl rfl ?_
  intro p e s m below meth c C hsz hr hlk hX htab
  subst hsz
  unfold F_L_mend at h
  refine pv_sub (lo1 := [(0, .ref a0), (1, .int x1), (2, .int x2), (3, .ref a3)]) [0, 1, 2, 3] rfl ?_
  refine pv_aload_n C 3 dL_mend_0 rfl rfl ?_
  refine pv_iconst (v := 0) C dL_mend_1 (by decide) ?_
  refine pv_aload_n C 0 dL_mend_2 rfl rfl ?_
  refine pv_iload_n C 1 dL_mend_3 rfl rfl ?_
  refine pv_iload_n C 2 dL_mend_4 rfl rfl ?_
  rcases pq_bhs h with ⟨k14, S12, e13, h⟩ | ⟨v11, S12, e13, h⟩
  · by_cases c15 : k14 = 3
    · have h := pq_it c15 h
      subst c15
      refine pv_xcalliVH C (kc := 3) (ks := 18) (ci := 10) rfl (by decide) k0_ hX [.int x1, .int x2] (fun sz => r_X10_mend hl W0 k0_ e13 sz) (cwV 2 C.1.2.2.2.2 gL_mend_X10_mend rfl rfl rfl (by decide +kernel) ⟨Nat.le_of_ble_eq_true rfl, Nat.le_of_ble_eq_true rfl⟩) rfl rfl (Nat.le_of_ble_eq_true rfl) dL_mend_5 ⟨Nat.le_of_ble_eq_true rfl, Nat.le_of_ble_eq_true rfl⟩ [] ⟨0, 10, 13, 24⟩ [⟨0, 10, 17, 15⟩] (htab.trans rfl) (fun z hz => nomatch hz) rfl (by decide) (List.mem_of_getElem? (i := 1) rfl) pq_cst_3 (fun q9 => ?_)
      refine pv_astore C [(4, .ref q9), (0, .ref a0), (1, .int x1), (2, .int x2), (3, .ref a3)] dL_mend_13 (by decide) rfl ?_
      refine pv_iconst (v := 1) C dL_mend_15 (by decide) ?_
      refine pv_wide (k := 3) (n := 18) (Nat.le_of_ble_eq_true rfl) (Nat.le_of_ble_eq_true rfl) ?_
      exact pv_iret C hr hlk h dL_mend_16
    · have h := pq_if c15 h
      by_cases c17 : k14 = 2
      · have h := pq_it c17 h
        subst c17
        refine pv_xcalliVH C (kc := 3) (ks := 18) (ci := 10) rfl (by decide) k0_ hX [.int x1, .int x2] (fun sz => r_X10_mend hl W0 k0_ e13 sz) (cwV 2 C.1.2.2.2.2 gL_mend_X10_mend rfl rfl rfl (by decide +kernel) ⟨Nat.le_of_ble_eq_true rfl, Nat.le_of_ble_eq_true rfl⟩) rfl rfl (Nat.le_of_ble_eq_true rfl) dL_mend_5 ⟨Nat.le_of_ble_eq_true rfl, Nat.le_of_ble_eq_true rfl⟩ [⟨0, 10, 13, 24⟩] ⟨0, 10, 17, 15⟩ [] (htab.trans rfl) (fun z hz => by rw [List.mem_singleton.mp hz]; exact Or.inr ⟨by decide, _, C.1.2.2.2.2 _ (List.mem_of_getElem? (i := 1) rfl), hX.2.2.2.2.2⟩) rfl (by decide) (List.mem_of_getElem? (i := 2) rfl) pq_cst_2 (fun q9 => ?_)
        refine pv_astore C [(4, .ref q9), (0, .ref a0), (1, .int x1), (2, .int x2), (3, .ref a3)] dL_mend_17 (by decide) rfl ?_
        refine pv_iconst (v := 2) C dL_mend_19 (by decide) ?_
        refine pv_wide (k := 3) (n := 18) (Nat.le_of_ble_eq_true rfl) (Nat.le_of_ble_eq_true rfl) ?_
        exact pv_iret C hr hlk h dL_mend_20
      · have h := pq_if c17 h
        cases h
  · refine pv_xcalliVR C (kc := 3) (ks := 18) (ci := 10) rfl (by decide) k0_ hX [.int x1, .int x2] (fun sz => r_X10_mend hl W0 k0_ e13 sz) (cwV 2 C.1.2.2.2.2 gL_mend_X10_mend rfl rfl rfl (by decide +kernel) ⟨Nat.le_of_ble_eq_true rfl, Nat.le_of_ble_eq_true rfl⟩) rfl rfl (Nat.le_of_ble_eq_true rfl) dL_mend_5 ⟨Nat.le_of_ble_eq_true rfl, Nat.le_of_ble_eq_true rfl⟩ ?_
    refine pv_i2l C dL_mend_8 ?_
    obtain ⟨g19, h⟩ := pq_gd h
    refine pv_lastore C k3_ g19 dL_mend_9 ?_
    refine pv_nm (fun S20 e21 => ?_)
    have h := pq_ls e21 h
    refine pv_goto (tgt := 21) C dL_mend_10 (by decide) ?_
    refine pv_iconst (v := 0) C dL_mend_21 (by decide) ?_
    refine pv_wide (k := 3) (n := 18) (Nat.le_of_ble_eq_true rfl) (Nat.le_of_ble_eq_true rfl) ?_
    exact pv_iret C hr hlk h dL_mend_22
def F_L_withdraw (G : pq_G) (S : pq_N) (a0 : Nat) (a1 : Nat) : Option (Int32 × pq_N) := pq_bh (F_X10_withdraw G S a0) (fun k20 S12 => (if k20 = 2 then some ((1 : Int32), S12) else none)) (fun v11 S12 => (if (0 : Int32) < 0 ∨ pq_n G a1 ≤ (Int32.toNatClampNeg (0 : Int32)) then none else (pq_lt (pq_wj S12 a1 (Int32.toNatClampNeg (0 : Int32)) (Int32.toInt64 v11)) fun S18 => some ((0 : Int32), S18))))
set_option maxHeartbeats 4000000 in
set_option maxRecDepth 100000 in
theorem r_L_withdraw {l : Launch} (hl : l.stackTraces = false) {D : va_G} {y : pq_Y} {G : pq_G} (W0 : pq_WT G) {S : pq_N} {a0 : Nat} {a1 : Nat} (k0_ : pq_ok G 10 a0) (k1_ : pq_ok G 13 a1) {r : Int32} {S1 : pq_N} (h : F_L_withdraw G S a0 a1 = some (r, S1)) (sz : Nat) : Met l yL_withdraw wsL_withdraw ({ frames := 7, cells := 1, slots := 6, locals := 133 } : Room) (pq_PX D y G S sz [.ref a0, .ref a1]) (pq_Qi D y G sz r S1) 1 6 (pq_A G sz) := by
  refine pq_enterH RL 3 (by decide) rfl rfl rfl ?_
  intro p e s m below meth c C hsz hr hlk hX htab
  subst hsz
  unfold F_L_withdraw at h
  refine pv_sub (lo1 := [(0, .ref a0), (1, .ref a1)]) [0, 1] rfl ?_
  refine pv_aload_n C 1 dL_withdraw_0 rfl rfl ?_
  refine pv_iconst (v := 0) C dL_withdraw_1 (by decide) ?_
  refine pv_aload_n C 0 dL_withdraw_2 rfl rfl ?_
  rcases pq_bhs h with ⟨k14, S12, e13, h⟩ | ⟨v11, S12, e13, h⟩
  · by_cases c15 : k14 = 2
    · have h := pq_it c15 h
      subst c15
      refine pv_xcalliVH C (kc := 1) (ks := 6) (ci := 10) rfl (by decide) k0_ hX [] (fun sz => r_X10_withdraw hl W0 k0_ e13 sz) (cwV 0 C.1.2.2.2.2 gL_withdraw_X10_withdraw rfl rfl rfl (by decide +kernel) ⟨Nat.le_of_ble_eq_true rfl, Nat.le_of_ble_eq_true rfl⟩) rfl rfl (Nat.le_of_ble_eq_true rfl) dL_withdraw_3 ⟨Nat.le_of_ble_eq_true rfl, Nat.le_of_ble_eq_true rfl⟩ [] ⟨0, 8, 11, 15⟩ [] (htab.trans rfl) (fun z hz => nomatch hz) rfl (by decide) (List.mem_of_getElem? (i := 1) rfl) pq_cst_2 (fun q9 => ?_)
      refine pv_astore_n C [(2, .ref q9), (0, .ref a0), (1, .ref a1)] dL_withdraw_11 rfl (by decide) rfl ?_
      refine pv_iconst (v := 1) C dL_withdraw_12 (by decide) ?_
      refine pv_wide (k := 1) (n := 6) (Nat.le_of_ble_eq_true rfl) (Nat.le_of_ble_eq_true rfl) ?_
      exact pv_iret C hr hlk h dL_withdraw_13
    · have h := pq_if c15 h
      cases h
  · refine pv_xcalliVR C (kc := 1) (ks := 6) (ci := 10) rfl (by decide) k0_ hX [] (fun sz => r_X10_withdraw hl W0 k0_ e13 sz) (cwV 0 C.1.2.2.2.2 gL_withdraw_X10_withdraw rfl rfl rfl (by decide +kernel) ⟨Nat.le_of_ble_eq_true rfl, Nat.le_of_ble_eq_true rfl⟩) rfl rfl (Nat.le_of_ble_eq_true rfl) dL_withdraw_3 ⟨Nat.le_of_ble_eq_true rfl, Nat.le_of_ble_eq_true rfl⟩ ?_
    refine pv_i2l C dL_withdraw_6 ?_
    obtain ⟨g17, h⟩ := pq_gd h
    refine pv_lastore C k1_ g17 dL_withdraw_7 ?_
    refine pv_nm (fun S18 e19 => ?_)
    have h := pq_ls e19 h
    refine pv_goto (tgt := 14) C dL_withdraw_8 (by decide) ?_
    refine pv_iconst (v := 0) C dL_withdraw_14 (by decide) ?_
    refine pv_wide (k := 1) (n := 6) (Nat.le_of_ble_eq_true rfl) (Nat.le_of_ble_eq_true rfl) ?_
    exact pv_iret C hr hlk h dL_withdraw_15
def F_L_authorOf (G : pq_G) (S : pq_N) (a0 : Nat) (x1 : Int32) (a2 : Nat) : Option (Int32 × pq_N) := pq_bh (F_X10_authorOf G S a0 x1) (fun k20 S12 => (if k20 = 3 then some ((1 : Int32), S12) else none)) (fun v11 S12 => (if (0 : Int32) < 0 ∨ pq_n G a2 ≤ (Int32.toNatClampNeg (0 : Int32)) then none else (pq_lt (pq_wj S12 a2 (Int32.toNatClampNeg (0 : Int32)) (Int32.toInt64 v11)) fun S18 => some ((0 : Int32), S18))))
set_option maxHeartbeats 4000000 in
set_option maxRecDepth 100000 in
theorem r_L_authorOf {l : Launch} (hl : l.stackTraces = false) {D : va_G} {y : pq_Y} {G : pq_G} (W0 : pq_WT G) {S : pq_N} {a0 : Nat} {x1 : Int32} {a2 : Nat} (k0_ : pq_ok G 10 a0) (k2_ : pq_ok G 13 a2) {r : Int32} {S1 : pq_N} (h : F_L_authorOf G S a0 x1 a2 = some (r, S1)) (sz : Nat) : Met l yL_authorOf wsL_authorOf ({ frames := 8, cells := 1, slots := 6, locals := 132 } : Room) (pq_PX D y G S sz [.ref a0, .int x1, .ref a2]) (pq_Qi D y G sz r S1) 1 6 (pq_A G sz) := by
  refine pq_enterH RL 4 (by decide) rfl rfl rfl ?_
  intro p e s m below meth c C hsz hr hlk hX htab
  subst hsz
  unfold F_L_authorOf at h
  refine pv_sub (lo1 := [(0, .ref a0), (1, .int x1), (2, .ref a2)]) [0, 1, 2] rfl ?_
  refine pv_aload_n C 2 dL_authorOf_0 rfl rfl ?_
  refine pv_iconst (v := 0) C dL_authorOf_1 (by decide) ?_
  refine pv_aload_n C 0 dL_authorOf_2 rfl rfl ?_
  refine pv_iload_n C 1 dL_authorOf_3 rfl rfl ?_
  rcases pq_bhs h with ⟨k14, S12, e13, h⟩ | ⟨v11, S12, e13, h⟩
  · by_cases c15 : k14 = 3
    · have h := pq_it c15 h
      subst c15
      refine pv_xcalliVH C (kc := 1) (ks := 6) (ci := 10) rfl (by decide) k0_ hX [.int x1] (fun sz => r_X10_authorOf hl W0 k0_ e13 sz) (cwV 1 C.1.2.2.2.2 gL_authorOf_X10_authorOf rfl rfl rfl (by decide +kernel) ⟨Nat.le_of_ble_eq_true rfl, Nat.le_of_ble_eq_true rfl⟩) rfl rfl (Nat.le_of_ble_eq_true rfl) dL_authorOf_4 ⟨Nat.le_of_ble_eq_true rfl, Nat.le_of_ble_eq_true rfl⟩ [] ⟨0, 9, 12, 24⟩ [] (htab.trans rfl) (fun z hz => nomatch hz) rfl (by decide) (List.mem_of_getElem? (i := 1) rfl) pq_cst_3 (fun q9 => ?_)
      refine pv_astore_n C [(3, .ref q9), (0, .ref a0), (1, .int x1), (2, .ref a2)] dL_authorOf_12 rfl (by decide) rfl ?_
      refine pv_iconst (v := 1) C dL_authorOf_13 (by decide) ?_
      refine pv_wide (k := 1) (n := 6) (Nat.le_of_ble_eq_true rfl) (Nat.le_of_ble_eq_true rfl) ?_
      exact pv_iret C hr hlk h dL_authorOf_14
    · have h := pq_if c15 h
      cases h
  · refine pv_xcalliVR C (kc := 1) (ks := 6) (ci := 10) rfl (by decide) k0_ hX [.int x1] (fun sz => r_X10_authorOf hl W0 k0_ e13 sz) (cwV 1 C.1.2.2.2.2 gL_authorOf_X10_authorOf rfl rfl rfl (by decide +kernel) ⟨Nat.le_of_ble_eq_true rfl, Nat.le_of_ble_eq_true rfl⟩) rfl rfl (Nat.le_of_ble_eq_true rfl) dL_authorOf_4 ⟨Nat.le_of_ble_eq_true rfl, Nat.le_of_ble_eq_true rfl⟩ ?_
    refine pv_i2l C dL_authorOf_7 ?_
    obtain ⟨g17, h⟩ := pq_gd h
    refine pv_lastore C k2_ g17 dL_authorOf_8 ?_
    refine pv_nm (fun S18 e19 => ?_)
    have h := pq_ls e19 h
    refine pv_goto (tgt := 15) C dL_authorOf_9 (by decide) ?_
    refine pv_iconst (v := 0) C dL_authorOf_15 (by decide) ?_
    refine pv_wide (k := 1) (n := 6) (Nat.le_of_ble_eq_true rfl) (Nat.le_of_ble_eq_true rfl) ?_
    exact pv_iret C hr hlk h dL_authorOf_16
def F_L_dayOf (G : pq_G) (S : pq_N) (a0 : Nat) (x1 : Int32) (a2 : Nat) : Option (Int32 × pq_N) := pq_bh (F_X10_dayOf G S a0 x1) (fun k20 S12 => (if k20 = 3 then some ((1 : Int32), S12) else none)) (fun v11 S12 => (if (0 : Int32) < 0 ∨ pq_n G a2 ≤ (Int32.toNatClampNeg (0 : Int32)) then none else (pq_lt (pq_wj S12 a2 (Int32.toNatClampNeg (0 : Int32)) (Int32.toInt64 v11)) fun S18 => some ((0 : Int32), S18))))
set_option maxHeartbeats 4000000 in
set_option maxRecDepth 100000 in
theorem r_L_dayOf {l : Launch} (hl : l.stackTraces = false) {D : va_G} {y : pq_Y} {G : pq_G} (W0 : pq_WT G) {S : pq_N} {a0 : Nat} {x1 : Int32} {a2 : Nat} (k0_ : pq_ok G 10 a0) (k2_ : pq_ok G 13 a2) {r : Int32} {S1 : pq_N} (h : F_L_dayOf G S a0 x1 a2 = some (r, S1)) (sz : Nat) : Met l yL_dayOf wsL_dayOf ({ frames := 8, cells := 1, slots := 6, locals := 132 } : Room) (pq_PX D y G S sz [.ref a0, .int x1, .ref a2]) (pq_Qi D y G sz r S1) 1 6 (pq_A G sz) := by
  refine pq_enterH RL 4 (by decide) rfl rfl rfl ?_
  intro p e s m below meth c C hsz hr hlk hX htab
  subst hsz
  unfold F_L_dayOf at h
  refine pv_sub (lo1 := [(0, .ref a0), (1, .int x1), (2, .ref a2)]) [0, 1, 2] rfl ?_
  refine pv_aload_n C 2 dL_dayOf_0 rfl rfl ?_
  refine pv_iconst (v := 0) C dL_dayOf_1 (by decide) ?_
  refine pv_aload_n C 0 dL_dayOf_2 rfl rfl ?_
  refine pv_iload_n C 1 dL_dayOf_3 rfl rfl ?_
  rcases pq_bhs h with ⟨k14, S12, e13, h⟩ | ⟨v11, S12, e13, h⟩
  · by_cases c15 : k14 = 3
    · have h := pq_it c15 h
      subst c15
      refine pv_xcalliVH C (kc := 1) (ks := 6) (ci := 10) rfl (by decide) k0_ hX [.int x1] (fun sz => r_X10_dayOf hl W0 k0_ e13 sz) (cwV 1 C.1.2.2.2.2 gL_dayOf_X10_dayOf rfl rfl rfl (by decide +kernel) ⟨Nat.le_of_ble_eq_true rfl, Nat.le_of_ble_eq_true rfl⟩) rfl rfl (Nat.le_of_ble_eq_true rfl) dL_dayOf_4 ⟨Nat.le_of_ble_eq_true rfl, Nat.le_of_ble_eq_true rfl⟩ [] ⟨0, 9, 12, 24⟩ [] (htab.trans rfl) (fun z hz => nomatch hz) rfl (by decide) (List.mem_of_getElem? (i := 1) rfl) pq_cst_3 (fun q9 => ?_)
      refine pv_astore_n C [(3, .ref q9), (0, .ref a0), (1, .int x1), (2, .ref a2)] dL_dayOf_12 rfl (by decide) rfl ?_
      refine pv_iconst (v := 1) C dL_dayOf_13 (by decide) ?_
      refine pv_wide (k := 1) (n := 6) (Nat.le_of_ble_eq_true rfl) (Nat.le_of_ble_eq_true rfl) ?_
      exact pv_iret C hr hlk h dL_dayOf_14
    · have h := pq_if c15 h
      cases h
  · refine pv_xcalliVR C (kc := 1) (ks := 6) (ci := 10) rfl (by decide) k0_ hX [.int x1] (fun sz => r_X10_dayOf hl W0 k0_ e13 sz) (cwV 1 C.1.2.2.2.2 gL_dayOf_X10_dayOf rfl rfl rfl (by decide +kernel) ⟨Nat.le_of_ble_eq_true rfl, Nat.le_of_ble_eq_true rfl⟩) rfl rfl (Nat.le_of_ble_eq_true rfl) dL_dayOf_4 ⟨Nat.le_of_ble_eq_true rfl, Nat.le_of_ble_eq_true rfl⟩ ?_
    refine pv_i2l C dL_dayOf_7 ?_
    obtain ⟨g17, h⟩ := pq_gd h
    refine pv_lastore C k2_ g17 dL_dayOf_8 ?_
    refine pv_nm (fun S18 e19 => ?_)
    have h := pq_ls e19 h
    refine pv_goto (tgt := 15) C dL_dayOf_9 (by decide) ?_
    refine pv_iconst (v := 0) C dL_dayOf_15 (by decide) ?_
    refine pv_wide (k := 1) (n := 6) (Nat.le_of_ble_eq_true rfl) (Nat.le_of_ble_eq_true rfl) ?_
    exact pv_iret C hr hlk h dL_dayOf_16
def F_L_wordsOf (G : pq_G) (S : pq_N) (a0 : Nat) (x1 : Int32) (a2 : Nat) : Option (Int32 × pq_N) := pq_bh (F_X10_wordsOf G S a0 x1) (fun k20 S12 => (if k20 = 3 then some ((1 : Int32), S12) else none)) (fun v11 S12 => (if (0 : Int32) < 0 ∨ pq_n G a2 ≤ (Int32.toNatClampNeg (0 : Int32)) then none else (pq_lt (pq_wj S12 a2 (Int32.toNatClampNeg (0 : Int32)) (Int32.toInt64 v11)) fun S18 => some ((0 : Int32), S18))))
set_option maxHeartbeats 4000000 in
set_option maxRecDepth 100000 in
theorem r_L_wordsOf {l : Launch} (hl : l.stackTraces = false) {D : va_G} {y : pq_Y} {G : pq_G} (W0 : pq_WT G) {S : pq_N} {a0 : Nat} {x1 : Int32} {a2 : Nat} (k0_ : pq_ok G 10 a0) (k2_ : pq_ok G 13 a2) {r : Int32} {S1 : pq_N} (h : F_L_wordsOf G S a0 x1 a2 = some (r, S1)) (sz : Nat) : Met l yL_wordsOf wsL_wordsOf ({ frames := 8, cells := 1, slots := 6, locals := 132 } : Room) (pq_PX D y G S sz [.ref a0, .int x1, .ref a2]) (pq_Qi D y G sz r S1) 1 6 (pq_A G sz) := by
  refine pq_enterH RL 4 (by decide) rfl rfl rfl ?_
  intro p e s m below meth c C hsz hr hlk hX htab
  subst hsz
  unfold F_L_wordsOf at h
  refine pv_sub (lo1 := [(0, .ref a0), (1, .int x1), (2, .ref a2)]) [0, 1, 2] rfl ?_
  refine pv_aload_n C 2 dL_wordsOf_0 rfl rfl ?_
  refine pv_iconst (v := 0) C dL_wordsOf_1 (by decide) ?_
  refine pv_aload_n C 0 dL_wordsOf_2 rfl rfl ?_
  refine pv_iload_n C 1 dL_wordsOf_3 rfl rfl ?_
  rcases pq_bhs h with ⟨k14, S12, e13, h⟩ | ⟨v11, S12, e13, h⟩
  · by_cases c15 : k14 = 3
    · have h := pq_it c15 h
      subst c15
      refine pv_xcalliVH C (kc := 1) (ks := 6) (ci := 10) rfl (by decide) k0_ hX [.int x1] (fun sz => r_X10_wordsOf hl W0 k0_ e13 sz) (cwV 1 C.1.2.2.2.2 gL_wordsOf_X10_wordsOf rfl rfl rfl (by decide +kernel) ⟨Nat.le_of_ble_eq_true rfl, Nat.le_of_ble_eq_true rfl⟩) rfl rfl (Nat.le_of_ble_eq_true rfl) dL_wordsOf_4 ⟨Nat.le_of_ble_eq_true rfl, Nat.le_of_ble_eq_true rfl⟩ [] ⟨0, 9, 12, 24⟩ [] (htab.trans rfl) (fun z hz => nomatch hz) rfl (by decide) (List.mem_of_getElem? (i := 1) rfl) pq_cst_3 (fun q9 => ?_)
      refine pv_astore_n C [(3, .ref q9), (0, .ref a0), (1, .int x1), (2, .ref a2)] dL_wordsOf_12 rfl (by decide) rfl ?_
      refine pv_iconst (v := 1) C dL_wordsOf_13 (by decide) ?_
      refine pv_wide (k := 1) (n := 6) (Nat.le_of_ble_eq_true rfl) (Nat.le_of_ble_eq_true rfl) ?_
      exact pv_iret C hr hlk h dL_wordsOf_14
    · have h := pq_if c15 h
      cases h
  · refine pv_xcalliVR C (kc := 1) (ks := 6) (ci := 10) rfl (by decide) k0_ hX [.int x1] (fun sz => r_X10_wordsOf hl W0 k0_ e13 sz) (cwV 1 C.1.2.2.2.2 gL_wordsOf_X10_wordsOf rfl rfl rfl (by decide +kernel) ⟨Nat.le_of_ble_eq_true rfl, Nat.le_of_ble_eq_true rfl⟩) rfl rfl (Nat.le_of_ble_eq_true rfl) dL_wordsOf_4 ⟨Nat.le_of_ble_eq_true rfl, Nat.le_of_ble_eq_true rfl⟩ ?_
    refine pv_i2l C dL_wordsOf_7 ?_
    obtain ⟨g17, h⟩ := pq_gd h
    refine pv_lastore C k2_ g17 dL_wordsOf_8 ?_
    refine pv_nm (fun S18 e19 => ?_)
    have h := pq_ls e19 h
    refine pv_goto (tgt := 15) C dL_wordsOf_9 (by decide) ?_
    refine pv_iconst (v := 0) C dL_wordsOf_15 (by decide) ?_
    refine pv_wide (k := 1) (n := 6) (Nat.le_of_ble_eq_true rfl) (Nat.le_of_ble_eq_true rfl) ?_
    exact pv_iret C hr hlk h dL_wordsOf_16
def F_L_pagesOf (G : pq_G) (S : pq_N) (a0 : Nat) (x1 : Int32) (a2 : Nat) : Option (Int32 × pq_N) := pq_bh (F_X10_pagesOf G S a0 x1) (fun k20 S12 => (if k20 = 3 then some ((1 : Int32), S12) else none)) (fun v11 S12 => (if (0 : Int32) < 0 ∨ pq_n G a2 ≤ (Int32.toNatClampNeg (0 : Int32)) then none else (pq_lt (pq_wj S12 a2 (Int32.toNatClampNeg (0 : Int32)) (Int32.toInt64 v11)) fun S18 => some ((0 : Int32), S18))))
set_option maxHeartbeats 4000000 in
set_option maxRecDepth 100000 in
theorem r_L_pagesOf {l : Launch} (hl : l.stackTraces = false) {D : va_G} {y : pq_Y} {G : pq_G} (W0 : pq_WT G) {S : pq_N} {a0 : Nat} {x1 : Int32} {a2 : Nat} (k0_ : pq_ok G 10 a0) (k2_ : pq_ok G 13 a2) {r : Int32} {S1 : pq_N} (h : F_L_pagesOf G S a0 x1 a2 = some (r, S1)) (sz : Nat) : Met l yL_pagesOf wsL_pagesOf ({ frames := 8, cells := 1, slots := 6, locals := 132 } : Room) (pq_PX D y G S sz [.ref a0, .int x1, .ref a2]) (pq_Qi D y G sz r S1) 1 6 (pq_A G sz) := by
  refine pq_enterH RL 4 (by decide) rfl rfl rfl ?_
  intro p e s m below meth c C hsz hr hlk hX htab
  subst hsz
  unfold F_L_pagesOf at h
  refine pv_sub (lo1 := [(0, .ref a0), (1, .int x1), (2, .ref a2)]) [0, 1, 2] rfl ?_
  refine pv_aload_n C 2 dL_pagesOf_0 rfl rfl ?_
  refine pv_iconst (v := 0) C dL_pagesOf_1 (by decide) ?_
  refine pv_aload_n C 0 dL_pagesOf_2 rfl rfl ?_
  refine pv_iload_n C 1 dL_pagesOf_3 rfl rfl ?_
  rcases pq_bhs h with ⟨k14, S12, e13, h⟩ | ⟨v11, S12, e13, h⟩
  · by_cases c15 : k14 = 3
    · have h := pq_it c15 h
      subst c15
      refine pv_xcalliVH C (kc := 1) (ks := 6) (ci := 10) rfl (by decide) k0_ hX [.int x1] (fun sz => r_X10_pagesOf hl W0 k0_ e13 sz) (cwV 1 C.1.2.2.2.2 gL_pagesOf_X10_pagesOf rfl rfl rfl (by decide +kernel) ⟨Nat.le_of_ble_eq_true rfl, Nat.le_of_ble_eq_true rfl⟩) rfl rfl (Nat.le_of_ble_eq_true rfl) dL_pagesOf_4 ⟨Nat.le_of_ble_eq_true rfl, Nat.le_of_ble_eq_true rfl⟩ [] ⟨0, 9, 12, 24⟩ [] (htab.trans rfl) (fun z hz => nomatch hz) rfl (by decide) (List.mem_of_getElem? (i := 1) rfl) pq_cst_3 (fun q9 => ?_)
      refine pv_astore_n C [(3, .ref q9), (0, .ref a0), (1, .int x1), (2, .ref a2)] dL_pagesOf_12 rfl (by decide) rfl ?_
      refine pv_iconst (v := 1) C dL_pagesOf_13 (by decide) ?_
      refine pv_wide (k := 1) (n := 6) (Nat.le_of_ble_eq_true rfl) (Nat.le_of_ble_eq_true rfl) ?_
      exact pv_iret C hr hlk h dL_pagesOf_14
    · have h := pq_if c15 h
      cases h
  · refine pv_xcalliVR C (kc := 1) (ks := 6) (ci := 10) rfl (by decide) k0_ hX [.int x1] (fun sz => r_X10_pagesOf hl W0 k0_ e13 sz) (cwV 1 C.1.2.2.2.2 gL_pagesOf_X10_pagesOf rfl rfl rfl (by decide +kernel) ⟨Nat.le_of_ble_eq_true rfl, Nat.le_of_ble_eq_true rfl⟩) rfl rfl (Nat.le_of_ble_eq_true rfl) dL_pagesOf_4 ⟨Nat.le_of_ble_eq_true rfl, Nat.le_of_ble_eq_true rfl⟩ ?_
    refine pv_i2l C dL_pagesOf_7 ?_
    obtain ⟨g17, h⟩ := pq_gd h
    refine pv_lastore C k2_ g17 dL_pagesOf_8 ?_
    refine pv_nm (fun S18 e19 => ?_)
    have h := pq_ls e19 h
    refine pv_goto (tgt := 15) C dL_pagesOf_9 (by decide) ?_
    refine pv_iconst (v := 0) C dL_pagesOf_15 (by decide) ?_
    refine pv_wide (k := 1) (n := 6) (Nat.le_of_ble_eq_true rfl) (Nat.le_of_ble_eq_true rfl) ?_
    exact pv_iret C hr hlk h dL_pagesOf_16
def F_L_wordsOn (G : pq_G) (S : pq_N) (a0 : Nat) (x1 : Int32) (x2 : Int32) (a3 : Nat) : Option (Int32 × pq_N) := pq_bh (F_X10_wordsOn G S a0 x1 x2) (fun k20 S12 => (if k20 = 3 then some ((1 : Int32), S12) else none)) (fun v11 S12 => (if (0 : Int32) < 0 ∨ pq_n G a3 ≤ (Int32.toNatClampNeg (0 : Int32)) then none else (pq_lt (pq_wj S12 a3 (Int32.toNatClampNeg (0 : Int32)) (Int32.toInt64 v11)) fun S18 => some ((0 : Int32), S18))))
set_option maxHeartbeats 4000000 in
set_option maxRecDepth 100000 in
theorem r_L_wordsOn {l : Launch} (hl : l.stackTraces = false) {D : va_G} {y : pq_Y} {G : pq_G} (W0 : pq_WT G) {S : pq_N} {a0 : Nat} {x1 : Int32} {x2 : Int32} {a3 : Nat} (k0_ : pq_ok G 10 a0) (k3_ : pq_ok G 13 a3) {r : Int32} {S1 : pq_N} (h : F_L_wordsOn G S a0 x1 x2 a3 = some (r, S1)) (sz : Nat) : Met l yL_wordsOn wsL_wordsOn ({ frames := 8, cells := 2, slots := 12, locals := 134 } : Room) (pq_PX D y G S sz [.ref a0, .int x1, .int x2, .ref a3]) (pq_Qi D y G sz r S1) 2 12 (pq_A G sz) := by
  refine pq_enterH RL 5 (by decide) rfl rfl rfl ?_
  intro p e s m below meth c C hsz hr hlk hX htab
  subst hsz
  unfold F_L_wordsOn at h
  refine pv_sub (lo1 := [(0, .ref a0), (1, .int x1), (2, .int x2), (3, .ref a3)]) [0, 1, 2, 3] rfl ?_
  refine pv_aload_n C 3 dL_wordsOn_0 rfl rfl ?_
  refine pv_iconst (v := 0) C dL_wordsOn_1 (by decide) ?_
  refine pv_aload_n C 0 dL_wordsOn_2 rfl rfl ?_
  refine pv_iload_n C 1 dL_wordsOn_3 rfl rfl ?_
  refine pv_iload_n C 2 dL_wordsOn_4 rfl rfl ?_
  rcases pq_bhs h with ⟨k14, S12, e13, h⟩ | ⟨v11, S12, e13, h⟩
  · by_cases c15 : k14 = 3
    · have h := pq_it c15 h
      subst c15
      refine pv_xcalliVH C (kc := 2) (ks := 12) (ci := 10) rfl (by decide) k0_ hX [.int x1, .int x2] (fun sz => r_X10_wordsOn hl W0 k0_ e13 sz) (cwV 2 C.1.2.2.2.2 gL_wordsOn_X10_wordsOn rfl rfl rfl (by decide +kernel) ⟨Nat.le_of_ble_eq_true rfl, Nat.le_of_ble_eq_true rfl⟩) rfl rfl (Nat.le_of_ble_eq_true rfl) dL_wordsOn_5 ⟨Nat.le_of_ble_eq_true rfl, Nat.le_of_ble_eq_true rfl⟩ [] ⟨0, 10, 13, 24⟩ [] (htab.trans rfl) (fun z hz => nomatch hz) rfl (by decide) (List.mem_of_getElem? (i := 1) rfl) pq_cst_3 (fun q9 => ?_)
      refine pv_astore C [(4, .ref q9), (0, .ref a0), (1, .int x1), (2, .int x2), (3, .ref a3)] dL_wordsOn_13 (by decide) rfl ?_
      refine pv_iconst (v := 1) C dL_wordsOn_15 (by decide) ?_
      refine pv_wide (k := 2) (n := 12) (Nat.le_of_ble_eq_true rfl) (Nat.le_of_ble_eq_true rfl) ?_
      exact pv_iret C hr hlk h dL_wordsOn_16
    · have h := pq_if c15 h
      cases h
  · refine pv_xcalliVR C (kc := 2) (ks := 12) (ci := 10) rfl (by decide) k0_ hX [.int x1, .int x2] (fun sz => r_X10_wordsOn hl W0 k0_ e13 sz) (cwV 2 C.1.2.2.2.2 gL_wordsOn_X10_wordsOn rfl rfl rfl (by decide +kernel) ⟨Nat.le_of_ble_eq_true rfl, Nat.le_of_ble_eq_true rfl⟩) rfl rfl (Nat.le_of_ble_eq_true rfl) dL_wordsOn_5 ⟨Nat.le_of_ble_eq_true rfl, Nat.le_of_ble_eq_true rfl⟩ ?_
    refine pv_i2l C dL_wordsOn_8 ?_
    obtain ⟨g17, h⟩ := pq_gd h
    refine pv_lastore C k3_ g17 dL_wordsOn_9 ?_
    refine pv_nm (fun S18 e19 => ?_)
    have h := pq_ls e19 h
    refine pv_goto (tgt := 17) C dL_wordsOn_10 (by decide) ?_
    refine pv_iconst (v := 0) C dL_wordsOn_17 (by decide) ?_
    refine pv_wide (k := 2) (n := 12) (Nat.le_of_ble_eq_true rfl) (Nat.le_of_ble_eq_true rfl) ?_
    exact pv_iret C hr hlk h dL_wordsOn_18
def F_L_letterOf (G : pq_G) (S : pq_N) (a0 : Nat) (x1 : Int32) (x2 : Int32) (x3 : Int32) (a4 : Nat) : Option (Int32 × pq_N) := pq_bh (F_X10_letterOf G S a0 x1 x2 x3) (fun k20 S12 => (if k20 = 3 then some ((1 : Int32), S12) else none)) (fun v11 S12 => (if (0 : Int32) < 0 ∨ pq_n G a4 ≤ (Int32.toNatClampNeg (0 : Int32)) then none else (pq_lt (pq_wj S12 a4 (Int32.toNatClampNeg (0 : Int32)) (Int32.toInt64 v11)) fun S18 => some ((0 : Int32), S18))))
set_option maxHeartbeats 4000000 in
set_option maxRecDepth 100000 in
theorem r_L_letterOf {l : Launch} (hl : l.stackTraces = false) {D : va_G} {y : pq_Y} {G : pq_G} (W0 : pq_WT G) {S : pq_N} {a0 : Nat} {x1 : Int32} {x2 : Int32} {x3 : Int32} {a4 : Nat} (k0_ : pq_ok G 10 a0) (k4_ : pq_ok G 13 a4) {r : Int32} {S1 : pq_N} (h : F_L_letterOf G S a0 x1 x2 x3 a4 = some (r, S1)) (sz : Nat) : Met l yL_letterOf wsL_letterOf ({ frames := 9, cells := 3, slots := 18, locals := 156 } : Room) (pq_PX D y G S sz [.ref a0, .int x1, .int x2, .int x3, .ref a4]) (pq_Qi D y G sz r S1) 3 18 (pq_A G sz) := by
  refine pq_enterH RL 6 (by decide) rfl rfl rfl ?_
  intro p e s m below meth c C hsz hr hlk hX htab
  subst hsz
  unfold F_L_letterOf at h
  refine pv_sub (lo1 := [(0, .ref a0), (1, .int x1), (2, .int x2), (3, .int x3), (4, .ref a4)]) [0, 1, 2, 3, 4] rfl ?_
  refine pv_aload C 4 dL_letterOf_0 rfl ?_
  refine pv_iconst (v := 0) C dL_letterOf_2 (by decide) ?_
  refine pv_aload_n C 0 dL_letterOf_3 rfl rfl ?_
  refine pv_iload_n C 1 dL_letterOf_4 rfl rfl ?_
  refine pv_iload_n C 2 dL_letterOf_5 rfl rfl ?_
  refine pv_iload_n C 3 dL_letterOf_6 rfl rfl ?_
  rcases pq_bhs h with ⟨k14, S12, e13, h⟩ | ⟨v11, S12, e13, h⟩
  · by_cases c15 : k14 = 3
    · have h := pq_it c15 h
      subst c15
      refine pv_xcalliVH C (kc := 3) (ks := 18) (ci := 10) rfl (by decide) k0_ hX [.int x1, .int x2, .int x3] (fun sz => r_X10_letterOf hl W0 k0_ e13 sz) (cwV 3 C.1.2.2.2.2 gL_letterOf_X10_letterOf rfl rfl rfl (by decide +kernel) ⟨Nat.le_of_ble_eq_true rfl, Nat.le_of_ble_eq_true rfl⟩) rfl rfl (Nat.le_of_ble_eq_true rfl) dL_letterOf_7 ⟨Nat.le_of_ble_eq_true rfl, Nat.le_of_ble_eq_true rfl⟩ [] ⟨0, 12, 15, 24⟩ [] (htab.trans rfl) (fun z hz => nomatch hz) rfl (by decide) (List.mem_of_getElem? (i := 1) rfl) pq_cst_3 (fun q9 => ?_)
      refine pv_astore C [(5, .ref q9), (0, .ref a0), (1, .int x1), (2, .int x2), (3, .int x3), (4, .ref a4)] dL_letterOf_15 (by decide) rfl ?_
      refine pv_iconst (v := 1) C dL_letterOf_17 (by decide) ?_
      refine pv_wide (k := 3) (n := 18) (Nat.le_of_ble_eq_true rfl) (Nat.le_of_ble_eq_true rfl) ?_
      exact pv_iret C hr hlk h dL_letterOf_18
    · have h := pq_if c15 h
      cases h
  · refine pv_xcalliVR C (kc := 3) (ks := 18) (ci := 10) rfl (by decide) k0_ hX [.int x1, .int x2, .int x3] (fun sz => r_X10_letterOf hl W0 k0_ e13 sz) (cwV 3 C.1.2.2.2.2 gL_letterOf_X10_letterOf rfl rfl rfl (by decide +kernel) ⟨Nat.le_of_ble_eq_true rfl, Nat.le_of_ble_eq_true rfl⟩) rfl rfl (Nat.le_of_ble_eq_true rfl) dL_letterOf_7 ⟨Nat.le_of_ble_eq_true rfl, Nat.le_of_ble_eq_true rfl⟩ ?_
    refine pv_i2l C dL_letterOf_10 ?_
    obtain ⟨g17, h⟩ := pq_gd h
    refine pv_lastore C k4_ g17 dL_letterOf_11 ?_
    refine pv_nm (fun S18 e19 => ?_)
    have h := pq_ls e19 h
    refine pv_goto (tgt := 19) C dL_letterOf_12 (by decide) ?_
    refine pv_iconst (v := 0) C dL_letterOf_19 (by decide) ?_
    refine pv_wide (k := 3) (n := 18) (Nat.le_of_ble_eq_true rfl) (Nat.le_of_ble_eq_true rfl) ?_
    exact pv_iret C hr hlk h dL_letterOf_20
def F_L_isSameWord (G : pq_G) (S : pq_N) (a0 : Nat) (x1 : Int32) (x2 : Int32) (x3 : Int32) (x4 : Int32) (a5 : Nat) : Option (Int32 × pq_N) := pq_bh (F_X10_isSameWord G S a0 x1 x2 x3 x4) (fun k24 S12 => (if k24 = 3 then some ((1 : Int32), S12) else none)) (fun v11 S12 => (if v11 = (0 : Int32) then (if (0 : Int32) < 0 ∨ pq_n G a5 ≤ (Int32.toNatClampNeg (0 : Int32)) then none else (pq_lt (pq_wj S12 a5 (Int32.toNatClampNeg (0 : Int32)) (0 : Int64)) fun S19 => some ((0 : Int32), S19))) else (if (0 : Int32) < 0 ∨ pq_n G a5 ≤ (Int32.toNatClampNeg (0 : Int32)) then none else (pq_lt (pq_wj S12 a5 (Int32.toNatClampNeg (0 : Int32)) (1 : Int64)) fun S22 => some ((0 : Int32), S22)))))
set_option maxHeartbeats 4000000 in
set_option maxRecDepth 100000 in
theorem r_L_isSameWord {l : Launch} (hl : l.stackTraces = false) {D : va_G} {y : pq_Y} {G : pq_G} (W0 : pq_WT G) {S : pq_N} {a0 : Nat} {x1 : Int32} {x2 : Int32} {x3 : Int32} {x4 : Int32} {a5 : Nat} (k0_ : pq_ok G 10 a0) (k5_ : pq_ok G 13 a5) {r : Int32} {S1 : pq_N} (h : F_L_isSameWord G S a0 x1 x2 x3 x4 a5 = some (r, S1)) (sz : Nat) : Met l yL_isSameWord wsL_isSameWord ({ frames := 9, cells := 4, slots := 24, locals := 157 } : Room) (pq_PX D y G S sz [.ref a0, .int x1, .int x2, .int x3, .int x4, .ref a5]) (pq_Qi D y G sz r S1) 4 24 (pq_A G sz) := by
  refine pq_enterH RL 7 (by decide) rfl rfl rfl ?_
  intro p e s m below meth c C hsz hr hlk hX htab
  subst hsz
  unfold F_L_isSameWord at h
  refine pv_sub (lo1 := [(0, .ref a0), (1, .int x1), (2, .int x2), (3, .int x3), (4, .int x4), (5, .ref a5)]) [0, 1, 2, 3, 4, 5] rfl ?_
  refine pv_aload C 5 dL_isSameWord_0 rfl ?_
  refine pv_iconst (v := 0) C dL_isSameWord_2 (by decide) ?_
  refine pv_aload_n C 0 dL_isSameWord_3 rfl rfl ?_
  refine pv_iload_n C 1 dL_isSameWord_4 rfl rfl ?_
  refine pv_iload_n C 2 dL_isSameWord_5 rfl rfl ?_
  refine pv_iload_n C 3 dL_isSameWord_6 rfl rfl ?_
  refine pv_iload C 4 dL_isSameWord_7 rfl ?_
  rcases pq_bhs h with ⟨k14, S12, e13, h⟩ | ⟨v11, S12, e13, h⟩
  · by_cases c15 : k14 = 3
    · have h := pq_it c15 h
      subst c15
      refine pv_xcalliVH C (kc := 4) (ks := 24) (ci := 10) rfl (by decide) k0_ hX [.int x1, .int x2, .int x3, .int x4] (fun sz => r_X10_isSameWord hl W0 k0_ e13 sz) (cwV 4 C.1.2.2.2.2 gL_isSameWord_X10_isSameWord rfl rfl rfl (by decide +kernel) ⟨Nat.le_of_ble_eq_true rfl, Nat.le_of_ble_eq_true rfl⟩) rfl rfl (Nat.le_of_ble_eq_true rfl) dL_isSameWord_9 ⟨Nat.le_of_ble_eq_true rfl, Nat.le_of_ble_eq_true rfl⟩ [] ⟨0, 21, 24, 24⟩ [] (htab.trans rfl) (fun z hz => nomatch hz) rfl (by decide) (List.mem_of_getElem? (i := 1) rfl) pq_cst_3 (fun q9 => ?_)
      refine pv_astore C [(6, .ref q9), (0, .ref a0), (1, .int x1), (2, .int x2), (3, .int x3), (4, .int x4), (5, .ref a5)] dL_isSameWord_24 (by decide) rfl ?_
      refine pv_iconst (v := 1) C dL_isSameWord_26 (by decide) ?_
      refine pv_wide (k := 4) (n := 24) (Nat.le_of_ble_eq_true rfl) (Nat.le_of_ble_eq_true rfl) ?_
      exact pv_iret C hr hlk h dL_isSameWord_27
    · have h := pq_if c15 h
      cases h
  · refine pv_xcalliVR C (kc := 4) (ks := 24) (ci := 10) rfl (by decide) k0_ hX [.int x1, .int x2, .int x3, .int x4] (fun sz => r_X10_isSameWord hl W0 k0_ e13 sz) (cwV 4 C.1.2.2.2.2 gL_isSameWord_X10_isSameWord rfl rfl rfl (by decide +kernel) ⟨Nat.le_of_ble_eq_true rfl, Nat.le_of_ble_eq_true rfl⟩) rfl rfl (Nat.le_of_ble_eq_true rfl) dL_isSameWord_9 ⟨Nat.le_of_ble_eq_true rfl, Nat.le_of_ble_eq_true rfl⟩ ?_
    refine pv_if_eq (tgt := 19) C dL_isSameWord_12 (by decide) (fun c17 => ?_) (fun c17 => ?_)
    · have h := pq_it c17 h
      refine pv_lconst (v := 0) C dL_isSameWord_19 (by decide) ?_
      obtain ⟨g18, h⟩ := pq_gd h
      refine pv_lastore C k5_ g18 dL_isSameWord_20 ?_
      refine pv_nm (fun S19 e20 => ?_)
      have h := pq_ls e20 h
      refine pv_goto (tgt := 28) C dL_isSameWord_21 (by decide) ?_
      refine pv_iconst (v := 0) C dL_isSameWord_28 (by decide) ?_
      refine pv_wide (k := 4) (n := 24) (Nat.le_of_ble_eq_true rfl) (Nat.le_of_ble_eq_true rfl) ?_
      exact pv_iret C hr hlk h dL_isSameWord_29
    · have h := pq_if c17 h
      refine pv_lconst (v := 1) C dL_isSameWord_15 (by decide) ?_
      refine pv_goto (tgt := 20) C dL_isSameWord_16 (by decide) ?_
      obtain ⟨g21, h⟩ := pq_gd h
      refine pv_lastore C k5_ g21 dL_isSameWord_20 ?_
      refine pv_nm (fun S22 e23 => ?_)
      have h := pq_ls e23 h
      refine pv_goto (tgt := 28) C dL_isSameWord_21 (by decide) ?_
      refine pv_iconst (v := 0) C dL_isSameWord_28 (by decide) ?_
      refine pv_wide (k := 4) (n := 24) (Nat.le_of_ble_eq_true rfl) (Nat.le_of_ble_eq_true rfl) ?_
      exact pv_iret C hr hlk h dL_isSameWord_29
def F_L_quotationsOf (G : pq_G) (S : pq_N) (a0 : Nat) (x1 : Int32) (a2 : Nat) : Option (Int32 × pq_N) := pq_bh (F_X10_quotationsOf G S a0 x1) (fun k20 S12 => (if k20 = 3 then some ((1 : Int32), S12) else none)) (fun v11 S12 => (if (0 : Int32) < 0 ∨ pq_n G a2 ≤ (Int32.toNatClampNeg (0 : Int32)) then none else (pq_lt (pq_wj S12 a2 (Int32.toNatClampNeg (0 : Int32)) (Int32.toInt64 v11)) fun S18 => some ((0 : Int32), S18))))
set_option maxHeartbeats 4000000 in
set_option maxRecDepth 100000 in
theorem r_L_quotationsOf {l : Launch} (hl : l.stackTraces = false) {D : va_G} {y : pq_Y} {G : pq_G} (W0 : pq_WT G) {S : pq_N} {a0 : Nat} {x1 : Int32} {a2 : Nat} (k0_ : pq_ok G 10 a0) (k2_ : pq_ok G 13 a2) {r : Int32} {S1 : pq_N} (h : F_L_quotationsOf G S a0 x1 a2 = some (r, S1)) (sz : Nat) : Met l yL_quotationsOf wsL_quotationsOf ({ frames := 8, cells := 1, slots := 6, locals := 132 } : Room) (pq_PX D y G S sz [.ref a0, .int x1, .ref a2]) (pq_Qi D y G sz r S1) 1 6 (pq_A G sz) := by
  refine pq_enterH RL 4 (by decide) rfl rfl rfl ?_
  intro p e s m below meth c C hsz hr hlk hX htab
  subst hsz
  unfold F_L_quotationsOf at h
  refine pv_sub (lo1 := [(0, .ref a0), (1, .int x1), (2, .ref a2)]) [0, 1, 2] rfl ?_
  refine pv_aload_n C 2 dL_quotationsOf_0 rfl rfl ?_
  refine pv_iconst (v := 0) C dL_quotationsOf_1 (by decide) ?_
  refine pv_aload_n C 0 dL_quotationsOf_2 rfl rfl ?_
  refine pv_iload_n C 1 dL_quotationsOf_3 rfl rfl ?_
  rcases pq_bhs h with ⟨k14, S12, e13, h⟩ | ⟨v11, S12, e13, h⟩
  · by_cases c15 : k14 = 3
    · have h := pq_it c15 h
      subst c15
      refine pv_xcalliVH C (kc := 1) (ks := 6) (ci := 10) rfl (by decide) k0_ hX [.int x1] (fun sz => r_X10_quotationsOf hl W0 k0_ e13 sz) (cwV 1 C.1.2.2.2.2 gL_quotationsOf_X10_quotationsOf rfl rfl rfl (by decide +kernel) ⟨Nat.le_of_ble_eq_true rfl, Nat.le_of_ble_eq_true rfl⟩) rfl rfl (Nat.le_of_ble_eq_true rfl) dL_quotationsOf_4 ⟨Nat.le_of_ble_eq_true rfl, Nat.le_of_ble_eq_true rfl⟩ [] ⟨0, 9, 12, 24⟩ [] (htab.trans rfl) (fun z hz => nomatch hz) rfl (by decide) (List.mem_of_getElem? (i := 1) rfl) pq_cst_3 (fun q9 => ?_)
      refine pv_astore_n C [(3, .ref q9), (0, .ref a0), (1, .int x1), (2, .ref a2)] dL_quotationsOf_12 rfl (by decide) rfl ?_
      refine pv_iconst (v := 1) C dL_quotationsOf_13 (by decide) ?_
      refine pv_wide (k := 1) (n := 6) (Nat.le_of_ble_eq_true rfl) (Nat.le_of_ble_eq_true rfl) ?_
      exact pv_iret C hr hlk h dL_quotationsOf_14
    · have h := pq_if c15 h
      cases h
  · refine pv_xcalliVR C (kc := 1) (ks := 6) (ci := 10) rfl (by decide) k0_ hX [.int x1] (fun sz => r_X10_quotationsOf hl W0 k0_ e13 sz) (cwV 1 C.1.2.2.2.2 gL_quotationsOf_X10_quotationsOf rfl rfl rfl (by decide +kernel) ⟨Nat.le_of_ble_eq_true rfl, Nat.le_of_ble_eq_true rfl⟩) rfl rfl (Nat.le_of_ble_eq_true rfl) dL_quotationsOf_4 ⟨Nat.le_of_ble_eq_true rfl, Nat.le_of_ble_eq_true rfl⟩ ?_
    refine pv_i2l C dL_quotationsOf_7 ?_
    obtain ⟨g17, h⟩ := pq_gd h
    refine pv_lastore C k2_ g17 dL_quotationsOf_8 ?_
    refine pv_nm (fun S18 e19 => ?_)
    have h := pq_ls e19 h
    refine pv_goto (tgt := 15) C dL_quotationsOf_9 (by decide) ?_
    refine pv_iconst (v := 0) C dL_quotationsOf_15 (by decide) ?_
    refine pv_wide (k := 1) (n := 6) (Nat.le_of_ble_eq_true rfl) (Nat.le_of_ble_eq_true rfl) ?_
    exact pv_iret C hr hlk h dL_quotationsOf_16
def F_L_sourceOf (G : pq_G) (S : pq_N) (a0 : Nat) (x1 : Int32) (x2 : Int32) (a3 : Nat) : Option (Int32 × pq_N) := pq_bh (F_X10_sourceOf G S a0 x1 x2) (fun k20 S12 => (if k20 = 3 then some ((1 : Int32), S12) else none)) (fun v11 S12 => (if (0 : Int32) < 0 ∨ pq_n G a3 ≤ (Int32.toNatClampNeg (0 : Int32)) then none else (pq_lt (pq_wj S12 a3 (Int32.toNatClampNeg (0 : Int32)) (Int32.toInt64 v11)) fun S18 => some ((0 : Int32), S18))))
set_option maxHeartbeats 4000000 in
set_option maxRecDepth 100000 in
theorem r_L_sourceOf {l : Launch} (hl : l.stackTraces = false) {D : va_G} {y : pq_Y} {G : pq_G} (W0 : pq_WT G) {S : pq_N} {a0 : Nat} {x1 : Int32} {x2 : Int32} {a3 : Nat} (k0_ : pq_ok G 10 a0) (k3_ : pq_ok G 13 a3) {r : Int32} {S1 : pq_N} (h : F_L_sourceOf G S a0 x1 x2 a3 = some (r, S1)) (sz : Nat) : Met l yL_sourceOf wsL_sourceOf ({ frames := 9, cells := 2, slots := 12, locals := 155 } : Room) (pq_PX D y G S sz [.ref a0, .int x1, .int x2, .ref a3]) (pq_Qi D y G sz r S1) 2 12 (pq_A G sz) := by
  refine pq_enterH RL 5 (by decide) rfl rfl rfl ?_
  intro p e s m below meth c C hsz hr hlk hX htab
  subst hsz
  unfold F_L_sourceOf at h
  refine pv_sub (lo1 := [(0, .ref a0), (1, .int x1), (2, .int x2), (3, .ref a3)]) [0, 1, 2, 3] rfl ?_
  refine pv_aload_n C 3 dL_sourceOf_0 rfl rfl ?_
  refine pv_iconst (v := 0) C dL_sourceOf_1 (by decide) ?_
  refine pv_aload_n C 0 dL_sourceOf_2 rfl rfl ?_
  refine pv_iload_n C 1 dL_sourceOf_3 rfl rfl ?_
  refine pv_iload_n C 2 dL_sourceOf_4 rfl rfl ?_
  rcases pq_bhs h with ⟨k14, S12, e13, h⟩ | ⟨v11, S12, e13, h⟩
  · by_cases c15 : k14 = 3
    · have h := pq_it c15 h
      subst c15
      refine pv_xcalliVH C (kc := 2) (ks := 12) (ci := 10) rfl (by decide) k0_ hX [.int x1, .int x2] (fun sz => r_X10_sourceOf hl W0 k0_ e13 sz) (cwV 2 C.1.2.2.2.2 gL_sourceOf_X10_sourceOf rfl rfl rfl (by decide +kernel) ⟨Nat.le_of_ble_eq_true rfl, Nat.le_of_ble_eq_true rfl⟩) rfl rfl (Nat.le_of_ble_eq_true rfl) dL_sourceOf_5 ⟨Nat.le_of_ble_eq_true rfl, Nat.le_of_ble_eq_true rfl⟩ [] ⟨0, 10, 13, 24⟩ [] (htab.trans rfl) (fun z hz => nomatch hz) rfl (by decide) (List.mem_of_getElem? (i := 1) rfl) pq_cst_3 (fun q9 => ?_)
      refine pv_astore C [(4, .ref q9), (0, .ref a0), (1, .int x1), (2, .int x2), (3, .ref a3)] dL_sourceOf_13 (by decide) rfl ?_
      refine pv_iconst (v := 1) C dL_sourceOf_15 (by decide) ?_
      refine pv_wide (k := 2) (n := 12) (Nat.le_of_ble_eq_true rfl) (Nat.le_of_ble_eq_true rfl) ?_
      exact pv_iret C hr hlk h dL_sourceOf_16
    · have h := pq_if c15 h
      cases h
  · refine pv_xcalliVR C (kc := 2) (ks := 12) (ci := 10) rfl (by decide) k0_ hX [.int x1, .int x2] (fun sz => r_X10_sourceOf hl W0 k0_ e13 sz) (cwV 2 C.1.2.2.2.2 gL_sourceOf_X10_sourceOf rfl rfl rfl (by decide +kernel) ⟨Nat.le_of_ble_eq_true rfl, Nat.le_of_ble_eq_true rfl⟩) rfl rfl (Nat.le_of_ble_eq_true rfl) dL_sourceOf_5 ⟨Nat.le_of_ble_eq_true rfl, Nat.le_of_ble_eq_true rfl⟩ ?_
    refine pv_i2l C dL_sourceOf_8 ?_
    obtain ⟨g17, h⟩ := pq_gd h
    refine pv_lastore C k3_ g17 dL_sourceOf_9 ?_
    refine pv_nm (fun S18 e19 => ?_)
    have h := pq_ls e19 h
    refine pv_goto (tgt := 17) C dL_sourceOf_10 (by decide) ?_
    refine pv_iconst (v := 0) C dL_sourceOf_17 (by decide) ?_
    refine pv_wide (k := 2) (n := 12) (Nat.le_of_ble_eq_true rfl) (Nat.le_of_ble_eq_true rfl) ?_
    exact pv_iret C hr hlk h dL_sourceOf_18
def F_L_beginOf (G : pq_G) (S : pq_N) (a0 : Nat) (x1 : Int32) (x2 : Int32) (a3 : Nat) : Option (Int32 × pq_N) := pq_bh (F_X10_beginOf G S a0 x1 x2) (fun k20 S12 => (if k20 = 3 then some ((1 : Int32), S12) else none)) (fun v11 S12 => (if (0 : Int32) < 0 ∨ pq_n G a3 ≤ (Int32.toNatClampNeg (0 : Int32)) then none else (pq_lt (pq_wj S12 a3 (Int32.toNatClampNeg (0 : Int32)) (Int32.toInt64 v11)) fun S18 => some ((0 : Int32), S18))))
set_option maxHeartbeats 4000000 in
set_option maxRecDepth 100000 in
theorem r_L_beginOf {l : Launch} (hl : l.stackTraces = false) {D : va_G} {y : pq_Y} {G : pq_G} (W0 : pq_WT G) {S : pq_N} {a0 : Nat} {x1 : Int32} {x2 : Int32} {a3 : Nat} (k0_ : pq_ok G 10 a0) (k3_ : pq_ok G 13 a3) {r : Int32} {S1 : pq_N} (h : F_L_beginOf G S a0 x1 x2 a3 = some (r, S1)) (sz : Nat) : Met l yL_beginOf wsL_beginOf ({ frames := 9, cells := 2, slots := 12, locals := 155 } : Room) (pq_PX D y G S sz [.ref a0, .int x1, .int x2, .ref a3]) (pq_Qi D y G sz r S1) 2 12 (pq_A G sz) := by
  refine pq_enterH RL 5 (by decide) rfl rfl rfl ?_
  intro p e s m below meth c C hsz hr hlk hX htab
  subst hsz
  unfold F_L_beginOf at h
  refine pv_sub (lo1 := [(0, .ref a0), (1, .int x1), (2, .int x2), (3, .ref a3)]) [0, 1, 2, 3] rfl ?_
  refine pv_aload_n C 3 dL_beginOf_0 rfl rfl ?_
  refine pv_iconst (v := 0) C dL_beginOf_1 (by decide) ?_
  refine pv_aload_n C 0 dL_beginOf_2 rfl rfl ?_
  refine pv_iload_n C 1 dL_beginOf_3 rfl rfl ?_
  refine pv_iload_n C 2 dL_beginOf_4 rfl rfl ?_
  rcases pq_bhs h with ⟨k14, S12, e13, h⟩ | ⟨v11, S12, e13, h⟩
  · by_cases c15 : k14 = 3
    · have h := pq_it c15 h
      subst c15
      refine pv_xcalliVH C (kc := 2) (ks := 12) (ci := 10) rfl (by decide) k0_ hX [.int x1, .int x2] (fun sz => r_X10_beginOf hl W0 k0_ e13 sz) (cwV 2 C.1.2.2.2.2 gL_beginOf_X10_beginOf rfl rfl rfl (by decide +kernel) ⟨Nat.le_of_ble_eq_true rfl, Nat.le_of_ble_eq_true rfl⟩) rfl rfl (Nat.le_of_ble_eq_true rfl) dL_beginOf_5 ⟨Nat.le_of_ble_eq_true rfl, Nat.le_of_ble_eq_true rfl⟩ [] ⟨0, 10, 13, 24⟩ [] (htab.trans rfl) (fun z hz => nomatch hz) rfl (by decide) (List.mem_of_getElem? (i := 1) rfl) pq_cst_3 (fun q9 => ?_)
      refine pv_astore C [(4, .ref q9), (0, .ref a0), (1, .int x1), (2, .int x2), (3, .ref a3)] dL_beginOf_13 (by decide) rfl ?_
      refine pv_iconst (v := 1) C dL_beginOf_15 (by decide) ?_
      refine pv_wide (k := 2) (n := 12) (Nat.le_of_ble_eq_true rfl) (Nat.le_of_ble_eq_true rfl) ?_
      exact pv_iret C hr hlk h dL_beginOf_16
    · have h := pq_if c15 h
      cases h
  · refine pv_xcalliVR C (kc := 2) (ks := 12) (ci := 10) rfl (by decide) k0_ hX [.int x1, .int x2] (fun sz => r_X10_beginOf hl W0 k0_ e13 sz) (cwV 2 C.1.2.2.2.2 gL_beginOf_X10_beginOf rfl rfl rfl (by decide +kernel) ⟨Nat.le_of_ble_eq_true rfl, Nat.le_of_ble_eq_true rfl⟩) rfl rfl (Nat.le_of_ble_eq_true rfl) dL_beginOf_5 ⟨Nat.le_of_ble_eq_true rfl, Nat.le_of_ble_eq_true rfl⟩ ?_
    refine pv_i2l C dL_beginOf_8 ?_
    obtain ⟨g17, h⟩ := pq_gd h
    refine pv_lastore C k3_ g17 dL_beginOf_9 ?_
    refine pv_nm (fun S18 e19 => ?_)
    have h := pq_ls e19 h
    refine pv_goto (tgt := 17) C dL_beginOf_10 (by decide) ?_
    refine pv_iconst (v := 0) C dL_beginOf_17 (by decide) ?_
    refine pv_wide (k := 2) (n := 12) (Nat.le_of_ble_eq_true rfl) (Nat.le_of_ble_eq_true rfl) ?_
    exact pv_iret C hr hlk h dL_beginOf_18
def F_L_lengthOf (G : pq_G) (S : pq_N) (a0 : Nat) (x1 : Int32) (x2 : Int32) (a3 : Nat) : Option (Int32 × pq_N) := pq_bh (F_X10_lengthOf G S a0 x1 x2) (fun k20 S12 => (if k20 = 3 then some ((1 : Int32), S12) else none)) (fun v11 S12 => (if (0 : Int32) < 0 ∨ pq_n G a3 ≤ (Int32.toNatClampNeg (0 : Int32)) then none else (pq_lt (pq_wj S12 a3 (Int32.toNatClampNeg (0 : Int32)) (Int32.toInt64 v11)) fun S18 => some ((0 : Int32), S18))))
set_option maxHeartbeats 4000000 in
set_option maxRecDepth 100000 in
theorem r_L_lengthOf {l : Launch} (hl : l.stackTraces = false) {D : va_G} {y : pq_Y} {G : pq_G} (W0 : pq_WT G) {S : pq_N} {a0 : Nat} {x1 : Int32} {x2 : Int32} {a3 : Nat} (k0_ : pq_ok G 10 a0) (k3_ : pq_ok G 13 a3) {r : Int32} {S1 : pq_N} (h : F_L_lengthOf G S a0 x1 x2 a3 = some (r, S1)) (sz : Nat) : Met l yL_lengthOf wsL_lengthOf ({ frames := 9, cells := 2, slots := 12, locals := 155 } : Room) (pq_PX D y G S sz [.ref a0, .int x1, .int x2, .ref a3]) (pq_Qi D y G sz r S1) 2 12 (pq_A G sz) := by
  refine pq_enterH RL 5 (by decide) rfl rfl rfl ?_
  intro p e s m below meth c C hsz hr hlk hX htab
  subst hsz
  unfold F_L_lengthOf at h
  refine pv_sub (lo1 := [(0, .ref a0), (1, .int x1), (2, .int x2), (3, .ref a3)]) [0, 1, 2, 3] rfl ?_
  refine pv_aload_n C 3 dL_lengthOf_0 rfl rfl ?_
  refine pv_iconst (v := 0) C dL_lengthOf_1 (by decide) ?_
  refine pv_aload_n C 0 dL_lengthOf_2 rfl rfl ?_
  refine pv_iload_n C 1 dL_lengthOf_3 rfl rfl ?_
  refine pv_iload_n C 2 dL_lengthOf_4 rfl rfl ?_
  rcases pq_bhs h with ⟨k14, S12, e13, h⟩ | ⟨v11, S12, e13, h⟩
  · by_cases c15 : k14 = 3
    · have h := pq_it c15 h
      subst c15
      refine pv_xcalliVH C (kc := 2) (ks := 12) (ci := 10) rfl (by decide) k0_ hX [.int x1, .int x2] (fun sz => r_X10_lengthOf hl W0 k0_ e13 sz) (cwV 2 C.1.2.2.2.2 gL_lengthOf_X10_lengthOf rfl rfl rfl (by decide +kernel) ⟨Nat.le_of_ble_eq_true rfl, Nat.le_of_ble_eq_true rfl⟩) rfl rfl (Nat.le_of_ble_eq_true rfl) dL_lengthOf_5 ⟨Nat.le_of_ble_eq_true rfl, Nat.le_of_ble_eq_true rfl⟩ [] ⟨0, 10, 13, 24⟩ [] (htab.trans rfl) (fun z hz => nomatch hz) rfl (by decide) (List.mem_of_getElem? (i := 1) rfl) pq_cst_3 (fun q9 => ?_)
      refine pv_astore C [(4, .ref q9), (0, .ref a0), (1, .int x1), (2, .int x2), (3, .ref a3)] dL_lengthOf_13 (by decide) rfl ?_
      refine pv_iconst (v := 1) C dL_lengthOf_15 (by decide) ?_
      refine pv_wide (k := 2) (n := 12) (Nat.le_of_ble_eq_true rfl) (Nat.le_of_ble_eq_true rfl) ?_
      exact pv_iret C hr hlk h dL_lengthOf_16
    · have h := pq_if c15 h
      cases h
  · refine pv_xcalliVR C (kc := 2) (ks := 12) (ci := 10) rfl (by decide) k0_ hX [.int x1, .int x2] (fun sz => r_X10_lengthOf hl W0 k0_ e13 sz) (cwV 2 C.1.2.2.2.2 gL_lengthOf_X10_lengthOf rfl rfl rfl (by decide +kernel) ⟨Nat.le_of_ble_eq_true rfl, Nat.le_of_ble_eq_true rfl⟩) rfl rfl (Nat.le_of_ble_eq_true rfl) dL_lengthOf_5 ⟨Nat.le_of_ble_eq_true rfl, Nat.le_of_ble_eq_true rfl⟩ ?_
    refine pv_i2l C dL_lengthOf_8 ?_
    obtain ⟨g17, h⟩ := pq_gd h
    refine pv_lastore C k3_ g17 dL_lengthOf_9 ?_
    refine pv_nm (fun S18 e19 => ?_)
    have h := pq_ls e19 h
    refine pv_goto (tgt := 17) C dL_lengthOf_10 (by decide) ?_
    refine pv_iconst (v := 0) C dL_lengthOf_17 (by decide) ?_
    refine pv_wide (k := 2) (n := 12) (Nat.le_of_ble_eq_true rfl) (Nat.le_of_ble_eq_true rfl) ?_
    exact pv_iret C hr hlk h dL_lengthOf_18
def F_L_changesByTable (G : pq_G) (S : pq_N) (a0 : Nat) (x1 : Int32) (x2 : Int32) (a3 : Nat) : Option (Int32 × pq_N) := pq_bh (F_X10_changesByTable G S a0 x1 x2) (fun k20 S12 => (if k20 = 3 then some ((1 : Int32), S12) else none)) (fun v11 S12 => (if (0 : Int32) < 0 ∨ pq_n G a3 ≤ (Int32.toNatClampNeg (0 : Int32)) then none else (pq_lt (pq_wj S12 a3 (Int32.toNatClampNeg (0 : Int32)) (Int32.toInt64 v11)) fun S18 => some ((0 : Int32), S18))))
set_option maxHeartbeats 4000000 in
set_option maxRecDepth 100000 in
theorem r_L_changesByTable {l : Launch} (hl : l.stackTraces = false) {D : va_G} {y : pq_Y} {G : pq_G} (W0 : pq_WT G) {S : pq_N} {a0 : Nat} {x1 : Int32} {x2 : Int32} {a3 : Nat} (k0_ : pq_ok G 10 a0) (k3_ : pq_ok G 13 a3) {r : Int32} {S1 : pq_N} (h : F_L_changesByTable G S a0 x1 x2 a3 = some (r, S1)) (sz : Nat) : Met l yL_changesByTable wsL_changesByTable ({ frames := 9, cells := 2, slots := 12, locals := 155 } : Room) (pq_PX D y G S sz [.ref a0, .int x1, .int x2, .ref a3]) (pq_Qi D y G sz r S1) 2 12 (pq_A G sz) := by
  refine pq_enterH RL 5 (by decide) rfl rfl rfl ?_
  intro p e s m below meth c C hsz hr hlk hX htab
  subst hsz
  unfold F_L_changesByTable at h
  refine pv_sub (lo1 := [(0, .ref a0), (1, .int x1), (2, .int x2), (3, .ref a3)]) [0, 1, 2, 3] rfl ?_
  refine pv_aload_n C 3 dL_changesByTable_0 rfl rfl ?_
  refine pv_iconst (v := 0) C dL_changesByTable_1 (by decide) ?_
  refine pv_aload_n C 0 dL_changesByTable_2 rfl rfl ?_
  refine pv_iload_n C 1 dL_changesByTable_3 rfl rfl ?_
  refine pv_iload_n C 2 dL_changesByTable_4 rfl rfl ?_
  rcases pq_bhs h with ⟨k14, S12, e13, h⟩ | ⟨v11, S12, e13, h⟩
  · by_cases c15 : k14 = 3
    · have h := pq_it c15 h
      subst c15
      refine pv_xcalliVH C (kc := 2) (ks := 12) (ci := 10) rfl (by decide) k0_ hX [.int x1, .int x2] (fun sz => r_X10_changesByTable hl W0 k0_ e13 sz) (cwV 2 C.1.2.2.2.2 gL_changesByTable_X10_changesByTable rfl rfl rfl (by decide +kernel) ⟨Nat.le_of_ble_eq_true rfl, Nat.le_of_ble_eq_true rfl⟩) rfl rfl (Nat.le_of_ble_eq_true rfl) dL_changesByTable_5 ⟨Nat.le_of_ble_eq_true rfl, Nat.le_of_ble_eq_true rfl⟩ [] ⟨0, 10, 13, 24⟩ [] (htab.trans rfl) (fun z hz => nomatch hz) rfl (by decide) (List.mem_of_getElem? (i := 1) rfl) pq_cst_3 (fun q9 => ?_)
      refine pv_astore C [(4, .ref q9), (0, .ref a0), (1, .int x1), (2, .int x2), (3, .ref a3)] dL_changesByTable_13 (by decide) rfl ?_
      refine pv_iconst (v := 1) C dL_changesByTable_15 (by decide) ?_
      refine pv_wide (k := 2) (n := 12) (Nat.le_of_ble_eq_true rfl) (Nat.le_of_ble_eq_true rfl) ?_
      exact pv_iret C hr hlk h dL_changesByTable_16
    · have h := pq_if c15 h
      cases h
  · refine pv_xcalliVR C (kc := 2) (ks := 12) (ci := 10) rfl (by decide) k0_ hX [.int x1, .int x2] (fun sz => r_X10_changesByTable hl W0 k0_ e13 sz) (cwV 2 C.1.2.2.2.2 gL_changesByTable_X10_changesByTable rfl rfl rfl (by decide +kernel) ⟨Nat.le_of_ble_eq_true rfl, Nat.le_of_ble_eq_true rfl⟩) rfl rfl (Nat.le_of_ble_eq_true rfl) dL_changesByTable_5 ⟨Nat.le_of_ble_eq_true rfl, Nat.le_of_ble_eq_true rfl⟩ ?_
    refine pv_i2l C dL_changesByTable_8 ?_
    obtain ⟨g17, h⟩ := pq_gd h
    refine pv_lastore C k3_ g17 dL_changesByTable_9 ?_
    refine pv_nm (fun S18 e19 => ?_)
    have h := pq_ls e19 h
    refine pv_goto (tgt := 17) C dL_changesByTable_10 (by decide) ?_
    refine pv_iconst (v := 0) C dL_changesByTable_17 (by decide) ?_
    refine pv_wide (k := 2) (n := 12) (Nat.le_of_ble_eq_true rfl) (Nat.le_of_ble_eq_true rfl) ?_
    exact pv_iret C hr hlk h dL_changesByTable_18
def F_L_changesByPassages (G : pq_G) (S : pq_N) (a0 : Nat) (x1 : Int32) (x2 : Int32) (a3 : Nat) : Option (Int32 × pq_N) := pq_bh (F_X10_changesByPassages G S a0 x1 x2) (fun k20 S12 => (if k20 = 3 then some ((1 : Int32), S12) else none)) (fun v11 S12 => (if (0 : Int32) < 0 ∨ pq_n G a3 ≤ (Int32.toNatClampNeg (0 : Int32)) then none else (pq_lt (pq_wj S12 a3 (Int32.toNatClampNeg (0 : Int32)) (Int32.toInt64 v11)) fun S18 => some ((0 : Int32), S18))))
set_option maxHeartbeats 4000000 in
set_option maxRecDepth 100000 in
theorem r_L_changesByPassages {l : Launch} (hl : l.stackTraces = false) {D : va_G} {y : pq_Y} {G : pq_G} (W0 : pq_WT G) {S : pq_N} {a0 : Nat} {x1 : Int32} {x2 : Int32} {a3 : Nat} (k0_ : pq_ok G 10 a0) (k3_ : pq_ok G 13 a3) {r : Int32} {S1 : pq_N} (h : F_L_changesByPassages G S a0 x1 x2 a3 = some (r, S1)) (sz : Nat) : Met l yL_changesByPassages wsL_changesByPassages ({ frames := 9, cells := 2, slots := 12, locals := 155 } : Room) (pq_PX D y G S sz [.ref a0, .int x1, .int x2, .ref a3]) (pq_Qi D y G sz r S1) 2 12 (pq_A G sz) := by
  refine pq_enterH RL 5 (by decide) rfl rfl rfl ?_
  intro p e s m below meth c C hsz hr hlk hX htab
  subst hsz
  unfold F_L_changesByPassages at h
  refine pv_sub (lo1 := [(0, .ref a0), (1, .int x1), (2, .int x2), (3, .ref a3)]) [0, 1, 2, 3] rfl ?_
  refine pv_aload_n C 3 dL_changesByPassages_0 rfl rfl ?_
  refine pv_iconst (v := 0) C dL_changesByPassages_1 (by decide) ?_
  refine pv_aload_n C 0 dL_changesByPassages_2 rfl rfl ?_
  refine pv_iload_n C 1 dL_changesByPassages_3 rfl rfl ?_
  refine pv_iload_n C 2 dL_changesByPassages_4 rfl rfl ?_
  rcases pq_bhs h with ⟨k14, S12, e13, h⟩ | ⟨v11, S12, e13, h⟩
  · by_cases c15 : k14 = 3
    · have h := pq_it c15 h
      subst c15
      refine pv_xcalliVH C (kc := 2) (ks := 12) (ci := 10) rfl (by decide) k0_ hX [.int x1, .int x2] (fun sz => r_X10_changesByPassages hl W0 k0_ e13 sz) (cwV 2 C.1.2.2.2.2 gL_changesByPassages_X10_changesByPassages rfl rfl rfl (by decide +kernel) ⟨Nat.le_of_ble_eq_true rfl, Nat.le_of_ble_eq_true rfl⟩) rfl rfl (Nat.le_of_ble_eq_true rfl) dL_changesByPassages_5 ⟨Nat.le_of_ble_eq_true rfl, Nat.le_of_ble_eq_true rfl⟩ [] ⟨0, 10, 13, 24⟩ [] (htab.trans rfl) (fun z hz => nomatch hz) rfl (by decide) (List.mem_of_getElem? (i := 1) rfl) pq_cst_3 (fun q9 => ?_)
      refine pv_astore C [(4, .ref q9), (0, .ref a0), (1, .int x1), (2, .int x2), (3, .ref a3)] dL_changesByPassages_13 (by decide) rfl ?_
      refine pv_iconst (v := 1) C dL_changesByPassages_15 (by decide) ?_
      refine pv_wide (k := 2) (n := 12) (Nat.le_of_ble_eq_true rfl) (Nat.le_of_ble_eq_true rfl) ?_
      exact pv_iret C hr hlk h dL_changesByPassages_16
    · have h := pq_if c15 h
      cases h
  · refine pv_xcalliVR C (kc := 2) (ks := 12) (ci := 10) rfl (by decide) k0_ hX [.int x1, .int x2] (fun sz => r_X10_changesByPassages hl W0 k0_ e13 sz) (cwV 2 C.1.2.2.2.2 gL_changesByPassages_X10_changesByPassages rfl rfl rfl (by decide +kernel) ⟨Nat.le_of_ble_eq_true rfl, Nat.le_of_ble_eq_true rfl⟩) rfl rfl (Nat.le_of_ble_eq_true rfl) dL_changesByPassages_5 ⟨Nat.le_of_ble_eq_true rfl, Nat.le_of_ble_eq_true rfl⟩ ?_
    refine pv_i2l C dL_changesByPassages_8 ?_
    obtain ⟨g17, h⟩ := pq_gd h
    refine pv_lastore C k3_ g17 dL_changesByPassages_9 ?_
    refine pv_nm (fun S18 e19 => ?_)
    have h := pq_ls e19 h
    refine pv_goto (tgt := 17) C dL_changesByPassages_10 (by decide) ?_
    refine pv_iconst (v := 0) C dL_changesByPassages_17 (by decide) ?_
    refine pv_wide (k := 2) (n := 12) (Nat.le_of_ble_eq_true rfl) (Nat.le_of_ble_eq_true rfl) ?_
    exact pv_iret C hr hlk h dL_changesByPassages_18
def F_L_passageOf (G : pq_G) (S : pq_N) (a0 : Nat) (x1 : Int32) (x2 : Int32) (a3 : Nat) : Option (Int32 × pq_N) := pq_bh (F_X10_passageOf G S a0 x1 x2) (fun k20 S12 => (if k20 = 3 then some ((1 : Int32), S12) else none)) (fun v11 S12 => (if (0 : Int32) < 0 ∨ pq_n G a3 ≤ (Int32.toNatClampNeg (0 : Int32)) then none else (pq_lt (pq_wj S12 a3 (Int32.toNatClampNeg (0 : Int32)) (Int32.toInt64 v11)) fun S18 => some ((0 : Int32), S18))))
set_option maxHeartbeats 4000000 in
set_option maxRecDepth 100000 in
theorem r_L_passageOf {l : Launch} (hl : l.stackTraces = false) {D : va_G} {y : pq_Y} {G : pq_G} (W0 : pq_WT G) {S : pq_N} {a0 : Nat} {x1 : Int32} {x2 : Int32} {a3 : Nat} (k0_ : pq_ok G 10 a0) (k3_ : pq_ok G 13 a3) {r : Int32} {S1 : pq_N} (h : F_L_passageOf G S a0 x1 x2 a3 = some (r, S1)) (sz : Nat) : Met l yL_passageOf wsL_passageOf ({ frames := 9, cells := 2, slots := 12, locals := 155 } : Room) (pq_PX D y G S sz [.ref a0, .int x1, .int x2, .ref a3]) (pq_Qi D y G sz r S1) 2 12 (pq_A G sz) := by
  refine pq_enterH RL 5 (by decide) rfl rfl rfl ?_
  intro p e s m below meth c C hsz hr hlk hX htab
  subst hsz
  unfold F_L_passageOf at h
  refine pv_sub (lo1 := [(0, .ref a0), (1, .int x1), (2, .int x2), (3, .ref a3)]) [0, 1, 2, 3] rfl ?_
  refine pv_aload_n C 3 dL_passageOf_0 rfl rfl ?_
  refine pv_iconst (v := 0) C dL_passageOf_1 (by decide) ?_
  refine pv_aload_n C 0 dL_passageOf_2 rfl rfl ?_
  refine pv_iload_n C 1 dL_passageOf_3 rfl rfl ?_
  refine pv_iload_n C 2 dL_passageOf_4 rfl rfl ?_
  rcases pq_bhs h with ⟨k14, S12, e13, h⟩ | ⟨v11, S12, e13, h⟩
  · by_cases c15 : k14 = 3
    · have h := pq_it c15 h
      subst c15
      refine pv_xcalliVH C (kc := 2) (ks := 12) (ci := 10) rfl (by decide) k0_ hX [.int x1, .int x2] (fun sz => r_X10_passageOf hl W0 k0_ e13 sz) (cwV 2 C.1.2.2.2.2 gL_passageOf_X10_passageOf rfl rfl rfl (by decide +kernel) ⟨Nat.le_of_ble_eq_true rfl, Nat.le_of_ble_eq_true rfl⟩) rfl rfl (Nat.le_of_ble_eq_true rfl) dL_passageOf_5 ⟨Nat.le_of_ble_eq_true rfl, Nat.le_of_ble_eq_true rfl⟩ [] ⟨0, 10, 13, 24⟩ [] (htab.trans rfl) (fun z hz => nomatch hz) rfl (by decide) (List.mem_of_getElem? (i := 1) rfl) pq_cst_3 (fun q9 => ?_)
      refine pv_astore C [(4, .ref q9), (0, .ref a0), (1, .int x1), (2, .int x2), (3, .ref a3)] dL_passageOf_13 (by decide) rfl ?_
      refine pv_iconst (v := 1) C dL_passageOf_15 (by decide) ?_
      refine pv_wide (k := 2) (n := 12) (Nat.le_of_ble_eq_true rfl) (Nat.le_of_ble_eq_true rfl) ?_
      exact pv_iret C hr hlk h dL_passageOf_16
    · have h := pq_if c15 h
      cases h
  · refine pv_xcalliVR C (kc := 2) (ks := 12) (ci := 10) rfl (by decide) k0_ hX [.int x1, .int x2] (fun sz => r_X10_passageOf hl W0 k0_ e13 sz) (cwV 2 C.1.2.2.2.2 gL_passageOf_X10_passageOf rfl rfl rfl (by decide +kernel) ⟨Nat.le_of_ble_eq_true rfl, Nat.le_of_ble_eq_true rfl⟩) rfl rfl (Nat.le_of_ble_eq_true rfl) dL_passageOf_5 ⟨Nat.le_of_ble_eq_true rfl, Nat.le_of_ble_eq_true rfl⟩ ?_
    refine pv_i2l C dL_passageOf_8 ?_
    obtain ⟨g17, h⟩ := pq_gd h
    refine pv_lastore C k3_ g17 dL_passageOf_9 ?_
    refine pv_nm (fun S18 e19 => ?_)
    have h := pq_ls e19 h
    refine pv_goto (tgt := 17) C dL_passageOf_10 (by decide) ?_
    refine pv_iconst (v := 0) C dL_passageOf_17 (by decide) ?_
    refine pv_wide (k := 2) (n := 12) (Nat.le_of_ble_eq_true rfl) (Nat.le_of_ble_eq_true rfl) ?_
    exact pv_iret C hr hlk h dL_passageOf_18
def F_L_passageLength (G : pq_G) (S : pq_N) (a0 : Nat) (x1 : Int32) (x2 : Int32) (a3 : Nat) : Option (Int32 × pq_N) := pq_bh (F_X10_passageLength G S a0 x1 x2) (fun k20 S12 => (if k20 = 3 then some ((1 : Int32), S12) else none)) (fun v11 S12 => (if (0 : Int32) < 0 ∨ pq_n G a3 ≤ (Int32.toNatClampNeg (0 : Int32)) then none else (pq_lt (pq_wj S12 a3 (Int32.toNatClampNeg (0 : Int32)) (Int32.toInt64 v11)) fun S18 => some ((0 : Int32), S18))))
set_option maxHeartbeats 4000000 in
set_option maxRecDepth 100000 in
theorem r_L_passageLength {l : Launch} (hl : l.stackTraces = false) {D : va_G} {y : pq_Y} {G : pq_G} (W0 : pq_WT G) {S : pq_N} {a0 : Nat} {x1 : Int32} {x2 : Int32} {a3 : Nat} (k0_ : pq_ok G 10 a0) (k3_ : pq_ok G 13 a3) {r : Int32} {S1 : pq_N} (h : F_L_passageLength G S a0 x1 x2 a3 = some (r, S1)) (sz : Nat) : Met l yL_passageLength wsL_passageLength ({ frames := 9, cells := 2, slots := 12, locals := 155 } : Room) (pq_PX D y G S sz [.ref a0, .int x1, .int x2, .ref a3]) (pq_Qi D y G sz r S1) 2 12 (pq_A G sz) := by
  refine pq_enterH RL 5 (by decide) rfl rfl rfl ?_
  intro p e s m below meth c C hsz hr hlk hX htab
  subst hsz
  unfold F_L_passageLength at h
  refine pv_sub (lo1 := [(0, .ref a0), (1, .int x1), (2, .int x2), (3, .ref a3)]) [0, 1, 2, 3] rfl ?_
  refine pv_aload_n C 3 dL_passageLength_0 rfl rfl ?_
  refine pv_iconst (v := 0) C dL_passageLength_1 (by decide) ?_
  refine pv_aload_n C 0 dL_passageLength_2 rfl rfl ?_
  refine pv_iload_n C 1 dL_passageLength_3 rfl rfl ?_
  refine pv_iload_n C 2 dL_passageLength_4 rfl rfl ?_
  rcases pq_bhs h with ⟨k14, S12, e13, h⟩ | ⟨v11, S12, e13, h⟩
  · by_cases c15 : k14 = 3
    · have h := pq_it c15 h
      subst c15
      refine pv_xcalliVH C (kc := 2) (ks := 12) (ci := 10) rfl (by decide) k0_ hX [.int x1, .int x2] (fun sz => r_X10_passageLength hl W0 k0_ e13 sz) (cwV 2 C.1.2.2.2.2 gL_passageLength_X10_passageLength rfl rfl rfl (by decide +kernel) ⟨Nat.le_of_ble_eq_true rfl, Nat.le_of_ble_eq_true rfl⟩) rfl rfl (Nat.le_of_ble_eq_true rfl) dL_passageLength_5 ⟨Nat.le_of_ble_eq_true rfl, Nat.le_of_ble_eq_true rfl⟩ [] ⟨0, 10, 13, 24⟩ [] (htab.trans rfl) (fun z hz => nomatch hz) rfl (by decide) (List.mem_of_getElem? (i := 1) rfl) pq_cst_3 (fun q9 => ?_)
      refine pv_astore C [(4, .ref q9), (0, .ref a0), (1, .int x1), (2, .int x2), (3, .ref a3)] dL_passageLength_13 (by decide) rfl ?_
      refine pv_iconst (v := 1) C dL_passageLength_15 (by decide) ?_
      refine pv_wide (k := 2) (n := 12) (Nat.le_of_ble_eq_true rfl) (Nat.le_of_ble_eq_true rfl) ?_
      exact pv_iret C hr hlk h dL_passageLength_16
    · have h := pq_if c15 h
      cases h
  · refine pv_xcalliVR C (kc := 2) (ks := 12) (ci := 10) rfl (by decide) k0_ hX [.int x1, .int x2] (fun sz => r_X10_passageLength hl W0 k0_ e13 sz) (cwV 2 C.1.2.2.2.2 gL_passageLength_X10_passageLength rfl rfl rfl (by decide +kernel) ⟨Nat.le_of_ble_eq_true rfl, Nat.le_of_ble_eq_true rfl⟩) rfl rfl (Nat.le_of_ble_eq_true rfl) dL_passageLength_5 ⟨Nat.le_of_ble_eq_true rfl, Nat.le_of_ble_eq_true rfl⟩ ?_
    refine pv_i2l C dL_passageLength_8 ?_
    obtain ⟨g17, h⟩ := pq_gd h
    refine pv_lastore C k3_ g17 dL_passageLength_9 ?_
    refine pv_nm (fun S18 e19 => ?_)
    have h := pq_ls e19 h
    refine pv_goto (tgt := 17) C dL_passageLength_10 (by decide) ?_
    refine pv_iconst (v := 0) C dL_passageLength_17 (by decide) ?_
    refine pv_wide (k := 2) (n := 12) (Nat.le_of_ble_eq_true rfl) (Nat.le_of_ble_eq_true rfl) ?_
    exact pv_iret C hr hlk h dL_passageLength_18
def F_L_pageOf (G : pq_G) (S : pq_N) (a0 : Nat) (x1 : Int32) (x2 : Int32) (a3 : Nat) : Option (Int32 × pq_N) := pq_bh (F_X10_pageOf G S a0 x1 x2) (fun k20 S12 => (if k20 = 3 then some ((1 : Int32), S12) else none)) (fun v11 S12 => (if (0 : Int32) < 0 ∨ pq_n G a3 ≤ (Int32.toNatClampNeg (0 : Int32)) then none else (pq_lt (pq_wj S12 a3 (Int32.toNatClampNeg (0 : Int32)) (Int32.toInt64 v11)) fun S18 => some ((0 : Int32), S18))))
set_option maxHeartbeats 4000000 in
set_option maxRecDepth 100000 in
theorem r_L_pageOf {l : Launch} (hl : l.stackTraces = false) {D : va_G} {y : pq_Y} {G : pq_G} (W0 : pq_WT G) {S : pq_N} {a0 : Nat} {x1 : Int32} {x2 : Int32} {a3 : Nat} (k0_ : pq_ok G 10 a0) (k3_ : pq_ok G 13 a3) {r : Int32} {S1 : pq_N} (h : F_L_pageOf G S a0 x1 x2 a3 = some (r, S1)) (sz : Nat) : Met l yL_pageOf wsL_pageOf ({ frames := 9, cells := 2, slots := 12, locals := 155 } : Room) (pq_PX D y G S sz [.ref a0, .int x1, .int x2, .ref a3]) (pq_Qi D y G sz r S1) 2 12 (pq_A G sz) := by
  refine pq_enterH RL 5 (by decide) rfl rfl rfl ?_
  intro p e s m below meth c C hsz hr hlk hX htab
  subst hsz
  unfold F_L_pageOf at h
  refine pv_sub (lo1 := [(0, .ref a0), (1, .int x1), (2, .int x2), (3, .ref a3)]) [0, 1, 2, 3] rfl ?_
  refine pv_aload_n C 3 dL_pageOf_0 rfl rfl ?_
  refine pv_iconst (v := 0) C dL_pageOf_1 (by decide) ?_
  refine pv_aload_n C 0 dL_pageOf_2 rfl rfl ?_
  refine pv_iload_n C 1 dL_pageOf_3 rfl rfl ?_
  refine pv_iload_n C 2 dL_pageOf_4 rfl rfl ?_
  rcases pq_bhs h with ⟨k14, S12, e13, h⟩ | ⟨v11, S12, e13, h⟩
  · by_cases c15 : k14 = 3
    · have h := pq_it c15 h
      subst c15
      refine pv_xcalliVH C (kc := 2) (ks := 12) (ci := 10) rfl (by decide) k0_ hX [.int x1, .int x2] (fun sz => r_X10_pageOf hl W0 k0_ e13 sz) (cwV 2 C.1.2.2.2.2 gL_pageOf_X10_pageOf rfl rfl rfl (by decide +kernel) ⟨Nat.le_of_ble_eq_true rfl, Nat.le_of_ble_eq_true rfl⟩) rfl rfl (Nat.le_of_ble_eq_true rfl) dL_pageOf_5 ⟨Nat.le_of_ble_eq_true rfl, Nat.le_of_ble_eq_true rfl⟩ [] ⟨0, 10, 13, 24⟩ [] (htab.trans rfl) (fun z hz => nomatch hz) rfl (by decide) (List.mem_of_getElem? (i := 1) rfl) pq_cst_3 (fun q9 => ?_)
      refine pv_astore C [(4, .ref q9), (0, .ref a0), (1, .int x1), (2, .int x2), (3, .ref a3)] dL_pageOf_13 (by decide) rfl ?_
      refine pv_iconst (v := 1) C dL_pageOf_15 (by decide) ?_
      refine pv_wide (k := 2) (n := 12) (Nat.le_of_ble_eq_true rfl) (Nat.le_of_ble_eq_true rfl) ?_
      exact pv_iret C hr hlk h dL_pageOf_16
    · have h := pq_if c15 h
      cases h
  · refine pv_xcalliVR C (kc := 2) (ks := 12) (ci := 10) rfl (by decide) k0_ hX [.int x1, .int x2] (fun sz => r_X10_pageOf hl W0 k0_ e13 sz) (cwV 2 C.1.2.2.2.2 gL_pageOf_X10_pageOf rfl rfl rfl (by decide +kernel) ⟨Nat.le_of_ble_eq_true rfl, Nat.le_of_ble_eq_true rfl⟩) rfl rfl (Nat.le_of_ble_eq_true rfl) dL_pageOf_5 ⟨Nat.le_of_ble_eq_true rfl, Nat.le_of_ble_eq_true rfl⟩ ?_
    refine pv_i2l C dL_pageOf_8 ?_
    obtain ⟨g17, h⟩ := pq_gd h
    refine pv_lastore C k3_ g17 dL_pageOf_9 ?_
    refine pv_nm (fun S18 e19 => ?_)
    have h := pq_ls e19 h
    refine pv_goto (tgt := 17) C dL_pageOf_10 (by decide) ?_
    refine pv_iconst (v := 0) C dL_pageOf_17 (by decide) ?_
    refine pv_wide (k := 2) (n := 12) (Nat.le_of_ble_eq_true rfl) (Nat.le_of_ble_eq_true rfl) ?_
    exact pv_iret C hr hlk h dL_pageOf_18
def F_L_comesFrom (G : pq_G) (S : pq_N) (a0 : Nat) (x1 : Int32) (x2 : Int32) (a3 : Nat) : Option (Int32 × pq_N) := pq_bh (F_X10_comesFrom G S a0 x1 x2) (fun k20 S12 => (if k20 = 3 then some ((1 : Int32), S12) else none)) (fun v11 S12 => (if (0 : Int32) < 0 ∨ pq_n G a3 ≤ (Int32.toNatClampNeg (0 : Int32)) then none else (pq_lt (pq_wj S12 a3 (Int32.toNatClampNeg (0 : Int32)) (Int32.toInt64 v11)) fun S18 => some ((0 : Int32), S18))))
set_option maxHeartbeats 4000000 in
set_option maxRecDepth 100000 in
theorem r_L_comesFrom {l : Launch} (hl : l.stackTraces = false) {D : va_G} {y : pq_Y} {G : pq_G} (W0 : pq_WT G) {S : pq_N} {a0 : Nat} {x1 : Int32} {x2 : Int32} {a3 : Nat} (k0_ : pq_ok G 10 a0) (k3_ : pq_ok G 13 a3) {r : Int32} {S1 : pq_N} (h : F_L_comesFrom G S a0 x1 x2 a3 = some (r, S1)) (sz : Nat) : Met l yL_comesFrom wsL_comesFrom ({ frames := 9, cells := 2, slots := 12, locals := 155 } : Room) (pq_PX D y G S sz [.ref a0, .int x1, .int x2, .ref a3]) (pq_Qi D y G sz r S1) 2 12 (pq_A G sz) := by
  refine pq_enterH RL 5 (by decide) rfl rfl rfl ?_
  intro p e s m below meth c C hsz hr hlk hX htab
  subst hsz
  unfold F_L_comesFrom at h
  refine pv_sub (lo1 := [(0, .ref a0), (1, .int x1), (2, .int x2), (3, .ref a3)]) [0, 1, 2, 3] rfl ?_
  refine pv_aload_n C 3 dL_comesFrom_0 rfl rfl ?_
  refine pv_iconst (v := 0) C dL_comesFrom_1 (by decide) ?_
  refine pv_aload_n C 0 dL_comesFrom_2 rfl rfl ?_
  refine pv_iload_n C 1 dL_comesFrom_3 rfl rfl ?_
  refine pv_iload_n C 2 dL_comesFrom_4 rfl rfl ?_
  rcases pq_bhs h with ⟨k14, S12, e13, h⟩ | ⟨v11, S12, e13, h⟩
  · by_cases c15 : k14 = 3
    · have h := pq_it c15 h
      subst c15
      refine pv_xcalliVH C (kc := 2) (ks := 12) (ci := 10) rfl (by decide) k0_ hX [.int x1, .int x2] (fun sz => r_X10_comesFrom hl W0 k0_ e13 sz) (cwV 2 C.1.2.2.2.2 gL_comesFrom_X10_comesFrom rfl rfl rfl (by decide +kernel) ⟨Nat.le_of_ble_eq_true rfl, Nat.le_of_ble_eq_true rfl⟩) rfl rfl (Nat.le_of_ble_eq_true rfl) dL_comesFrom_5 ⟨Nat.le_of_ble_eq_true rfl, Nat.le_of_ble_eq_true rfl⟩ [] ⟨0, 10, 13, 24⟩ [] (htab.trans rfl) (fun z hz => nomatch hz) rfl (by decide) (List.mem_of_getElem? (i := 1) rfl) pq_cst_3 (fun q9 => ?_)
      refine pv_astore C [(4, .ref q9), (0, .ref a0), (1, .int x1), (2, .int x2), (3, .ref a3)] dL_comesFrom_13 (by decide) rfl ?_
      refine pv_iconst (v := 1) C dL_comesFrom_15 (by decide) ?_
      refine pv_wide (k := 2) (n := 12) (Nat.le_of_ble_eq_true rfl) (Nat.le_of_ble_eq_true rfl) ?_
      exact pv_iret C hr hlk h dL_comesFrom_16
    · have h := pq_if c15 h
      cases h
  · refine pv_xcalliVR C (kc := 2) (ks := 12) (ci := 10) rfl (by decide) k0_ hX [.int x1, .int x2] (fun sz => r_X10_comesFrom hl W0 k0_ e13 sz) (cwV 2 C.1.2.2.2.2 gL_comesFrom_X10_comesFrom rfl rfl rfl (by decide +kernel) ⟨Nat.le_of_ble_eq_true rfl, Nat.le_of_ble_eq_true rfl⟩) rfl rfl (Nat.le_of_ble_eq_true rfl) dL_comesFrom_5 ⟨Nat.le_of_ble_eq_true rfl, Nat.le_of_ble_eq_true rfl⟩ ?_
    refine pv_i2l C dL_comesFrom_8 ?_
    obtain ⟨g17, h⟩ := pq_gd h
    refine pv_lastore C k3_ g17 dL_comesFrom_9 ?_
    refine pv_nm (fun S18 e19 => ?_)
    have h := pq_ls e19 h
    refine pv_goto (tgt := 17) C dL_comesFrom_10 (by decide) ?_
    refine pv_iconst (v := 0) C dL_comesFrom_17 (by decide) ?_
    refine pv_wide (k := 2) (n := 12) (Nat.le_of_ble_eq_true rfl) (Nat.le_of_ble_eq_true rfl) ?_
    exact pv_iret C hr hlk h dL_comesFrom_18
def F_L_originOf (G : pq_G) (S : pq_N) (a0 : Nat) (x1 : Int32) (x2 : Int32) (a3 : Nat) : Option (Int32 × pq_N) := pq_bh (F_X10_originOf G S a0 x1 x2) (fun k20 S12 => (if k20 = 3 then some ((1 : Int32), S12) else none)) (fun v11 S12 => (if (0 : Int32) < 0 ∨ pq_n G a3 ≤ (Int32.toNatClampNeg (0 : Int32)) then none else (pq_lt (pq_wj S12 a3 (Int32.toNatClampNeg (0 : Int32)) (Int32.toInt64 v11)) fun S18 => some ((0 : Int32), S18))))
set_option maxHeartbeats 4000000 in
set_option maxRecDepth 100000 in
theorem r_L_originOf {l : Launch} (hl : l.stackTraces = false) {D : va_G} {y : pq_Y} {G : pq_G} (W0 : pq_WT G) {S : pq_N} {a0 : Nat} {x1 : Int32} {x2 : Int32} {a3 : Nat} (k0_ : pq_ok G 10 a0) (k3_ : pq_ok G 13 a3) {r : Int32} {S1 : pq_N} (h : F_L_originOf G S a0 x1 x2 a3 = some (r, S1)) (sz : Nat) : Met l yL_originOf wsL_originOf ({ frames := 9, cells := 2, slots := 12, locals := 174 } : Room) (pq_PX D y G S sz [.ref a0, .int x1, .int x2, .ref a3]) (pq_Qi D y G sz r S1) 2 12 (pq_A G sz) := by
  refine pq_enterH RL 5 (by decide) rfl rfl rfl ?_
  intro p e s m below meth c C hsz hr hlk hX htab
  subst hsz
  unfold F_L_originOf at h
  refine pv_sub (lo1 := [(0, .ref a0), (1, .int x1), (2, .int x2), (3, .ref a3)]) [0, 1, 2, 3] rfl ?_
  refine pv_aload_n C 3 dL_originOf_0 rfl rfl ?_
  refine pv_iconst (v := 0) C dL_originOf_1 (by decide) ?_
  refine pv_aload_n C 0 dL_originOf_2 rfl rfl ?_
  refine pv_iload_n C 1 dL_originOf_3 rfl rfl ?_
  refine pv_iload_n C 2 dL_originOf_4 rfl rfl ?_
  rcases pq_bhs h with ⟨k14, S12, e13, h⟩ | ⟨v11, S12, e13, h⟩
  · by_cases c15 : k14 = 3
    · have h := pq_it c15 h
      subst c15
      refine pv_xcalliVH C (kc := 2) (ks := 12) (ci := 10) rfl (by decide) k0_ hX [.int x1, .int x2] (fun sz => r_X10_originOf hl W0 k0_ e13 sz) (cwV 2 C.1.2.2.2.2 gL_originOf_X10_originOf rfl rfl rfl (by decide +kernel) ⟨Nat.le_of_ble_eq_true rfl, Nat.le_of_ble_eq_true rfl⟩) rfl rfl (Nat.le_of_ble_eq_true rfl) dL_originOf_5 ⟨Nat.le_of_ble_eq_true rfl, Nat.le_of_ble_eq_true rfl⟩ [] ⟨0, 10, 13, 24⟩ [] (htab.trans rfl) (fun z hz => nomatch hz) rfl (by decide) (List.mem_of_getElem? (i := 1) rfl) pq_cst_3 (fun q9 => ?_)
      refine pv_astore C [(4, .ref q9), (0, .ref a0), (1, .int x1), (2, .int x2), (3, .ref a3)] dL_originOf_13 (by decide) rfl ?_
      refine pv_iconst (v := 1) C dL_originOf_15 (by decide) ?_
      refine pv_wide (k := 2) (n := 12) (Nat.le_of_ble_eq_true rfl) (Nat.le_of_ble_eq_true rfl) ?_
      exact pv_iret C hr hlk h dL_originOf_16
    · have h := pq_if c15 h
      cases h
  · refine pv_xcalliVR C (kc := 2) (ks := 12) (ci := 10) rfl (by decide) k0_ hX [.int x1, .int x2] (fun sz => r_X10_originOf hl W0 k0_ e13 sz) (cwV 2 C.1.2.2.2.2 gL_originOf_X10_originOf rfl rfl rfl (by decide +kernel) ⟨Nat.le_of_ble_eq_true rfl, Nat.le_of_ble_eq_true rfl⟩) rfl rfl (Nat.le_of_ble_eq_true rfl) dL_originOf_5 ⟨Nat.le_of_ble_eq_true rfl, Nat.le_of_ble_eq_true rfl⟩ ?_
    refine pv_i2l C dL_originOf_8 ?_
    obtain ⟨g17, h⟩ := pq_gd h
    refine pv_lastore C k3_ g17 dL_originOf_9 ?_
    refine pv_nm (fun S18 e19 => ?_)
    have h := pq_ls e19 h
    refine pv_goto (tgt := 17) C dL_originOf_10 (by decide) ?_
    refine pv_iconst (v := 0) C dL_originOf_17 (by decide) ?_
    refine pv_wide (k := 2) (n := 12) (Nat.le_of_ble_eq_true rfl) (Nat.le_of_ble_eq_true rfl) ?_
    exact pv_iret C hr hlk h dL_originOf_18
def F_L_traceOf (G : pq_G) (S : pq_N) (a0 : Nat) (x1 : Int32) (x2 : Int32) (a3 : Nat) : Option (Int32 × pq_N) := pq_bh (F_X10_traceOf G S a0 x1 x2) (fun k20 S12 => (if k20 = 3 then some ((1 : Int32), S12) else none)) (fun v11 S12 => (if (0 : Int32) < 0 ∨ pq_n G a3 ≤ (Int32.toNatClampNeg (0 : Int32)) then none else (pq_lt (pq_wj S12 a3 (Int32.toNatClampNeg (0 : Int32)) (Int32.toInt64 v11)) fun S18 => some ((0 : Int32), S18))))
set_option maxHeartbeats 4000000 in
set_option maxRecDepth 100000 in
theorem r_L_traceOf {l : Launch} (hl : l.stackTraces = false) {D : va_G} {y : pq_Y} {G : pq_G} (W0 : pq_WT G) {S : pq_N} {a0 : Nat} {x1 : Int32} {x2 : Int32} {a3 : Nat} (k0_ : pq_ok G 10 a0) (k3_ : pq_ok G 13 a3) {r : Int32} {S1 : pq_N} (h : F_L_traceOf G S a0 x1 x2 a3 = some (r, S1)) (sz : Nat) : Met l yL_traceOf wsL_traceOf ({ frames := 9, cells := 2, slots := 12, locals := 174 } : Room) (pq_PX D y G S sz [.ref a0, .int x1, .int x2, .ref a3]) (pq_Qi D y G sz r S1) 2 12 (pq_A G sz) := by
  refine pq_enterH RL 5 (by decide) rfl rfl rfl ?_
  intro p e s m below meth c C hsz hr hlk hX htab
  subst hsz
  unfold F_L_traceOf at h
  refine pv_sub (lo1 := [(0, .ref a0), (1, .int x1), (2, .int x2), (3, .ref a3)]) [0, 1, 2, 3] rfl ?_
  refine pv_aload_n C 3 dL_traceOf_0 rfl rfl ?_
  refine pv_iconst (v := 0) C dL_traceOf_1 (by decide) ?_
  refine pv_aload_n C 0 dL_traceOf_2 rfl rfl ?_
  refine pv_iload_n C 1 dL_traceOf_3 rfl rfl ?_
  refine pv_iload_n C 2 dL_traceOf_4 rfl rfl ?_
  rcases pq_bhs h with ⟨k14, S12, e13, h⟩ | ⟨v11, S12, e13, h⟩
  · by_cases c15 : k14 = 3
    · have h := pq_it c15 h
      subst c15
      refine pv_xcalliVH C (kc := 2) (ks := 12) (ci := 10) rfl (by decide) k0_ hX [.int x1, .int x2] (fun sz => r_X10_traceOf hl W0 k0_ e13 sz) (cwV 2 C.1.2.2.2.2 gL_traceOf_X10_traceOf rfl rfl rfl (by decide +kernel) ⟨Nat.le_of_ble_eq_true rfl, Nat.le_of_ble_eq_true rfl⟩) rfl rfl (Nat.le_of_ble_eq_true rfl) dL_traceOf_5 ⟨Nat.le_of_ble_eq_true rfl, Nat.le_of_ble_eq_true rfl⟩ [] ⟨0, 10, 13, 24⟩ [] (htab.trans rfl) (fun z hz => nomatch hz) rfl (by decide) (List.mem_of_getElem? (i := 1) rfl) pq_cst_3 (fun q9 => ?_)
      refine pv_astore C [(4, .ref q9), (0, .ref a0), (1, .int x1), (2, .int x2), (3, .ref a3)] dL_traceOf_13 (by decide) rfl ?_
      refine pv_iconst (v := 1) C dL_traceOf_15 (by decide) ?_
      refine pv_wide (k := 2) (n := 12) (Nat.le_of_ble_eq_true rfl) (Nat.le_of_ble_eq_true rfl) ?_
      exact pv_iret C hr hlk h dL_traceOf_16
    · have h := pq_if c15 h
      cases h
  · refine pv_xcalliVR C (kc := 2) (ks := 12) (ci := 10) rfl (by decide) k0_ hX [.int x1, .int x2] (fun sz => r_X10_traceOf hl W0 k0_ e13 sz) (cwV 2 C.1.2.2.2.2 gL_traceOf_X10_traceOf rfl rfl rfl (by decide +kernel) ⟨Nat.le_of_ble_eq_true rfl, Nat.le_of_ble_eq_true rfl⟩) rfl rfl (Nat.le_of_ble_eq_true rfl) dL_traceOf_5 ⟨Nat.le_of_ble_eq_true rfl, Nat.le_of_ble_eq_true rfl⟩ ?_
    refine pv_i2l C dL_traceOf_8 ?_
    obtain ⟨g17, h⟩ := pq_gd h
    refine pv_lastore C k3_ g17 dL_traceOf_9 ?_
    refine pv_nm (fun S18 e19 => ?_)
    have h := pq_ls e19 h
    refine pv_goto (tgt := 17) C dL_traceOf_10 (by decide) ?_
    refine pv_iconst (v := 0) C dL_traceOf_17 (by decide) ?_
    refine pv_wide (k := 2) (n := 12) (Nat.le_of_ble_eq_true rfl) (Nat.le_of_ble_eq_true rfl) ?_
    exact pv_iret C hr hlk h dL_traceOf_18
def F_L_changesAtOrigin (G : pq_G) (S : pq_N) (a0 : Nat) (x1 : Int32) (x2 : Int32) (a3 : Nat) : Option (Int32 × pq_N) := pq_bh (F_X10_changesAtOrigin G S a0 x1 x2) (fun k20 S12 => (if k20 = 3 then some ((1 : Int32), S12) else none)) (fun v11 S12 => (if (0 : Int32) < 0 ∨ pq_n G a3 ≤ (Int32.toNatClampNeg (0 : Int32)) then none else (pq_lt (pq_wj S12 a3 (Int32.toNatClampNeg (0 : Int32)) (Int32.toInt64 v11)) fun S18 => some ((0 : Int32), S18))))
set_option maxHeartbeats 4000000 in
set_option maxRecDepth 100000 in
theorem r_L_changesAtOrigin {l : Launch} (hl : l.stackTraces = false) {D : va_G} {y : pq_Y} {G : pq_G} (W0 : pq_WT G) {S : pq_N} {a0 : Nat} {x1 : Int32} {x2 : Int32} {a3 : Nat} (k0_ : pq_ok G 10 a0) (k3_ : pq_ok G 13 a3) {r : Int32} {S1 : pq_N} (h : F_L_changesAtOrigin G S a0 x1 x2 a3 = some (r, S1)) (sz : Nat) : Met l yL_changesAtOrigin wsL_changesAtOrigin ({ frames := 9, cells := 2, slots := 12, locals := 174 } : Room) (pq_PX D y G S sz [.ref a0, .int x1, .int x2, .ref a3]) (pq_Qi D y G sz r S1) 2 12 (pq_A G sz) := by
  refine pq_enterH RL 5 (by decide) rfl rfl rfl ?_
  intro p e s m below meth c C hsz hr hlk hX htab
  subst hsz
  unfold F_L_changesAtOrigin at h
  refine pv_sub (lo1 := [(0, .ref a0), (1, .int x1), (2, .int x2), (3, .ref a3)]) [0, 1, 2, 3] rfl ?_
  refine pv_aload_n C 3 dL_changesAtOrigin_0 rfl rfl ?_
  refine pv_iconst (v := 0) C dL_changesAtOrigin_1 (by decide) ?_
  refine pv_aload_n C 0 dL_changesAtOrigin_2 rfl rfl ?_
  refine pv_iload_n C 1 dL_changesAtOrigin_3 rfl rfl ?_
  refine pv_iload_n C 2 dL_changesAtOrigin_4 rfl rfl ?_
  rcases pq_bhs h with ⟨k14, S12, e13, h⟩ | ⟨v11, S12, e13, h⟩
  · by_cases c15 : k14 = 3
    · have h := pq_it c15 h
      subst c15
      refine pv_xcalliVH C (kc := 2) (ks := 12) (ci := 10) rfl (by decide) k0_ hX [.int x1, .int x2] (fun sz => r_X10_changesAtOrigin hl W0 k0_ e13 sz) (cwV 2 C.1.2.2.2.2 gL_changesAtOrigin_X10_changesAtOrigin rfl rfl rfl (by decide +kernel) ⟨Nat.le_of_ble_eq_true rfl, Nat.le_of_ble_eq_true rfl⟩) rfl rfl (Nat.le_of_ble_eq_true rfl) dL_changesAtOrigin_5 ⟨Nat.le_of_ble_eq_true rfl, Nat.le_of_ble_eq_true rfl⟩ [] ⟨0, 10, 13, 24⟩ [] (htab.trans rfl) (fun z hz => nomatch hz) rfl (by decide) (List.mem_of_getElem? (i := 1) rfl) pq_cst_3 (fun q9 => ?_)
      refine pv_astore C [(4, .ref q9), (0, .ref a0), (1, .int x1), (2, .int x2), (3, .ref a3)] dL_changesAtOrigin_13 (by decide) rfl ?_
      refine pv_iconst (v := 1) C dL_changesAtOrigin_15 (by decide) ?_
      refine pv_wide (k := 2) (n := 12) (Nat.le_of_ble_eq_true rfl) (Nat.le_of_ble_eq_true rfl) ?_
      exact pv_iret C hr hlk h dL_changesAtOrigin_16
    · have h := pq_if c15 h
      cases h
  · refine pv_xcalliVR C (kc := 2) (ks := 12) (ci := 10) rfl (by decide) k0_ hX [.int x1, .int x2] (fun sz => r_X10_changesAtOrigin hl W0 k0_ e13 sz) (cwV 2 C.1.2.2.2.2 gL_changesAtOrigin_X10_changesAtOrigin rfl rfl rfl (by decide +kernel) ⟨Nat.le_of_ble_eq_true rfl, Nat.le_of_ble_eq_true rfl⟩) rfl rfl (Nat.le_of_ble_eq_true rfl) dL_changesAtOrigin_5 ⟨Nat.le_of_ble_eq_true rfl, Nat.le_of_ble_eq_true rfl⟩ ?_
    refine pv_i2l C dL_changesAtOrigin_8 ?_
    obtain ⟨g17, h⟩ := pq_gd h
    refine pv_lastore C k3_ g17 dL_changesAtOrigin_9 ?_
    refine pv_nm (fun S18 e19 => ?_)
    have h := pq_ls e19 h
    refine pv_goto (tgt := 17) C dL_changesAtOrigin_10 (by decide) ?_
    refine pv_iconst (v := 0) C dL_changesAtOrigin_17 (by decide) ?_
    refine pv_wide (k := 2) (n := 12) (Nat.le_of_ble_eq_true rfl) (Nat.le_of_ble_eq_true rfl) ?_
    exact pv_iret C hr hlk h dL_changesAtOrigin_18
def F_L_quotedAgain (G : pq_G) (S : pq_N) (a0 : Nat) (x1 : Int32) (x2 : Int32) (a3 : Nat) : Option (Int32 × pq_N) := pq_bh (F_X10_quotedAgain G S a0 x1 x2) (fun k20 S12 => (if k20 = 3 then some ((1 : Int32), S12) else none)) (fun v11 S12 => (if (0 : Int32) < 0 ∨ pq_n G a3 ≤ (Int32.toNatClampNeg (0 : Int32)) then none else (pq_lt (pq_wj S12 a3 (Int32.toNatClampNeg (0 : Int32)) (Int32.toInt64 v11)) fun S18 => some ((0 : Int32), S18))))
set_option maxHeartbeats 4000000 in
set_option maxRecDepth 100000 in
theorem r_L_quotedAgain {l : Launch} (hl : l.stackTraces = false) {D : va_G} {y : pq_Y} {G : pq_G} (W0 : pq_WT G) {S : pq_N} {a0 : Nat} {x1 : Int32} {x2 : Int32} {a3 : Nat} (k0_ : pq_ok G 10 a0) (k3_ : pq_ok G 13 a3) {r : Int32} {S1 : pq_N} (h : F_L_quotedAgain G S a0 x1 x2 a3 = some (r, S1)) (sz : Nat) : Met l yL_quotedAgain wsL_quotedAgain ({ frames := 9, cells := 2, slots := 12, locals := 155 } : Room) (pq_PX D y G S sz [.ref a0, .int x1, .int x2, .ref a3]) (pq_Qi D y G sz r S1) 2 12 (pq_A G sz) := by
  refine pq_enterH RL 5 (by decide) rfl rfl rfl ?_
  intro p e s m below meth c C hsz hr hlk hX htab
  subst hsz
  unfold F_L_quotedAgain at h
  refine pv_sub (lo1 := [(0, .ref a0), (1, .int x1), (2, .int x2), (3, .ref a3)]) [0, 1, 2, 3] rfl ?_
  refine pv_aload_n C 3 dL_quotedAgain_0 rfl rfl ?_
  refine pv_iconst (v := 0) C dL_quotedAgain_1 (by decide) ?_
  refine pv_aload_n C 0 dL_quotedAgain_2 rfl rfl ?_
  refine pv_iload_n C 1 dL_quotedAgain_3 rfl rfl ?_
  refine pv_iload_n C 2 dL_quotedAgain_4 rfl rfl ?_
  rcases pq_bhs h with ⟨k14, S12, e13, h⟩ | ⟨v11, S12, e13, h⟩
  · by_cases c15 : k14 = 3
    · have h := pq_it c15 h
      subst c15
      refine pv_xcalliVH C (kc := 2) (ks := 12) (ci := 10) rfl (by decide) k0_ hX [.int x1, .int x2] (fun sz => r_X10_quotedAgain hl W0 k0_ e13 sz) (cwV 2 C.1.2.2.2.2 gL_quotedAgain_X10_quotedAgain rfl rfl rfl (by decide +kernel) ⟨Nat.le_of_ble_eq_true rfl, Nat.le_of_ble_eq_true rfl⟩) rfl rfl (Nat.le_of_ble_eq_true rfl) dL_quotedAgain_5 ⟨Nat.le_of_ble_eq_true rfl, Nat.le_of_ble_eq_true rfl⟩ [] ⟨0, 10, 13, 24⟩ [] (htab.trans rfl) (fun z hz => nomatch hz) rfl (by decide) (List.mem_of_getElem? (i := 1) rfl) pq_cst_3 (fun q9 => ?_)
      refine pv_astore C [(4, .ref q9), (0, .ref a0), (1, .int x1), (2, .int x2), (3, .ref a3)] dL_quotedAgain_13 (by decide) rfl ?_
      refine pv_iconst (v := 1) C dL_quotedAgain_15 (by decide) ?_
      refine pv_wide (k := 2) (n := 12) (Nat.le_of_ble_eq_true rfl) (Nat.le_of_ble_eq_true rfl) ?_
      exact pv_iret C hr hlk h dL_quotedAgain_16
    · have h := pq_if c15 h
      cases h
  · refine pv_xcalliVR C (kc := 2) (ks := 12) (ci := 10) rfl (by decide) k0_ hX [.int x1, .int x2] (fun sz => r_X10_quotedAgain hl W0 k0_ e13 sz) (cwV 2 C.1.2.2.2.2 gL_quotedAgain_X10_quotedAgain rfl rfl rfl (by decide +kernel) ⟨Nat.le_of_ble_eq_true rfl, Nat.le_of_ble_eq_true rfl⟩) rfl rfl (Nat.le_of_ble_eq_true rfl) dL_quotedAgain_5 ⟨Nat.le_of_ble_eq_true rfl, Nat.le_of_ble_eq_true rfl⟩ ?_
    refine pv_i2l C dL_quotedAgain_8 ?_
    obtain ⟨g17, h⟩ := pq_gd h
    refine pv_lastore C k3_ g17 dL_quotedAgain_9 ?_
    refine pv_nm (fun S18 e19 => ?_)
    have h := pq_ls e19 h
    refine pv_goto (tgt := 17) C dL_quotedAgain_10 (by decide) ?_
    refine pv_iconst (v := 0) C dL_quotedAgain_17 (by decide) ?_
    refine pv_wide (k := 2) (n := 12) (Nat.le_of_ble_eq_true rfl) (Nat.le_of_ble_eq_true rfl) ?_
    exact pv_iret C hr hlk h dL_quotedAgain_18
def F_L_blameOf (G : pq_G) (S : pq_N) (a0 : Nat) (x1 : Int32) (a2 : Nat) : Option (Int32 × pq_N) := pq_bh (F_X10_blameOf G S a0 x1) (fun k20 S12 => (if k20 = 3 then some ((1 : Int32), S12) else none)) (fun v11 S12 => (if (0 : Int32) < 0 ∨ pq_n G a2 ≤ (Int32.toNatClampNeg (0 : Int32)) then none else (pq_lt (pq_wj S12 a2 (Int32.toNatClampNeg (0 : Int32)) (Int32.toInt64 v11)) fun S18 => some ((0 : Int32), S18))))
set_option maxHeartbeats 4000000 in
set_option maxRecDepth 100000 in
theorem r_L_blameOf {l : Launch} (hl : l.stackTraces = false) {D : va_G} {y : pq_Y} {G : pq_G} (W0 : pq_WT G) {S : pq_N} {a0 : Nat} {x1 : Int32} {a2 : Nat} (k0_ : pq_ok G 10 a0) (k2_ : pq_ok G 13 a2) {r : Int32} {S1 : pq_N} (h : F_L_blameOf G S a0 x1 a2 = some (r, S1)) (sz : Nat) : Met l yL_blameOf wsL_blameOf ({ frames := 8, cells := 1, slots := 6, locals := 176 } : Room) (pq_PX D y G S sz [.ref a0, .int x1, .ref a2]) (pq_Qi D y G sz r S1) 1 6 (pq_A G sz) := by
  refine pq_enterH RL 4 (by decide) rfl rfl rfl ?_
  intro p e s m below meth c C hsz hr hlk hX htab
  subst hsz
  unfold F_L_blameOf at h
  refine pv_sub (lo1 := [(0, .ref a0), (1, .int x1), (2, .ref a2)]) [0, 1, 2] rfl ?_
  refine pv_aload_n C 2 dL_blameOf_0 rfl rfl ?_
  refine pv_iconst (v := 0) C dL_blameOf_1 (by decide) ?_
  refine pv_aload_n C 0 dL_blameOf_2 rfl rfl ?_
  refine pv_iload_n C 1 dL_blameOf_3 rfl rfl ?_
  rcases pq_bhs h with ⟨k14, S12, e13, h⟩ | ⟨v11, S12, e13, h⟩
  · by_cases c15 : k14 = 3
    · have h := pq_it c15 h
      subst c15
      refine pv_xcalliVH C (kc := 1) (ks := 6) (ci := 10) rfl (by decide) k0_ hX [.int x1] (fun sz => r_X10_blameOf hl W0 k0_ e13 sz) (cwV 1 C.1.2.2.2.2 gL_blameOf_X10_blameOf rfl rfl rfl (by decide +kernel) ⟨Nat.le_of_ble_eq_true rfl, Nat.le_of_ble_eq_true rfl⟩) rfl rfl (Nat.le_of_ble_eq_true rfl) dL_blameOf_4 ⟨Nat.le_of_ble_eq_true rfl, Nat.le_of_ble_eq_true rfl⟩ [] ⟨0, 9, 12, 24⟩ [] (htab.trans rfl) (fun z hz => nomatch hz) rfl (by decide) (List.mem_of_getElem? (i := 1) rfl) pq_cst_3 (fun q9 => ?_)
      refine pv_astore_n C [(3, .ref q9), (0, .ref a0), (1, .int x1), (2, .ref a2)] dL_blameOf_12 rfl (by decide) rfl ?_
      refine pv_iconst (v := 1) C dL_blameOf_13 (by decide) ?_
      refine pv_wide (k := 1) (n := 6) (Nat.le_of_ble_eq_true rfl) (Nat.le_of_ble_eq_true rfl) ?_
      exact pv_iret C hr hlk h dL_blameOf_14
    · have h := pq_if c15 h
      cases h
  · refine pv_xcalliVR C (kc := 1) (ks := 6) (ci := 10) rfl (by decide) k0_ hX [.int x1] (fun sz => r_X10_blameOf hl W0 k0_ e13 sz) (cwV 1 C.1.2.2.2.2 gL_blameOf_X10_blameOf rfl rfl rfl (by decide +kernel) ⟨Nat.le_of_ble_eq_true rfl, Nat.le_of_ble_eq_true rfl⟩) rfl rfl (Nat.le_of_ble_eq_true rfl) dL_blameOf_4 ⟨Nat.le_of_ble_eq_true rfl, Nat.le_of_ble_eq_true rfl⟩ ?_
    refine pv_i2l C dL_blameOf_7 ?_
    obtain ⟨g17, h⟩ := pq_gd h
    refine pv_lastore C k2_ g17 dL_blameOf_8 ?_
    refine pv_nm (fun S18 e19 => ?_)
    have h := pq_ls e19 h
    refine pv_goto (tgt := 15) C dL_blameOf_9 (by decide) ?_
    refine pv_iconst (v := 0) C dL_blameOf_15 (by decide) ?_
    refine pv_wide (k := 1) (n := 6) (Nat.le_of_ble_eq_true rfl) (Nat.le_of_ble_eq_true rfl) ?_
    exact pv_iret C hr hlk h dL_blameOf_16
def F_L_wrongs (G : pq_G) (S : pq_N) (a0 : Nat) (x1 : Int32) (x2 : Int32) (a3 : Nat) : Option (Int32 × pq_N) := pq_bh (F_X10_wrongs G S a0 x1 x2) (fun k20 S12 => (if k20 = 3 then some ((1 : Int32), S12) else none)) (fun v11 S12 => (if (0 : Int32) < 0 ∨ pq_n G a3 ≤ (Int32.toNatClampNeg (0 : Int32)) then none else (pq_lt (pq_wj S12 a3 (Int32.toNatClampNeg (0 : Int32)) (Int32.toInt64 v11)) fun S18 => some ((0 : Int32), S18))))
set_option maxHeartbeats 4000000 in
set_option maxRecDepth 100000 in
theorem r_L_wrongs {l : Launch} (hl : l.stackTraces = false) {D : va_G} {y : pq_Y} {G : pq_G} (W0 : pq_WT G) {S : pq_N} {a0 : Nat} {x1 : Int32} {x2 : Int32} {a3 : Nat} (k0_ : pq_ok G 10 a0) (k3_ : pq_ok G 13 a3) {r : Int32} {S1 : pq_N} (h : F_L_wrongs G S a0 x1 x2 a3 = some (r, S1)) (sz : Nat) : Met l yL_wrongs wsL_wrongs ({ frames := 8, cells := 2, slots := 12, locals := 177 } : Room) (pq_PX D y G S sz [.ref a0, .int x1, .int x2, .ref a3]) (pq_Qi D y G sz r S1) 2 12 (pq_A G sz) := by
  refine pq_enterH RL 5 (by decide) rfl rfl rfl ?_
  intro p e s m below meth c C hsz hr hlk hX htab
  subst hsz
  unfold F_L_wrongs at h
  refine pv_sub (lo1 := [(0, .ref a0), (1, .int x1), (2, .int x2), (3, .ref a3)]) [0, 1, 2, 3] rfl ?_
  refine pv_aload_n C 3 dL_wrongs_0 rfl rfl ?_
  refine pv_iconst (v := 0) C dL_wrongs_1 (by decide) ?_
  refine pv_aload_n C 0 dL_wrongs_2 rfl rfl ?_
  refine pv_iload_n C 1 dL_wrongs_3 rfl rfl ?_
  refine pv_iload_n C 2 dL_wrongs_4 rfl rfl ?_
  rcases pq_bhs h with ⟨k14, S12, e13, h⟩ | ⟨v11, S12, e13, h⟩
  · by_cases c15 : k14 = 3
    · have h := pq_it c15 h
      subst c15
      refine pv_xcalliVH C (kc := 2) (ks := 12) (ci := 10) rfl (by decide) k0_ hX [.int x1, .int x2] (fun sz => r_X10_wrongs hl W0 k0_ e13 sz) (cwV 2 C.1.2.2.2.2 gL_wrongs_X10_wrongs rfl rfl rfl (by decide +kernel) ⟨Nat.le_of_ble_eq_true rfl, Nat.le_of_ble_eq_true rfl⟩) rfl rfl (Nat.le_of_ble_eq_true rfl) dL_wrongs_5 ⟨Nat.le_of_ble_eq_true rfl, Nat.le_of_ble_eq_true rfl⟩ [] ⟨0, 10, 13, 24⟩ [] (htab.trans rfl) (fun z hz => nomatch hz) rfl (by decide) (List.mem_of_getElem? (i := 1) rfl) pq_cst_3 (fun q9 => ?_)
      refine pv_astore C [(4, .ref q9), (0, .ref a0), (1, .int x1), (2, .int x2), (3, .ref a3)] dL_wrongs_13 (by decide) rfl ?_
      refine pv_iconst (v := 1) C dL_wrongs_15 (by decide) ?_
      refine pv_wide (k := 2) (n := 12) (Nat.le_of_ble_eq_true rfl) (Nat.le_of_ble_eq_true rfl) ?_
      exact pv_iret C hr hlk h dL_wrongs_16
    · have h := pq_if c15 h
      cases h
  · refine pv_xcalliVR C (kc := 2) (ks := 12) (ci := 10) rfl (by decide) k0_ hX [.int x1, .int x2] (fun sz => r_X10_wrongs hl W0 k0_ e13 sz) (cwV 2 C.1.2.2.2.2 gL_wrongs_X10_wrongs rfl rfl rfl (by decide +kernel) ⟨Nat.le_of_ble_eq_true rfl, Nat.le_of_ble_eq_true rfl⟩) rfl rfl (Nat.le_of_ble_eq_true rfl) dL_wrongs_5 ⟨Nat.le_of_ble_eq_true rfl, Nat.le_of_ble_eq_true rfl⟩ ?_
    refine pv_i2l C dL_wrongs_8 ?_
    obtain ⟨g17, h⟩ := pq_gd h
    refine pv_lastore C k3_ g17 dL_wrongs_9 ?_
    refine pv_nm (fun S18 e19 => ?_)
    have h := pq_ls e19 h
    refine pv_goto (tgt := 17) C dL_wrongs_10 (by decide) ?_
    refine pv_iconst (v := 0) C dL_wrongs_17 (by decide) ?_
    refine pv_wide (k := 2) (n := 12) (Nat.le_of_ble_eq_true rfl) (Nat.le_of_ble_eq_true rfl) ?_
    exact pv_iret C hr hlk h dL_wrongs_18
def F_L_answers (G : pq_G) (S : pq_N) (a0 : Nat) (x1 : Int32) (x2 : Int32) (a3 : Nat) : Option (Int32 × pq_N) := pq_bh (F_X10_answers G S a0 x1 x2) (fun k24 S12 => (if k24 = 3 then some ((1 : Int32), S12) else none)) (fun v11 S12 => (if v11 = (0 : Int32) then (if (0 : Int32) < 0 ∨ pq_n G a3 ≤ (Int32.toNatClampNeg (0 : Int32)) then none else (pq_lt (pq_wj S12 a3 (Int32.toNatClampNeg (0 : Int32)) (0 : Int64)) fun S19 => some ((0 : Int32), S19))) else (if (0 : Int32) < 0 ∨ pq_n G a3 ≤ (Int32.toNatClampNeg (0 : Int32)) then none else (pq_lt (pq_wj S12 a3 (Int32.toNatClampNeg (0 : Int32)) (1 : Int64)) fun S22 => some ((0 : Int32), S22)))))
set_option maxHeartbeats 4000000 in
set_option maxRecDepth 100000 in
theorem r_L_answers {l : Launch} (hl : l.stackTraces = false) {D : va_G} {y : pq_Y} {G : pq_G} (W0 : pq_WT G) {S : pq_N} {a0 : Nat} {x1 : Int32} {x2 : Int32} {a3 : Nat} (k0_ : pq_ok G 10 a0) (k3_ : pq_ok G 13 a3) {r : Int32} {S1 : pq_N} (h : F_L_answers G S a0 x1 x2 a3 = some (r, S1)) (sz : Nat) : Met l yL_answers wsL_answers ({ frames := 8, cells := 2, slots := 12, locals := 133 } : Room) (pq_PX D y G S sz [.ref a0, .int x1, .int x2, .ref a3]) (pq_Qi D y G sz r S1) 2 12 (pq_A G sz) := by
  refine pq_enterH RL 5 (by decide) rfl rfl rfl ?_
  intro p e s m below meth c C hsz hr hlk hX htab
  subst hsz
  unfold F_L_answers at h
  refine pv_sub (lo1 := [(0, .ref a0), (1, .int x1), (2, .int x2), (3, .ref a3)]) [0, 1, 2, 3] rfl ?_
  refine pv_aload_n C 3 dL_answers_0 rfl rfl ?_
  refine pv_iconst (v := 0) C dL_answers_1 (by decide) ?_
  refine pv_aload_n C 0 dL_answers_2 rfl rfl ?_
  refine pv_iload_n C 1 dL_answers_3 rfl rfl ?_
  refine pv_iload_n C 2 dL_answers_4 rfl rfl ?_
  rcases pq_bhs h with ⟨k14, S12, e13, h⟩ | ⟨v11, S12, e13, h⟩
  · by_cases c15 : k14 = 3
    · have h := pq_it c15 h
      subst c15
      refine pv_xcalliVH C (kc := 2) (ks := 12) (ci := 10) rfl (by decide) k0_ hX [.int x1, .int x2] (fun sz => r_X10_answers hl W0 k0_ e13 sz) (cwV 2 C.1.2.2.2.2 gL_answers_X10_answers rfl rfl rfl (by decide +kernel) ⟨Nat.le_of_ble_eq_true rfl, Nat.le_of_ble_eq_true rfl⟩) rfl rfl (Nat.le_of_ble_eq_true rfl) dL_answers_5 ⟨Nat.le_of_ble_eq_true rfl, Nat.le_of_ble_eq_true rfl⟩ [] ⟨0, 17, 20, 24⟩ [] (htab.trans rfl) (fun z hz => nomatch hz) rfl (by decide) (List.mem_of_getElem? (i := 1) rfl) pq_cst_3 (fun q9 => ?_)
      refine pv_astore C [(4, .ref q9), (0, .ref a0), (1, .int x1), (2, .int x2), (3, .ref a3)] dL_answers_20 (by decide) rfl ?_
      refine pv_iconst (v := 1) C dL_answers_22 (by decide) ?_
      refine pv_wide (k := 2) (n := 12) (Nat.le_of_ble_eq_true rfl) (Nat.le_of_ble_eq_true rfl) ?_
      exact pv_iret C hr hlk h dL_answers_23
    · have h := pq_if c15 h
      cases h
  · refine pv_xcalliVR C (kc := 2) (ks := 12) (ci := 10) rfl (by decide) k0_ hX [.int x1, .int x2] (fun sz => r_X10_answers hl W0 k0_ e13 sz) (cwV 2 C.1.2.2.2.2 gL_answers_X10_answers rfl rfl rfl (by decide +kernel) ⟨Nat.le_of_ble_eq_true rfl, Nat.le_of_ble_eq_true rfl⟩) rfl rfl (Nat.le_of_ble_eq_true rfl) dL_answers_5 ⟨Nat.le_of_ble_eq_true rfl, Nat.le_of_ble_eq_true rfl⟩ ?_
    refine pv_if_eq (tgt := 15) C dL_answers_8 (by decide) (fun c17 => ?_) (fun c17 => ?_)
    · have h := pq_it c17 h
      refine pv_lconst (v := 0) C dL_answers_15 (by decide) ?_
      obtain ⟨g18, h⟩ := pq_gd h
      refine pv_lastore C k3_ g18 dL_answers_16 ?_
      refine pv_nm (fun S19 e20 => ?_)
      have h := pq_ls e20 h
      refine pv_goto (tgt := 24) C dL_answers_17 (by decide) ?_
      refine pv_iconst (v := 0) C dL_answers_24 (by decide) ?_
      refine pv_wide (k := 2) (n := 12) (Nat.le_of_ble_eq_true rfl) (Nat.le_of_ble_eq_true rfl) ?_
      exact pv_iret C hr hlk h dL_answers_25
    · have h := pq_if c17 h
      refine pv_lconst (v := 1) C dL_answers_11 (by decide) ?_
      refine pv_goto (tgt := 16) C dL_answers_12 (by decide) ?_
      obtain ⟨g21, h⟩ := pq_gd h
      refine pv_lastore C k3_ g21 dL_answers_16 ?_
      refine pv_nm (fun S22 e23 => ?_)
      have h := pq_ls e23 h
      refine pv_goto (tgt := 24) C dL_answers_17 (by decide) ?_
      refine pv_iconst (v := 0) C dL_answers_24 (by decide) ?_
      refine pv_wide (k := 2) (n := 12) (Nat.le_of_ble_eq_true rfl) (Nat.le_of_ble_eq_true rfl) ?_
      exact pv_iret C hr hlk h dL_answers_25
def F_L_ladderOf (G : pq_G) (S : pq_N) (a0 : Nat) (x1 : Int32) (a2 : Nat) : Option (Int32 × pq_N) := pq_bh (F_X10_ladderOf G S a0 x1) (fun k20 S12 => (if k20 = 3 then some ((1 : Int32), S12) else none)) (fun v11 S12 => (if (0 : Int32) < 0 ∨ pq_n G a2 ≤ (Int32.toNatClampNeg (0 : Int32)) then none else (pq_lt (pq_wj S12 a2 (Int32.toNatClampNeg (0 : Int32)) (Int32.toInt64 v11)) fun S18 => some ((0 : Int32), S18))))
set_option maxHeartbeats 4000000 in
set_option maxRecDepth 100000 in
theorem r_L_ladderOf {l : Launch} (hl : l.stackTraces = false) {D : va_G} {y : pq_Y} {G : pq_G} (W0 : pq_WT G) {S : pq_N} {a0 : Nat} {x1 : Int32} {a2 : Nat} (k0_ : pq_ok G 10 a0) (k2_ : pq_ok G 13 a2) {r : Int32} {S1 : pq_N} (h : F_L_ladderOf G S a0 x1 a2 = some (r, S1)) (sz : Nat) : Met l yL_ladderOf wsL_ladderOf ({ frames := 8, cells := 1, slots := 6, locals := 132 } : Room) (pq_PX D y G S sz [.ref a0, .int x1, .ref a2]) (pq_Qi D y G sz r S1) 1 6 (pq_A G sz) := by
  refine pq_enterH RL 4 (by decide) rfl rfl rfl ?_
  intro p e s m below meth c C hsz hr hlk hX htab
  subst hsz
  unfold F_L_ladderOf at h
  refine pv_sub (lo1 := [(0, .ref a0), (1, .int x1), (2, .ref a2)]) [0, 1, 2] rfl ?_
  refine pv_aload_n C 2 dL_ladderOf_0 rfl rfl ?_
  refine pv_iconst (v := 0) C dL_ladderOf_1 (by decide) ?_
  refine pv_aload_n C 0 dL_ladderOf_2 rfl rfl ?_
  refine pv_iload_n C 1 dL_ladderOf_3 rfl rfl ?_
  rcases pq_bhs h with ⟨k14, S12, e13, h⟩ | ⟨v11, S12, e13, h⟩
  · by_cases c15 : k14 = 3
    · have h := pq_it c15 h
      subst c15
      refine pv_xcalliVH C (kc := 1) (ks := 6) (ci := 10) rfl (by decide) k0_ hX [.int x1] (fun sz => r_X10_ladderOf hl W0 k0_ e13 sz) (cwV 1 C.1.2.2.2.2 gL_ladderOf_X10_ladderOf rfl rfl rfl (by decide +kernel) ⟨Nat.le_of_ble_eq_true rfl, Nat.le_of_ble_eq_true rfl⟩) rfl rfl (Nat.le_of_ble_eq_true rfl) dL_ladderOf_4 ⟨Nat.le_of_ble_eq_true rfl, Nat.le_of_ble_eq_true rfl⟩ [] ⟨0, 9, 12, 24⟩ [] (htab.trans rfl) (fun z hz => nomatch hz) rfl (by decide) (List.mem_of_getElem? (i := 1) rfl) pq_cst_3 (fun q9 => ?_)
      refine pv_astore_n C [(3, .ref q9), (0, .ref a0), (1, .int x1), (2, .ref a2)] dL_ladderOf_12 rfl (by decide) rfl ?_
      refine pv_iconst (v := 1) C dL_ladderOf_13 (by decide) ?_
      refine pv_wide (k := 1) (n := 6) (Nat.le_of_ble_eq_true rfl) (Nat.le_of_ble_eq_true rfl) ?_
      exact pv_iret C hr hlk h dL_ladderOf_14
    · have h := pq_if c15 h
      cases h
  · refine pv_xcalliVR C (kc := 1) (ks := 6) (ci := 10) rfl (by decide) k0_ hX [.int x1] (fun sz => r_X10_ladderOf hl W0 k0_ e13 sz) (cwV 1 C.1.2.2.2.2 gL_ladderOf_X10_ladderOf rfl rfl rfl (by decide +kernel) ⟨Nat.le_of_ble_eq_true rfl, Nat.le_of_ble_eq_true rfl⟩) rfl rfl (Nat.le_of_ble_eq_true rfl) dL_ladderOf_4 ⟨Nat.le_of_ble_eq_true rfl, Nat.le_of_ble_eq_true rfl⟩ ?_
    refine pv_i2l C dL_ladderOf_7 ?_
    obtain ⟨g17, h⟩ := pq_gd h
    refine pv_lastore C k2_ g17 dL_ladderOf_8 ?_
    refine pv_nm (fun S18 e19 => ?_)
    have h := pq_ls e19 h
    refine pv_goto (tgt := 15) C dL_ladderOf_9 (by decide) ?_
    refine pv_iconst (v := 0) C dL_ladderOf_15 (by decide) ?_
    refine pv_wide (k := 1) (n := 6) (Nat.le_of_ble_eq_true rfl) (Nat.le_of_ble_eq_true rfl) ?_
    exact pv_iret C hr hlk h dL_ladderOf_16
def F_L_laddersOf (G : pq_G) (S : pq_N) (a0 : Nat) (x1 : Int32) (a2 : Nat) : Option (Int32 × pq_N) := pq_bh (F_X10_laddersOf G S a0 x1) (fun k20 S12 => (if k20 = 3 then some ((1 : Int32), S12) else none)) (fun v11 S12 => (if (0 : Int32) < 0 ∨ pq_n G a2 ≤ (Int32.toNatClampNeg (0 : Int32)) then none else (pq_lt (pq_wj S12 a2 (Int32.toNatClampNeg (0 : Int32)) (Int32.toInt64 v11)) fun S18 => some ((0 : Int32), S18))))
set_option maxHeartbeats 4000000 in
set_option maxRecDepth 100000 in
theorem r_L_laddersOf {l : Launch} (hl : l.stackTraces = false) {D : va_G} {y : pq_Y} {G : pq_G} (W0 : pq_WT G) {S : pq_N} {a0 : Nat} {x1 : Int32} {a2 : Nat} (k0_ : pq_ok G 10 a0) (k2_ : pq_ok G 13 a2) {r : Int32} {S1 : pq_N} (h : F_L_laddersOf G S a0 x1 a2 = some (r, S1)) (sz : Nat) : Met l yL_laddersOf wsL_laddersOf ({ frames := 8, cells := 1, slots := 6, locals := 132 } : Room) (pq_PX D y G S sz [.ref a0, .int x1, .ref a2]) (pq_Qi D y G sz r S1) 1 6 (pq_A G sz) := by
  refine pq_enterH RL 4 (by decide) rfl rfl rfl ?_
  intro p e s m below meth c C hsz hr hlk hX htab
  subst hsz
  unfold F_L_laddersOf at h
  refine pv_sub (lo1 := [(0, .ref a0), (1, .int x1), (2, .ref a2)]) [0, 1, 2] rfl ?_
  refine pv_aload_n C 2 dL_laddersOf_0 rfl rfl ?_
  refine pv_iconst (v := 0) C dL_laddersOf_1 (by decide) ?_
  refine pv_aload_n C 0 dL_laddersOf_2 rfl rfl ?_
  refine pv_iload_n C 1 dL_laddersOf_3 rfl rfl ?_
  rcases pq_bhs h with ⟨k14, S12, e13, h⟩ | ⟨v11, S12, e13, h⟩
  · by_cases c15 : k14 = 3
    · have h := pq_it c15 h
      subst c15
      refine pv_xcalliVH C (kc := 1) (ks := 6) (ci := 10) rfl (by decide) k0_ hX [.int x1] (fun sz => r_X10_laddersOf hl W0 k0_ e13 sz) (cwV 1 C.1.2.2.2.2 gL_laddersOf_X10_laddersOf rfl rfl rfl (by decide +kernel) ⟨Nat.le_of_ble_eq_true rfl, Nat.le_of_ble_eq_true rfl⟩) rfl rfl (Nat.le_of_ble_eq_true rfl) dL_laddersOf_4 ⟨Nat.le_of_ble_eq_true rfl, Nat.le_of_ble_eq_true rfl⟩ [] ⟨0, 9, 12, 24⟩ [] (htab.trans rfl) (fun z hz => nomatch hz) rfl (by decide) (List.mem_of_getElem? (i := 1) rfl) pq_cst_3 (fun q9 => ?_)
      refine pv_astore_n C [(3, .ref q9), (0, .ref a0), (1, .int x1), (2, .ref a2)] dL_laddersOf_12 rfl (by decide) rfl ?_
      refine pv_iconst (v := 1) C dL_laddersOf_13 (by decide) ?_
      refine pv_wide (k := 1) (n := 6) (Nat.le_of_ble_eq_true rfl) (Nat.le_of_ble_eq_true rfl) ?_
      exact pv_iret C hr hlk h dL_laddersOf_14
    · have h := pq_if c15 h
      cases h
  · refine pv_xcalliVR C (kc := 1) (ks := 6) (ci := 10) rfl (by decide) k0_ hX [.int x1] (fun sz => r_X10_laddersOf hl W0 k0_ e13 sz) (cwV 1 C.1.2.2.2.2 gL_laddersOf_X10_laddersOf rfl rfl rfl (by decide +kernel) ⟨Nat.le_of_ble_eq_true rfl, Nat.le_of_ble_eq_true rfl⟩) rfl rfl (Nat.le_of_ble_eq_true rfl) dL_laddersOf_4 ⟨Nat.le_of_ble_eq_true rfl, Nat.le_of_ble_eq_true rfl⟩ ?_
    refine pv_i2l C dL_laddersOf_7 ?_
    obtain ⟨g17, h⟩ := pq_gd h
    refine pv_lastore C k2_ g17 dL_laddersOf_8 ?_
    refine pv_nm (fun S18 e19 => ?_)
    have h := pq_ls e19 h
    refine pv_goto (tgt := 15) C dL_laddersOf_9 (by decide) ?_
    refine pv_iconst (v := 0) C dL_laddersOf_15 (by decide) ?_
    refine pv_wide (k := 1) (n := 6) (Nat.le_of_ble_eq_true rfl) (Nat.le_of_ble_eq_true rfl) ?_
    exact pv_iret C hr hlk h dL_laddersOf_16
def F_L_readingOf (G : pq_G) (S : pq_N) (a0 : Nat) (x1 : Int32) (a2 : Nat) : Option (Int32 × pq_N) := pq_bh (F_X10_readingOf G S a0 x1) (fun k20 S12 => (if k20 = 3 then some ((1 : Int32), S12) else none)) (fun v11 S12 => (if (0 : Int32) < 0 ∨ pq_n G a2 ≤ (Int32.toNatClampNeg (0 : Int32)) then none else (pq_lt (pq_wj S12 a2 (Int32.toNatClampNeg (0 : Int32)) (Int32.toInt64 v11)) fun S18 => some ((0 : Int32), S18))))
set_option maxHeartbeats 4000000 in
set_option maxRecDepth 100000 in
theorem r_L_readingOf {l : Launch} (hl : l.stackTraces = false) {D : va_G} {y : pq_Y} {G : pq_G} (W0 : pq_WT G) {S : pq_N} {a0 : Nat} {x1 : Int32} {a2 : Nat} (k0_ : pq_ok G 10 a0) (k2_ : pq_ok G 13 a2) {r : Int32} {S1 : pq_N} (h : F_L_readingOf G S a0 x1 a2 = some (r, S1)) (sz : Nat) : Met l yL_readingOf wsL_readingOf ({ frames := 8, cells := 1, slots := 6, locals := 132 } : Room) (pq_PX D y G S sz [.ref a0, .int x1, .ref a2]) (pq_Qi D y G sz r S1) 1 6 (pq_A G sz) := by
  refine pq_enterH RL 4 (by decide) rfl rfl rfl ?_
  intro p e s m below meth c C hsz hr hlk hX htab
  subst hsz
  unfold F_L_readingOf at h
  refine pv_sub (lo1 := [(0, .ref a0), (1, .int x1), (2, .ref a2)]) [0, 1, 2] rfl ?_
  refine pv_aload_n C 2 dL_readingOf_0 rfl rfl ?_
  refine pv_iconst (v := 0) C dL_readingOf_1 (by decide) ?_
  refine pv_aload_n C 0 dL_readingOf_2 rfl rfl ?_
  refine pv_iload_n C 1 dL_readingOf_3 rfl rfl ?_
  rcases pq_bhs h with ⟨k14, S12, e13, h⟩ | ⟨v11, S12, e13, h⟩
  · by_cases c15 : k14 = 3
    · have h := pq_it c15 h
      subst c15
      refine pv_xcalliVH C (kc := 1) (ks := 6) (ci := 10) rfl (by decide) k0_ hX [.int x1] (fun sz => r_X10_readingOf hl W0 k0_ e13 sz) (cwV 1 C.1.2.2.2.2 gL_readingOf_X10_readingOf rfl rfl rfl (by decide +kernel) ⟨Nat.le_of_ble_eq_true rfl, Nat.le_of_ble_eq_true rfl⟩) rfl rfl (Nat.le_of_ble_eq_true rfl) dL_readingOf_4 ⟨Nat.le_of_ble_eq_true rfl, Nat.le_of_ble_eq_true rfl⟩ [] ⟨0, 9, 12, 24⟩ [] (htab.trans rfl) (fun z hz => nomatch hz) rfl (by decide) (List.mem_of_getElem? (i := 1) rfl) pq_cst_3 (fun q9 => ?_)
      refine pv_astore_n C [(3, .ref q9), (0, .ref a0), (1, .int x1), (2, .ref a2)] dL_readingOf_12 rfl (by decide) rfl ?_
      refine pv_iconst (v := 1) C dL_readingOf_13 (by decide) ?_
      refine pv_wide (k := 1) (n := 6) (Nat.le_of_ble_eq_true rfl) (Nat.le_of_ble_eq_true rfl) ?_
      exact pv_iret C hr hlk h dL_readingOf_14
    · have h := pq_if c15 h
      cases h
  · refine pv_xcalliVR C (kc := 1) (ks := 6) (ci := 10) rfl (by decide) k0_ hX [.int x1] (fun sz => r_X10_readingOf hl W0 k0_ e13 sz) (cwV 1 C.1.2.2.2.2 gL_readingOf_X10_readingOf rfl rfl rfl (by decide +kernel) ⟨Nat.le_of_ble_eq_true rfl, Nat.le_of_ble_eq_true rfl⟩) rfl rfl (Nat.le_of_ble_eq_true rfl) dL_readingOf_4 ⟨Nat.le_of_ble_eq_true rfl, Nat.le_of_ble_eq_true rfl⟩ ?_
    refine pv_i2l C dL_readingOf_7 ?_
    obtain ⟨g17, h⟩ := pq_gd h
    refine pv_lastore C k2_ g17 dL_readingOf_8 ?_
    refine pv_nm (fun S18 e19 => ?_)
    have h := pq_ls e19 h
    refine pv_goto (tgt := 15) C dL_readingOf_9 (by decide) ?_
    refine pv_iconst (v := 0) C dL_readingOf_15 (by decide) ?_
    refine pv_wide (k := 1) (n := 6) (Nat.le_of_ble_eq_true rfl) (Nat.le_of_ble_eq_true rfl) ?_
    exact pv_iret C hr hlk h dL_readingOf_16
def F_L_readAt (G : pq_G) (S : pq_N) (a0 : Nat) (x1 : Int32) (x2 : Int32) (a3 : Nat) : Option (Int32 × pq_N) := pq_bh (F_X10_readAt G S a0 x1 x2) (fun k20 S12 => (if k20 = 3 then some ((1 : Int32), S12) else none)) (fun v11 S12 => (if (0 : Int32) < 0 ∨ pq_n G a3 ≤ (Int32.toNatClampNeg (0 : Int32)) then none else (pq_lt (pq_wj S12 a3 (Int32.toNatClampNeg (0 : Int32)) (Int32.toInt64 v11)) fun S18 => some ((0 : Int32), S18))))
set_option maxHeartbeats 4000000 in
set_option maxRecDepth 100000 in
theorem r_L_readAt {l : Launch} (hl : l.stackTraces = false) {D : va_G} {y : pq_Y} {G : pq_G} (W0 : pq_WT G) {S : pq_N} {a0 : Nat} {x1 : Int32} {x2 : Int32} {a3 : Nat} (k0_ : pq_ok G 10 a0) (k3_ : pq_ok G 13 a3) {r : Int32} {S1 : pq_N} (h : F_L_readAt G S a0 x1 x2 a3 = some (r, S1)) (sz : Nat) : Met l yL_readAt wsL_readAt ({ frames := 8, cells := 2, slots := 12, locals := 133 } : Room) (pq_PX D y G S sz [.ref a0, .int x1, .int x2, .ref a3]) (pq_Qi D y G sz r S1) 2 12 (pq_A G sz) := by
  refine pq_enterH RL 5 (by decide) rfl rfl rfl ?_
  intro p e s m below meth c C hsz hr hlk hX htab
  subst hsz
  unfold F_L_readAt at h
  refine pv_sub (lo1 := [(0, .ref a0), (1, .int x1), (2, .int x2), (3, .ref a3)]) [0, 1, 2, 3] rfl ?_
  refine pv_aload_n C 3 dL_readAt_0 rfl rfl ?_
  refine pv_iconst (v := 0) C dL_readAt_1 (by decide) ?_
  refine pv_aload_n C 0 dL_readAt_2 rfl rfl ?_
  refine pv_iload_n C 1 dL_readAt_3 rfl rfl ?_
  refine pv_iload_n C 2 dL_readAt_4 rfl rfl ?_
  rcases pq_bhs h with ⟨k14, S12, e13, h⟩ | ⟨v11, S12, e13, h⟩
  · by_cases c15 : k14 = 3
    · have h := pq_it c15 h
      subst c15
      refine pv_xcalliVH C (kc := 2) (ks := 12) (ci := 10) rfl (by decide) k0_ hX [.int x1, .int x2] (fun sz => r_X10_readAt hl W0 k0_ e13 sz) (cwV 2 C.1.2.2.2.2 gL_readAt_X10_readAt rfl rfl rfl (by decide +kernel) ⟨Nat.le_of_ble_eq_true rfl, Nat.le_of_ble_eq_true rfl⟩) rfl rfl (Nat.le_of_ble_eq_true rfl) dL_readAt_5 ⟨Nat.le_of_ble_eq_true rfl, Nat.le_of_ble_eq_true rfl⟩ [] ⟨0, 10, 13, 24⟩ [] (htab.trans rfl) (fun z hz => nomatch hz) rfl (by decide) (List.mem_of_getElem? (i := 1) rfl) pq_cst_3 (fun q9 => ?_)
      refine pv_astore C [(4, .ref q9), (0, .ref a0), (1, .int x1), (2, .int x2), (3, .ref a3)] dL_readAt_13 (by decide) rfl ?_
      refine pv_iconst (v := 1) C dL_readAt_15 (by decide) ?_
      refine pv_wide (k := 2) (n := 12) (Nat.le_of_ble_eq_true rfl) (Nat.le_of_ble_eq_true rfl) ?_
      exact pv_iret C hr hlk h dL_readAt_16
    · have h := pq_if c15 h
      cases h
  · refine pv_xcalliVR C (kc := 2) (ks := 12) (ci := 10) rfl (by decide) k0_ hX [.int x1, .int x2] (fun sz => r_X10_readAt hl W0 k0_ e13 sz) (cwV 2 C.1.2.2.2.2 gL_readAt_X10_readAt rfl rfl rfl (by decide +kernel) ⟨Nat.le_of_ble_eq_true rfl, Nat.le_of_ble_eq_true rfl⟩) rfl rfl (Nat.le_of_ble_eq_true rfl) dL_readAt_5 ⟨Nat.le_of_ble_eq_true rfl, Nat.le_of_ble_eq_true rfl⟩ ?_
    refine pv_i2l C dL_readAt_8 ?_
    obtain ⟨g17, h⟩ := pq_gd h
    refine pv_lastore C k3_ g17 dL_readAt_9 ?_
    refine pv_nm (fun S18 e19 => ?_)
    have h := pq_ls e19 h
    refine pv_goto (tgt := 17) C dL_readAt_10 (by decide) ?_
    refine pv_iconst (v := 0) C dL_readAt_17 (by decide) ?_
    refine pv_wide (k := 2) (n := 12) (Nat.le_of_ble_eq_true rfl) (Nat.le_of_ble_eq_true rfl) ?_
    exact pv_iret C hr hlk h dL_readAt_18
def F_L_timesOf (G : pq_G) (S : pq_N) (a0 : Nat) (x1 : Int32) (a2 : Nat) : Option (Int32 × pq_N) := pq_bh (F_X10_timesOf G S a0 x1) (fun k20 S12 => (if k20 = 3 then some ((1 : Int32), S12) else none)) (fun v11 S12 => (if (0 : Int32) < 0 ∨ pq_n G a2 ≤ (Int32.toNatClampNeg (0 : Int32)) then none else (pq_lt (pq_wj S12 a2 (Int32.toNatClampNeg (0 : Int32)) (Int32.toInt64 v11)) fun S18 => some ((0 : Int32), S18))))
set_option maxHeartbeats 4000000 in
set_option maxRecDepth 100000 in
theorem r_L_timesOf {l : Launch} (hl : l.stackTraces = false) {D : va_G} {y : pq_Y} {G : pq_G} (W0 : pq_WT G) {S : pq_N} {a0 : Nat} {x1 : Int32} {a2 : Nat} (k0_ : pq_ok G 10 a0) (k2_ : pq_ok G 13 a2) {r : Int32} {S1 : pq_N} (h : F_L_timesOf G S a0 x1 a2 = some (r, S1)) (sz : Nat) : Met l yL_timesOf wsL_timesOf ({ frames := 8, cells := 1, slots := 6, locals := 132 } : Room) (pq_PX D y G S sz [.ref a0, .int x1, .ref a2]) (pq_Qi D y G sz r S1) 1 6 (pq_A G sz) := by
  refine pq_enterH RL 4 (by decide) rfl rfl rfl ?_
  intro p e s m below meth c C hsz hr hlk hX htab
  subst hsz
  unfold F_L_timesOf at h
  refine pv_sub (lo1 := [(0, .ref a0), (1, .int x1), (2, .ref a2)]) [0, 1, 2] rfl ?_
  refine pv_aload_n C 2 dL_timesOf_0 rfl rfl ?_
  refine pv_iconst (v := 0) C dL_timesOf_1 (by decide) ?_
  refine pv_aload_n C 0 dL_timesOf_2 rfl rfl ?_
  refine pv_iload_n C 1 dL_timesOf_3 rfl rfl ?_
  rcases pq_bhs h with ⟨k14, S12, e13, h⟩ | ⟨v11, S12, e13, h⟩
  · by_cases c15 : k14 = 3
    · have h := pq_it c15 h
      subst c15
      refine pv_xcalliVH C (kc := 1) (ks := 6) (ci := 10) rfl (by decide) k0_ hX [.int x1] (fun sz => r_X10_timesOf hl W0 k0_ e13 sz) (cwV 1 C.1.2.2.2.2 gL_timesOf_X10_timesOf rfl rfl rfl (by decide +kernel) ⟨Nat.le_of_ble_eq_true rfl, Nat.le_of_ble_eq_true rfl⟩) rfl rfl (Nat.le_of_ble_eq_true rfl) dL_timesOf_4 ⟨Nat.le_of_ble_eq_true rfl, Nat.le_of_ble_eq_true rfl⟩ [] ⟨0, 9, 12, 24⟩ [] (htab.trans rfl) (fun z hz => nomatch hz) rfl (by decide) (List.mem_of_getElem? (i := 1) rfl) pq_cst_3 (fun q9 => ?_)
      refine pv_astore_n C [(3, .ref q9), (0, .ref a0), (1, .int x1), (2, .ref a2)] dL_timesOf_12 rfl (by decide) rfl ?_
      refine pv_iconst (v := 1) C dL_timesOf_13 (by decide) ?_
      refine pv_wide (k := 1) (n := 6) (Nat.le_of_ble_eq_true rfl) (Nat.le_of_ble_eq_true rfl) ?_
      exact pv_iret C hr hlk h dL_timesOf_14
    · have h := pq_if c15 h
      cases h
  · refine pv_xcalliVR C (kc := 1) (ks := 6) (ci := 10) rfl (by decide) k0_ hX [.int x1] (fun sz => r_X10_timesOf hl W0 k0_ e13 sz) (cwV 1 C.1.2.2.2.2 gL_timesOf_X10_timesOf rfl rfl rfl (by decide +kernel) ⟨Nat.le_of_ble_eq_true rfl, Nat.le_of_ble_eq_true rfl⟩) rfl rfl (Nat.le_of_ble_eq_true rfl) dL_timesOf_4 ⟨Nat.le_of_ble_eq_true rfl, Nat.le_of_ble_eq_true rfl⟩ ?_
    refine pv_i2l C dL_timesOf_7 ?_
    obtain ⟨g17, h⟩ := pq_gd h
    refine pv_lastore C k2_ g17 dL_timesOf_8 ?_
    refine pv_nm (fun S18 e19 => ?_)
    have h := pq_ls e19 h
    refine pv_goto (tgt := 15) C dL_timesOf_9 (by decide) ?_
    refine pv_iconst (v := 0) C dL_timesOf_15 (by decide) ?_
    refine pv_wide (k := 1) (n := 6) (Nat.le_of_ble_eq_true rfl) (Nat.le_of_ble_eq_true rfl) ?_
    exact pv_iret C hr hlk h dL_timesOf_16
def F_L_glossaryLetter (G : pq_G) (S : pq_N) (a0 : Nat) (x1 : Int32) (x2 : Int32) (a3 : Nat) : Option (Int32 × pq_N) := pq_bh (F_X10_glossaryLetter G S a0 x1 x2) (fun k20 S12 => (if k20 = 3 then some ((1 : Int32), S12) else none)) (fun v11 S12 => (if (0 : Int32) < 0 ∨ pq_n G a3 ≤ (Int32.toNatClampNeg (0 : Int32)) then none else (pq_lt (pq_wj S12 a3 (Int32.toNatClampNeg (0 : Int32)) (Int32.toInt64 v11)) fun S18 => some ((0 : Int32), S18))))
set_option maxHeartbeats 4000000 in
set_option maxRecDepth 100000 in
theorem r_L_glossaryLetter {l : Launch} (hl : l.stackTraces = false) {D : va_G} {y : pq_Y} {G : pq_G} (W0 : pq_WT G) {S : pq_N} {a0 : Nat} {x1 : Int32} {x2 : Int32} {a3 : Nat} (k0_ : pq_ok G 10 a0) (k3_ : pq_ok G 13 a3) {r : Int32} {S1 : pq_N} (h : F_L_glossaryLetter G S a0 x1 x2 a3 = some (r, S1)) (sz : Nat) : Met l yL_glossaryLetter wsL_glossaryLetter ({ frames := 8, cells := 2, slots := 12, locals := 133 } : Room) (pq_PX D y G S sz [.ref a0, .int x1, .int x2, .ref a3]) (pq_Qi D y G sz r S1) 2 12 (pq_A G sz) := by
  refine pq_enterH RL 5 (by decide) rfl rfl rfl ?_
  intro p e s m below meth c C hsz hr hlk hX htab
  subst hsz
  unfold F_L_glossaryLetter at h
  refine pv_sub (lo1 := [(0, .ref a0), (1, .int x1), (2, .int x2), (3, .ref a3)]) [0, 1, 2, 3] rfl ?_
  refine pv_aload_n C 3 dL_glossaryLetter_0 rfl rfl ?_
  refine pv_iconst (v := 0) C dL_glossaryLetter_1 (by decide) ?_
  refine pv_aload_n C 0 dL_glossaryLetter_2 rfl rfl ?_
  refine pv_iload_n C 1 dL_glossaryLetter_3 rfl rfl ?_
  refine pv_iload_n C 2 dL_glossaryLetter_4 rfl rfl ?_
  rcases pq_bhs h with ⟨k14, S12, e13, h⟩ | ⟨v11, S12, e13, h⟩
  · by_cases c15 : k14 = 3
    · have h := pq_it c15 h
      subst c15
      refine pv_xcalliVH C (kc := 2) (ks := 12) (ci := 10) rfl (by decide) k0_ hX [.int x1, .int x2] (fun sz => r_X10_glossaryLetter hl W0 k0_ e13 sz) (cwV 2 C.1.2.2.2.2 gL_glossaryLetter_X10_glossaryLetter rfl rfl rfl (by decide +kernel) ⟨Nat.le_of_ble_eq_true rfl, Nat.le_of_ble_eq_true rfl⟩) rfl rfl (Nat.le_of_ble_eq_true rfl) dL_glossaryLetter_5 ⟨Nat.le_of_ble_eq_true rfl, Nat.le_of_ble_eq_true rfl⟩ [] ⟨0, 10, 13, 24⟩ [] (htab.trans rfl) (fun z hz => nomatch hz) rfl (by decide) (List.mem_of_getElem? (i := 1) rfl) pq_cst_3 (fun q9 => ?_)
      refine pv_astore C [(4, .ref q9), (0, .ref a0), (1, .int x1), (2, .int x2), (3, .ref a3)] dL_glossaryLetter_13 (by decide) rfl ?_
      refine pv_iconst (v := 1) C dL_glossaryLetter_15 (by decide) ?_
      refine pv_wide (k := 2) (n := 12) (Nat.le_of_ble_eq_true rfl) (Nat.le_of_ble_eq_true rfl) ?_
      exact pv_iret C hr hlk h dL_glossaryLetter_16
    · have h := pq_if c15 h
      cases h
  · refine pv_xcalliVR C (kc := 2) (ks := 12) (ci := 10) rfl (by decide) k0_ hX [.int x1, .int x2] (fun sz => r_X10_glossaryLetter hl W0 k0_ e13 sz) (cwV 2 C.1.2.2.2.2 gL_glossaryLetter_X10_glossaryLetter rfl rfl rfl (by decide +kernel) ⟨Nat.le_of_ble_eq_true rfl, Nat.le_of_ble_eq_true rfl⟩) rfl rfl (Nat.le_of_ble_eq_true rfl) dL_glossaryLetter_5 ⟨Nat.le_of_ble_eq_true rfl, Nat.le_of_ble_eq_true rfl⟩ ?_
    refine pv_i2l C dL_glossaryLetter_8 ?_
    obtain ⟨g17, h⟩ := pq_gd h
    refine pv_lastore C k3_ g17 dL_glossaryLetter_9 ?_
    refine pv_nm (fun S18 e19 => ?_)
    have h := pq_ls e19 h
    refine pv_goto (tgt := 17) C dL_glossaryLetter_10 (by decide) ?_
    refine pv_iconst (v := 0) C dL_glossaryLetter_17 (by decide) ?_
    refine pv_wide (k := 2) (n := 12) (Nat.le_of_ble_eq_true rfl) (Nat.le_of_ble_eq_true rfl) ?_
    exact pv_iret C hr hlk h dL_glossaryLetter_18
def F_L_append (G : pq_G) (S : pq_N) (a0 : Nat) (x1 : Int32) (a2 : Nat) : Option (Int32 × pq_N) := pq_bh (F_X10_append G S a0 x1) (fun k22 S12 => (if k22 = 1 then some ((1 : Int32), S12) else (if k22 = 2 then some ((2 : Int32), S12) else none))) (fun v11 S12 => (if (0 : Int32) < 0 ∨ pq_n G a2 ≤ (Int32.toNatClampNeg (0 : Int32)) then none else (pq_lt (pq_wj S12 a2 (Int32.toNatClampNeg (0 : Int32)) (Int32.toInt64 v11)) fun S20 => some ((0 : Int32), S20))))
set_option maxHeartbeats 4000000 in
set_option maxRecDepth 100000 in
theorem r_L_append {l : Launch} (hl : l.stackTraces = false) {D : va_G} {y : pq_Y} {G : pq_G} (W0 : pq_WT G) {S : pq_N} {a0 : Nat} {x1 : Int32} {a2 : Nat} (k0_ : pq_ok G 10 a0) (k2_ : pq_ok G 13 a2) {r : Int32} {S1 : pq_N} (h : F_L_append G S a0 x1 a2 = some (r, S1)) (sz : Nat) : Met l yL_append wsL_append ({ frames := 7, cells := 1, slots := 6, locals := 111 } : Room) (pq_PX D y G S sz [.ref a0, .int x1, .ref a2]) (pq_Qi D y G sz r S1) 1 6 (pq_A G sz) := by
  refine pq_enterH RL 4 (by decide) rfl rfl rfl ?_
  intro p e s m below meth c C hsz hr hlk hX htab
  subst hsz
  unfold F_L_append at h
  refine pv_sub (lo1 := [(0, .ref a0), (1, .int x1), (2, .ref a2)]) [0, 1, 2] rfl ?_
  refine pv_aload_n C 2 dL_append_0 rfl rfl ?_
  refine pv_iconst (v := 0) C dL_append_1 (by decide) ?_
  refine pv_aload_n C 0 dL_append_2 rfl rfl ?_
  refine pv_iload_n C 1 dL_append_3 rfl rfl ?_
  rcases pq_bhs h with ⟨k14, S12, e13, h⟩ | ⟨v11, S12, e13, h⟩
  · by_cases c15 : k14 = 1
    · have h := pq_it c15 h
      subst c15
      refine pv_xcalliVH C (kc := 1) (ks := 6) (ci := 10) rfl (by decide) k0_ hX [.int x1] (fun sz => r_X10_append hl W0 k0_ e13 sz) (cwV 1 C.1.2.2.2.2 gL_append_X10_append rfl rfl rfl (by decide +kernel) ⟨Nat.le_of_ble_eq_true rfl, Nat.le_of_ble_eq_true rfl⟩) rfl rfl (Nat.le_of_ble_eq_true rfl) dL_append_4 ⟨Nat.le_of_ble_eq_true rfl, Nat.le_of_ble_eq_true rfl⟩ [] ⟨0, 9, 12, 13⟩ [⟨0, 9, 15, 15⟩] (htab.trans rfl) (fun z hz => nomatch hz) rfl (by decide) (List.mem_of_getElem? (i := 1) rfl) pq_cst_1 (fun q9 => ?_)
      refine pv_astore_n C [(3, .ref q9), (0, .ref a0), (1, .int x1), (2, .ref a2)] dL_append_12 rfl (by decide) rfl ?_
      refine pv_iconst (v := 1) C dL_append_13 (by decide) ?_
      refine pv_wide (k := 1) (n := 6) (Nat.le_of_ble_eq_true rfl) (Nat.le_of_ble_eq_true rfl) ?_
      exact pv_iret C hr hlk h dL_append_14
    · have h := pq_if c15 h
      by_cases c17 : k14 = 2
      · have h := pq_it c17 h
        subst c17
        refine pv_xcalliVH C (kc := 1) (ks := 6) (ci := 10) rfl (by decide) k0_ hX [.int x1] (fun sz => r_X10_append hl W0 k0_ e13 sz) (cwV 1 C.1.2.2.2.2 gL_append_X10_append rfl rfl rfl (by decide +kernel) ⟨Nat.le_of_ble_eq_true rfl, Nat.le_of_ble_eq_true rfl⟩) rfl rfl (Nat.le_of_ble_eq_true rfl) dL_append_4 ⟨Nat.le_of_ble_eq_true rfl, Nat.le_of_ble_eq_true rfl⟩ [⟨0, 9, 12, 13⟩] ⟨0, 9, 15, 15⟩ [] (htab.trans rfl) (fun z hz => by rw [List.mem_singleton.mp hz]; exact Or.inr ⟨by decide, _, C.1.2.2.2.2 _ (List.mem_of_getElem? (i := 1) rfl), hX.2.2.2.2.1⟩) rfl (by decide) (List.mem_of_getElem? (i := 2) rfl) pq_cst_2 (fun q9 => ?_)
        refine pv_astore_n C [(3, .ref q9), (0, .ref a0), (1, .int x1), (2, .ref a2)] dL_append_15 rfl (by decide) rfl ?_
        refine pv_iconst (v := 2) C dL_append_16 (by decide) ?_
        refine pv_wide (k := 1) (n := 6) (Nat.le_of_ble_eq_true rfl) (Nat.le_of_ble_eq_true rfl) ?_
        exact pv_iret C hr hlk h dL_append_17
      · have h := pq_if c17 h
        cases h
  · refine pv_xcalliVR C (kc := 1) (ks := 6) (ci := 10) rfl (by decide) k0_ hX [.int x1] (fun sz => r_X10_append hl W0 k0_ e13 sz) (cwV 1 C.1.2.2.2.2 gL_append_X10_append rfl rfl rfl (by decide +kernel) ⟨Nat.le_of_ble_eq_true rfl, Nat.le_of_ble_eq_true rfl⟩) rfl rfl (Nat.le_of_ble_eq_true rfl) dL_append_4 ⟨Nat.le_of_ble_eq_true rfl, Nat.le_of_ble_eq_true rfl⟩ ?_
    refine pv_i2l C dL_append_7 ?_
    obtain ⟨g19, h⟩ := pq_gd h
    refine pv_lastore C k2_ g19 dL_append_8 ?_
    refine pv_nm (fun S20 e21 => ?_)
    have h := pq_ls e21 h
    refine pv_goto (tgt := 18) C dL_append_9 (by decide) ?_
    refine pv_iconst (v := 0) C dL_append_18 (by decide) ?_
    refine pv_wide (k := 1) (n := 6) (Nat.le_of_ble_eq_true rfl) (Nat.le_of_ble_eq_true rfl) ?_
    exact pv_iret C hr hlk h dL_append_19
def F_L_undo (G : pq_G) (S : pq_N) (a0 : Nat) (a1 : Nat) : Option (Int32 × pq_N) := pq_bh (F_X10_undo G S a0) (fun k20 S12 => (if k20 = 2 then some ((1 : Int32), S12) else none)) (fun v11 S12 => (if (0 : Int32) < 0 ∨ pq_n G a1 ≤ (Int32.toNatClampNeg (0 : Int32)) then none else (pq_lt (pq_wj S12 a1 (Int32.toNatClampNeg (0 : Int32)) (Int32.toInt64 v11)) fun S18 => some ((0 : Int32), S18))))
set_option maxHeartbeats 4000000 in
set_option maxRecDepth 100000 in
theorem r_L_undo {l : Launch} (hl : l.stackTraces = false) {D : va_G} {y : pq_Y} {G : pq_G} (W0 : pq_WT G) {S : pq_N} {a0 : Nat} {a1 : Nat} (k0_ : pq_ok G 10 a0) (k1_ : pq_ok G 13 a1) {r : Int32} {S1 : pq_N} (h : F_L_undo G S a0 a1 = some (r, S1)) (sz : Nat) : Met l yL_undo wsL_undo ({ frames := 7, cells := 1, slots := 6, locals := 133 } : Room) (pq_PX D y G S sz [.ref a0, .ref a1]) (pq_Qi D y G sz r S1) 1 6 (pq_A G sz) := by
  refine pq_enterH RL 3 (by decide) rfl rfl rfl ?_
  intro p e s m below meth c C hsz hr hlk hX htab
  subst hsz
  unfold F_L_undo at h
  refine pv_sub (lo1 := [(0, .ref a0), (1, .ref a1)]) [0, 1] rfl ?_
  refine pv_aload_n C 1 dL_undo_0 rfl rfl ?_
  refine pv_iconst (v := 0) C dL_undo_1 (by decide) ?_
  refine pv_aload_n C 0 dL_undo_2 rfl rfl ?_
  rcases pq_bhs h with ⟨k14, S12, e13, h⟩ | ⟨v11, S12, e13, h⟩
  · by_cases c15 : k14 = 2
    · have h := pq_it c15 h
      subst c15
      refine pv_xcalliVH C (kc := 1) (ks := 6) (ci := 10) rfl (by decide) k0_ hX [] (fun sz => r_X10_undo hl W0 k0_ e13 sz) (cwV 0 C.1.2.2.2.2 gL_undo_X10_undo rfl rfl rfl (by decide +kernel) ⟨Nat.le_of_ble_eq_true rfl, Nat.le_of_ble_eq_true rfl⟩) rfl rfl (Nat.le_of_ble_eq_true rfl) dL_undo_3 ⟨Nat.le_of_ble_eq_true rfl, Nat.le_of_ble_eq_true rfl⟩ [] ⟨0, 8, 11, 15⟩ [] (htab.trans rfl) (fun z hz => nomatch hz) rfl (by decide) (List.mem_of_getElem? (i := 1) rfl) pq_cst_2 (fun q9 => ?_)
      refine pv_astore_n C [(2, .ref q9), (0, .ref a0), (1, .ref a1)] dL_undo_11 rfl (by decide) rfl ?_
      refine pv_iconst (v := 1) C dL_undo_12 (by decide) ?_
      refine pv_wide (k := 1) (n := 6) (Nat.le_of_ble_eq_true rfl) (Nat.le_of_ble_eq_true rfl) ?_
      exact pv_iret C hr hlk h dL_undo_13
    · have h := pq_if c15 h
      cases h
  · refine pv_xcalliVR C (kc := 1) (ks := 6) (ci := 10) rfl (by decide) k0_ hX [] (fun sz => r_X10_undo hl W0 k0_ e13 sz) (cwV 0 C.1.2.2.2.2 gL_undo_X10_undo rfl rfl rfl (by decide +kernel) ⟨Nat.le_of_ble_eq_true rfl, Nat.le_of_ble_eq_true rfl⟩) rfl rfl (Nat.le_of_ble_eq_true rfl) dL_undo_3 ⟨Nat.le_of_ble_eq_true rfl, Nat.le_of_ble_eq_true rfl⟩ ?_
    refine pv_i2l C dL_undo_6 ?_
    obtain ⟨g17, h⟩ := pq_gd h
    refine pv_lastore C k1_ g17 dL_undo_7 ?_
    refine pv_nm (fun S18 e19 => ?_)
    have h := pq_ls e19 h
    refine pv_goto (tgt := 14) C dL_undo_8 (by decide) ?_
    refine pv_iconst (v := 0) C dL_undo_14 (by decide) ?_
    refine pv_wide (k := 1) (n := 6) (Nat.le_of_ble_eq_true rfl) (Nat.le_of_ble_eq_true rfl) ?_
    exact pv_iret C hr hlk h dL_undo_15
def F_L_restoreSnapshot (G : pq_G) (S : pq_N) (a0 : Nat) (a1 : Nat) : Option (Int32 × pq_N) := pq_bh (F_X10_restoreSnapshot G S a0) (fun k20 S12 => (if k20 = 2 then some ((1 : Int32), S12) else none)) (fun v11 S12 => (if (0 : Int32) < 0 ∨ pq_n G a1 ≤ (Int32.toNatClampNeg (0 : Int32)) then none else (pq_lt (pq_wj S12 a1 (Int32.toNatClampNeg (0 : Int32)) (Int32.toInt64 v11)) fun S18 => some ((0 : Int32), S18))))
set_option maxHeartbeats 4000000 in
set_option maxRecDepth 100000 in
theorem r_L_restoreSnapshot {l : Launch} (hl : l.stackTraces = false) {D : va_G} {y : pq_Y} {G : pq_G} (W0 : pq_WT G) {S : pq_N} {a0 : Nat} {a1 : Nat} (k0_ : pq_ok G 10 a0) (k1_ : pq_ok G 13 a1) {r : Int32} {S1 : pq_N} (h : F_L_restoreSnapshot G S a0 a1 = some (r, S1)) (sz : Nat) : Met l yL_restoreSnapshot wsL_restoreSnapshot ({ frames := 7, cells := 1, slots := 6, locals := 133 } : Room) (pq_PX D y G S sz [.ref a0, .ref a1]) (pq_Qi D y G sz r S1) 1 6 (pq_A G sz) := by
  refine pq_enterH RL 3 (by decide) rfl rfl rfl ?_
  intro p e s m below meth c C hsz hr hlk hX htab
  subst hsz
  unfold F_L_restoreSnapshot at h
  refine pv_sub (lo1 := [(0, .ref a0), (1, .ref a1)]) [0, 1] rfl ?_
  refine pv_aload_n C 1 dL_restoreSnapshot_0 rfl rfl ?_
  refine pv_iconst (v := 0) C dL_restoreSnapshot_1 (by decide) ?_
  refine pv_aload_n C 0 dL_restoreSnapshot_2 rfl rfl ?_
  rcases pq_bhs h with ⟨k14, S12, e13, h⟩ | ⟨v11, S12, e13, h⟩
  · by_cases c15 : k14 = 2
    · have h := pq_it c15 h
      subst c15
      refine pv_xcalliVH C (kc := 1) (ks := 6) (ci := 10) rfl (by decide) k0_ hX [] (fun sz => r_X10_restoreSnapshot hl W0 k0_ e13 sz) (cwV 0 C.1.2.2.2.2 gL_restoreSnapshot_X10_restoreSnapshot rfl rfl rfl (by decide +kernel) ⟨Nat.le_of_ble_eq_true rfl, Nat.le_of_ble_eq_true rfl⟩) rfl rfl (Nat.le_of_ble_eq_true rfl) dL_restoreSnapshot_3 ⟨Nat.le_of_ble_eq_true rfl, Nat.le_of_ble_eq_true rfl⟩ [] ⟨0, 8, 11, 15⟩ [] (htab.trans rfl) (fun z hz => nomatch hz) rfl (by decide) (List.mem_of_getElem? (i := 1) rfl) pq_cst_2 (fun q9 => ?_)
      refine pv_astore_n C [(2, .ref q9), (0, .ref a0), (1, .ref a1)] dL_restoreSnapshot_11 rfl (by decide) rfl ?_
      refine pv_iconst (v := 1) C dL_restoreSnapshot_12 (by decide) ?_
      refine pv_wide (k := 1) (n := 6) (Nat.le_of_ble_eq_true rfl) (Nat.le_of_ble_eq_true rfl) ?_
      exact pv_iret C hr hlk h dL_restoreSnapshot_13
    · have h := pq_if c15 h
      cases h
  · refine pv_xcalliVR C (kc := 1) (ks := 6) (ci := 10) rfl (by decide) k0_ hX [] (fun sz => r_X10_restoreSnapshot hl W0 k0_ e13 sz) (cwV 0 C.1.2.2.2.2 gL_restoreSnapshot_X10_restoreSnapshot rfl rfl rfl (by decide +kernel) ⟨Nat.le_of_ble_eq_true rfl, Nat.le_of_ble_eq_true rfl⟩) rfl rfl (Nat.le_of_ble_eq_true rfl) dL_restoreSnapshot_3 ⟨Nat.le_of_ble_eq_true rfl, Nat.le_of_ble_eq_true rfl⟩ ?_
    refine pv_i2l C dL_restoreSnapshot_6 ?_
    obtain ⟨g17, h⟩ := pq_gd h
    refine pv_lastore C k1_ g17 dL_restoreSnapshot_7 ?_
    refine pv_nm (fun S18 e19 => ?_)
    have h := pq_ls e19 h
    refine pv_goto (tgt := 14) C dL_restoreSnapshot_8 (by decide) ?_
    refine pv_iconst (v := 0) C dL_restoreSnapshot_14 (by decide) ?_
    refine pv_wide (k := 1) (n := 6) (Nat.le_of_ble_eq_true rfl) (Nat.le_of_ble_eq_true rfl) ?_
    exact pv_iret C hr hlk h dL_restoreSnapshot_15
