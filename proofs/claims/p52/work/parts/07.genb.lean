def F_X10_withLetter (G : pq_G) (S : pq_N) (x0 : Int64) (x2 : Int32) (x3 : Int32) : Option (Int64 × pq_N) := some ((x0 ||| ((Int32.toInt64 ((x3 - (97 : Int32)) + (1 : Int32))) <<< (Int32.toInt64 ((5 : Int32) * ((6 : Int32) - x2)) &&& 63))), S)
set_option maxHeartbeats 4000000 in
set_option maxRecDepth 100000 in
theorem r_X10_withLetter {l : Launch} {D : va_G} {y : pq_Y} {G : pq_G} (W0 : pq_WT G) {S : pq_N} {x0 : Int64} {x2 : Int32} {x3 : Int32}  {r : Int64} {S1 : pq_N} (h : F_X10_withLetter G S x0 x2 x3 = some (r, S1)) (sz : Nat) : Met l yX10_withLetter wsX10_withLetter ({ frames := 0, cells := 0, slots := 0, locals := 0 } : Room) (pq_P D y G S sz [.long x0, .int x2, .int x3]) (pq_Ql D y G sz r S1) 0 0 (pq_A G sz) := by
  refine pq_enter RX10 4 (by decide) rfl rfl rfl ?_
  intro p e s m below meth c C hsz hr hlk
  subst hsz
  unfold F_X10_withLetter at h
  refine pv_sub (lo1 := [(0, .long x0), (2, .int x2), (3, .int x3)]) [0, 1, 2] rfl ?_
  refine pv_lload_n C 0 dX10_withLetter_0 rfl rfl ?_
  refine pv_iload_n C 2 dX10_withLetter_1 rfl rfl ?_
  refine pv_bipush (v := 97) C dX10_withLetter_2 (by decide) ?_
  refine pv_isub C dX10_withLetter_4 ?_
  refine pv_iconst (v := 1) C dX10_withLetter_5 (by decide) ?_
  refine pv_iadd C dX10_withLetter_6 ?_
  refine pv_i2l C dX10_withLetter_7 ?_
  refine pv_iconst (v := 5) C dX10_withLetter_8 (by decide) ?_
  refine pv_bipush (v := 6) C dX10_withLetter_9 (by decide) ?_
  refine pv_iload_n C 1 dX10_withLetter_11 rfl rfl ?_
  refine pv_isub C dX10_withLetter_12 ?_
  refine pv_imul C dX10_withLetter_13 ?_
  refine pv_lshl C dX10_withLetter_14 ?_
  refine pv_lor C dX10_withLetter_15 ?_
  exact pv_lret C hr hlk h dX10_withLetter_16
def F_X6_afterFirstLetter (G : pq_G) (S : pq_N) (a0 : Nat) (x1 : Int32) (x2 : Int32) : Option (Int32 × pq_N) := (if x1 < (97 : Int32) then some ((0 : Int32), S) else (if x1 ≤ (122 : Int32) then (pq_bd (F_X10_withLetter G S (0 : Int64) (0 : Int32) x1) fun v14 S15 => (pq_bd (F_X4_addWord G S15 (pq_r G a0 0) v14) fun _ S18 => (pq_lt (pq_wi S18 a0 3 (1 : Int32)) fun S20 => some (x2, S20)))) else some ((0 : Int32), S)))
theorem inu_X6_afterFirstLetter_6 : ∀ w ∈ u_ws RX6 TX6 5, w ∈ wsX6_afterFirstLetter := pq_inu 19 rfl
set_option maxHeartbeats 4000000 in
set_option maxRecDepth 100000 in
theorem r_X6_afterFirstLetter {l : Launch} {D : va_G} {y : pq_Y} {G : pq_G} (W0 : pq_WT G) {S : pq_N} {a0 : Nat} {x1 : Int32} {x2 : Int32} (k0_ : pq_ok G 6 a0) {r : Int32} {S1 : pq_N} (h : F_X6_afterFirstLetter G S a0 x1 x2 = some (r, S1)) (sz : Nat) : Met l yX6_afterFirstLetter wsX6_afterFirstLetter ({ frames := 2, cells := 0, slots := 0, locals := 45 } : Room) (pq_P D y G S sz [.ref a0, .int x1, .int x2]) (pq_Qi D y G sz r S1) 0 0 (pq_A G sz) := by
  refine pq_enter RX6 3 (by decide) rfl rfl rfl ?_
  intro p e s m below meth c C hsz hr hlk
  subst hsz
  unfold F_X6_afterFirstLetter at h
  refine pv_sub (lo1 := [(0, .ref a0), (1, .int x1), (2, .int x2)]) [0, 1, 2] rfl ?_
  refine pv_iload_n C 1 dX6_afterFirstLetter_0 rfl rfl ?_
  refine pv_bipush (v := 97) C dX6_afterFirstLetter_1 (by decide) ?_
  refine pv_icmp_lt (tgt := 12) C dX6_afterFirstLetter_3 (by decide) (fun c11 => ?_) (fun c11 => ?_)
  · have h := pq_it c11 h
    refine pv_iconst (v := 0) C dX6_afterFirstLetter_12 (by decide) ?_
    exact pv_iret C hr hlk h dX6_afterFirstLetter_13
  · have h := pq_if c11 h
    refine pv_iload_n C 1 dX6_afterFirstLetter_6 rfl rfl ?_
    refine pv_bipush (v := 122) C dX6_afterFirstLetter_7 (by decide) ?_
    refine pv_icmp_le (tgt := 14) C dX6_afterFirstLetter_9 (by decide) (fun c12 => ?_) (fun c12 => ?_)
    · have h := pq_it c12 h
      refine pv_aload_n C 0 dX6_afterFirstLetter_14 rfl rfl ?_
      have k13 := pq_wt (k := 0) W0 k0_ rfl
      refine pv_getr (T := TX6) (N := 5) C 0 inu_X6_afterFirstLetter_6 rfl (by decide) (by decide) (List.mem_of_getElem? (i := 1) rfl) rfl k0_ k13.1 dX6_afterFirstLetter_15 ?_
      refine pv_lconst (v := 0) C dX6_afterFirstLetter_18 (by decide) ?_
      refine pv_iconst (v := 0) C dX6_afterFirstLetter_19 (by decide) ?_
      refine pv_iload_n C 1 dX6_afterFirstLetter_20 rfl rfl ?_
      obtain ⟨v14, S15, e16, h⟩ := pq_bs h
      refine pv_calllSN C [.long (0 : Int64), .int (0 : Int32), .int x1] (fun sz => r_X10_withLetter W0  e16 sz) ⟨(va_cnB 3 C.1.2.2.2.2 gX6_afterFirstLetter_X10_withLetter_n69 rfl rfl rfl (C.2.2.1 _ (List.mem_of_getElem? (i := 59) rfl)) (C.1.2.2.2.2 _ (List.mem_of_getElem? (i := 4) rfl)) (by decide +kernel) ⟨Nat.le_of_ble_eq_true rfl, Nat.le_of_ble_eq_true rfl⟩), C.1.2.2.2.2 _ (List.mem_of_getElem? (i := 3) rfl), trivial⟩ rfl rfl (Nat.le_of_ble_eq_true rfl) dX6_afterFirstLetter_21 ⟨Nat.le_of_ble_eq_true rfl, Nat.le_of_ble_eq_true rfl⟩ ?_
      obtain ⟨⟨⟩, S18, e19, h⟩ := pq_bs h
      refine pv_callvV C (ci := 4) rfl (by decide) k13.2 [.long v14] (fun sz => r_X4_addWord W0 k13.2 e19 sz) (cwV 1 C.1.2.2.2.2 gX6_afterFirstLetter_X4_addWord rfl rfl rfl (by decide +kernel) ⟨Nat.le_of_ble_eq_true rfl, Nat.le_of_ble_eq_true rfl⟩) rfl rfl (Nat.le_of_ble_eq_true rfl) dX6_afterFirstLetter_24 ⟨Nat.le_of_ble_eq_true rfl, Nat.le_of_ble_eq_true rfl⟩ ?_
      refine pv_aload_n C 0 dX6_afterFirstLetter_27 rfl rfl ?_
      refine pv_iconst (v := 1) C dX6_afterFirstLetter_28 (by decide) ?_
      refine pv_put (T := TX6) (N := 5) (ty := .int) C 3 inu_X6_afterFirstLetter_6 rfl (by decide) tyX6 tyX6_ok nmX6 (by decide) (List.mem_of_getElem? (i := 2) rfl) rfl k0_ rfl (by decide +kernel) rfl rfl dX6_afterFirstLetter_29 ?_
      refine pv_nm (fun S20 e21 => ?_)
      have h := pq_ls e21 h
      refine pv_iload_n C 2 dX6_afterFirstLetter_32 rfl rfl ?_
      exact pv_iret C hr hlk h dX6_afterFirstLetter_33
    · have h := pq_if c12 h
      refine pv_iconst (v := 0) C dX6_afterFirstLetter_12 (by decide) ?_
      exact pv_iret C hr hlk h dX6_afterFirstLetter_13
def F_X6_afterLetter (G : pq_G) (S : pq_N) (a0 : Nat) (x1 : Int32) : Option (Int32 × pq_N) := (if x1 < (97 : Int32) then some ((0 : Int32), S) else (if (122 : Int32) < x1 then some ((0 : Int32), S) else (if (S.1 a0 3) < (7 : Int32) then (pq_lt ((S.1 (pq_r G a0 0) 6) - (1 : Int32)) fun i15 => (pq_bd (F_X7_at G S (pq_r G (pq_r G a0 0) 0) i15) fun v21 S22 => (pq_bd (F_X10_withLetter G S22 v21 (S22.1 a0 3) x1) fun v24 S25 => (pq_bd (F_X7_put G S25 (pq_r G (pq_r G a0 0) 0) i15 v24) fun _ S28 => (pq_lt (pq_wi S28 a0 3 ((S28.1 a0 3) + (1 : Int32))) fun S30 => some ((S30.1 a0 2), S30)))))) else some ((0 : Int32), S))))
theorem inu_X6_afterLetter_4 : ∀ w ∈ u_ws RX4 TX4 8, w ∈ wsX6_afterLetter := pq_inu 22 rfl
theorem inu_X6_afterLetter_6 : ∀ w ∈ u_ws RX6 TX6 5, w ∈ wsX6_afterLetter := pq_inu 17 rfl
set_option maxHeartbeats 4000000 in
set_option maxRecDepth 100000 in
theorem r_X6_afterLetter {l : Launch} {D : va_G} {y : pq_Y} {G : pq_G} (W0 : pq_WT G) {S : pq_N} {a0 : Nat} {x1 : Int32} (k0_ : pq_ok G 6 a0) {r : Int32} {S1 : pq_N} (h : F_X6_afterLetter G S a0 x1 = some (r, S1)) (sz : Nat) : Met l yX6_afterLetter wsX6_afterLetter ({ frames := 1, cells := 0, slots := 0, locals := 23 } : Room) (pq_P D y G S sz [.ref a0, .int x1]) (pq_Qi D y G sz r S1) 0 0 (pq_A G sz) := by
  refine pq_enter RX6 3 (by decide) rfl rfl rfl ?_
  intro p e s m below meth c C hsz hr hlk
  subst hsz
  unfold F_X6_afterLetter at h
  refine pv_sub (lo1 := [(0, .ref a0), (1, .int x1)]) [0, 1] rfl ?_
  refine pv_iload_n C 1 dX6_afterLetter_0 rfl rfl ?_
  refine pv_bipush (v := 97) C dX6_afterLetter_1 (by decide) ?_
  refine pv_icmp_lt (tgt := 21) C dX6_afterLetter_3 (by decide) (fun c11 => ?_) (fun c11 => ?_)
  · have h := pq_it c11 h
    refine pv_iconst (v := 0) C dX6_afterLetter_21 (by decide) ?_
    exact pv_iret C hr hlk h dX6_afterLetter_22
  · have h := pq_if c11 h
    refine pv_iload_n C 1 dX6_afterLetter_6 rfl rfl ?_
    refine pv_bipush (v := 122) C dX6_afterLetter_7 (by decide) ?_
    refine pv_icmp_gt (tgt := 21) C dX6_afterLetter_9 (by decide) (fun c12 => ?_) (fun c12 => ?_)
    · have h := pq_it c12 h
      refine pv_iconst (v := 0) C dX6_afterLetter_21 (by decide) ?_
      exact pv_iret C hr hlk h dX6_afterLetter_22
    · have h := pq_if c12 h
      refine pv_aload_n C 0 dX6_afterLetter_12 rfl rfl ?_
      refine pv_geti (T := TX6) (N := 5) C 3 inu_X6_afterLetter_6 rfl (by decide) (by decide) (List.mem_of_getElem? (i := 1) rfl) rfl k0_ dX6_afterLetter_13 ?_
      refine pv_bipush (v := 7) C dX6_afterLetter_16 (by decide) ?_
      refine pv_icmp_lt (tgt := 23) C dX6_afterLetter_18 (by decide) (fun c13 => ?_) (fun c13 => ?_)
      · have h := pq_it c13 h
        refine pv_aload_n C 0 dX6_afterLetter_23 rfl rfl ?_
        have k14 := pq_wt (k := 0) W0 k0_ rfl
        refine pv_getr (T := TX6) (N := 5) C 0 inu_X6_afterLetter_6 rfl (by decide) (by decide) (List.mem_of_getElem? (i := 2) rfl) rfl k0_ k14.1 dX6_afterLetter_24 ?_
        refine pv_getiN (T := TX4) (N := 8) C 6 inu_X6_afterLetter_4 rfl (by decide) (by decide) (List.mem_of_getElem? (i := 20) rfl) rfl k14.2 dX6_afterLetter_27 ?_
        refine pv_iconst (v := 1) C dX6_afterLetter_30 (by decide) ?_
        refine pv_isub C dX6_afterLetter_31 ?_
        refine pv_nmi (fun i15 e16 => ?_)
        have h := pq_ls e16 h
        refine pv_istore_n C [(2, .int i15), (0, .ref a0), (1, .int x1)] dX6_afterLetter_32 rfl (by decide) rfl ?_
        refine pv_aload_n C 1 dX6_afterLetter_33 rfl rfl ?_
        have k17 := pq_wt (k := 0) W0 k0_ rfl
        refine pv_getr (T := TX6) (N := 5) C 0 inu_X6_afterLetter_6 rfl (by decide) (by decide) (List.mem_of_getElem? (i := 2) rfl) rfl k0_ k17.1 dX6_afterLetter_34 ?_
        have k18 := pq_wt (k := 0) W0 k17.2 rfl
        refine pv_getrN (T := TX4) (N := 8) C 0 inu_X6_afterLetter_4 rfl (by decide) (by decide) (List.mem_of_getElem? (i := 2) rfl) rfl k17.2 k18.1 dX6_afterLetter_37 ?_
        refine pv_iload_n C 0 dX6_afterLetter_40 rfl rfl ?_
        refine pv_aload_n C 1 dX6_afterLetter_41 rfl rfl ?_
        have k19 := pq_wt (k := 0) W0 k0_ rfl
        refine pv_getr (T := TX6) (N := 5) C 0 inu_X6_afterLetter_6 rfl (by decide) (by decide) (List.mem_of_getElem? (i := 2) rfl) rfl k0_ k19.1 dX6_afterLetter_42 ?_
        have k20 := pq_wt (k := 0) W0 k19.2 rfl
        refine pv_getrN (T := TX4) (N := 8) C 0 inu_X6_afterLetter_4 rfl (by decide) (by decide) (List.mem_of_getElem? (i := 2) rfl) rfl k19.2 k20.1 dX6_afterLetter_45 ?_
        refine pv_iload_n C 0 dX6_afterLetter_48 rfl rfl ?_
        obtain ⟨v21, S22, e23, h⟩ := pq_bs h
        refine pv_calllV C (ci := 7) rfl (by decide) k20.2 [.int i15] (fun sz => r_X7_at W0 k20.2 e23 sz) (cwV 1 C.1.2.2.2.2 gX6_afterLetter_X7_at rfl rfl rfl (by decide +kernel) ⟨Nat.le_of_ble_eq_true rfl, Nat.le_of_ble_eq_true rfl⟩) rfl rfl (Nat.le_of_ble_eq_true rfl) dX6_afterLetter_49 ⟨Nat.le_of_ble_eq_true rfl, Nat.le_of_ble_eq_true rfl⟩ ?_
        refine pv_aload_n C 1 dX6_afterLetter_52 rfl rfl ?_
        refine pv_geti (T := TX6) (N := 5) C 3 inu_X6_afterLetter_6 rfl (by decide) (by decide) (List.mem_of_getElem? (i := 1) rfl) rfl k0_ dX6_afterLetter_53 ?_
        refine pv_iload_n C 2 dX6_afterLetter_56 rfl rfl ?_
        obtain ⟨v24, S25, e26, h⟩ := pq_bs h
        refine pv_calllSN C [.long v21, .int (S22.1 a0 3), .int x1] (fun sz => r_X10_withLetter W0  e26 sz) ⟨(va_cnB 3 C.1.2.2.2.2 gX6_afterLetter_X10_withLetter_n69 rfl rfl rfl (C.2.2.1 _ (List.mem_of_getElem? (i := 59) rfl)) (C.1.2.2.2.2 _ (List.mem_of_getElem? (i := 11) rfl)) (by decide +kernel) ⟨Nat.le_of_ble_eq_true rfl, Nat.le_of_ble_eq_true rfl⟩), C.1.2.2.2.2 _ (List.mem_of_getElem? (i := 10) rfl), trivial⟩ rfl rfl (Nat.le_of_ble_eq_true rfl) dX6_afterLetter_57 ⟨Nat.le_of_ble_eq_true rfl, Nat.le_of_ble_eq_true rfl⟩ ?_
        obtain ⟨⟨⟩, S28, e29, h⟩ := pq_bs h
        refine pv_callvV C (ci := 7) rfl (by decide) k18.2 [.int i15, .long v24] (fun sz => r_X7_put W0 k18.2 e29 sz) (cwV 2 C.1.2.2.2.2 gX6_afterLetter_X7_put rfl rfl rfl (by decide +kernel) ⟨Nat.le_of_ble_eq_true rfl, Nat.le_of_ble_eq_true rfl⟩) rfl rfl (Nat.le_of_ble_eq_true rfl) dX6_afterLetter_60 ⟨Nat.le_of_ble_eq_true rfl, Nat.le_of_ble_eq_true rfl⟩ ?_
        refine pv_aload_n C 1 dX6_afterLetter_63 rfl rfl ?_
        refine pv_dup C dX6_afterLetter_64 rfl ?_
        refine pv_geti (T := TX6) (N := 5) C 3 inu_X6_afterLetter_6 rfl (by decide) (by decide) (List.mem_of_getElem? (i := 1) rfl) rfl k0_ dX6_afterLetter_65 ?_
        refine pv_iconst (v := 1) C dX6_afterLetter_68 (by decide) ?_
        refine pv_iadd C dX6_afterLetter_69 ?_
        refine pv_put (T := TX6) (N := 5) (ty := .int) C 3 inu_X6_afterLetter_6 rfl (by decide) tyX6 tyX6_ok nmX6 (by decide) (List.mem_of_getElem? (i := 1) rfl) rfl k0_ rfl (by decide +kernel) rfl rfl dX6_afterLetter_70 ?_
        refine pv_nm (fun S30 e31 => ?_)
        have h := pq_ls e31 h
        refine pv_aload_n C 1 dX6_afterLetter_73 rfl rfl ?_
        refine pv_geti (T := TX6) (N := 5) C 2 inu_X6_afterLetter_6 rfl (by decide) (by decide) (List.mem_of_getElem? (i := 3) rfl) rfl k0_ dX6_afterLetter_74 ?_
        exact pv_iret C hr hlk h dX6_afterLetter_77
      · have h := pq_if c13 h
        refine pv_iconst (v := 0) C dX6_afterLetter_21 (by decide) ?_
        exact pv_iret C hr hlk h dX6_afterLetter_22
def F_X6_placeAfter (G : pq_G) (S : pq_N) (a0 : Nat) (x1 : Int32) : Option (Int32 × pq_N) := (if (S.1 a0 2) = (1 : Int32) then (if x1 = (34 : Int32) then (pq_bd (F_X6_afterOpening G S a0) fun v16 S17 => some (v16, S17)) else (pq_bd (F_X6_afterFirstLetter G S a0 x1 (2 : Int32)) fun v13 S14 => some (v13, S14))) else (if (S.1 a0 2) = (2 : Int32) then (if x1 = (32 : Int32) then some ((1 : Int32), S) else (pq_bd (F_X6_afterLetter G S a0 x1) fun v21 S22 => some (v21, S22))) else (if (S.1 a0 2) = (3 : Int32) then (pq_bd (F_X6_afterFirstLetter G S a0 x1 (4 : Int32)) fun v25 S26 => some (v25, S26)) else (if (S.1 a0 2) = (4 : Int32) then (if x1 = (34 : Int32) then some ((5 : Int32), S) else (if x1 = (32 : Int32) then some ((3 : Int32), S) else (pq_bd (F_X6_afterLetter G S a0 x1) fun v31 S32 => some (v31, S32)))) else (if (S.1 a0 2) = (5 : Int32) then (if x1 = (64 : Int32) then some ((6 : Int32), S) else some ((0 : Int32), S)) else (if (S.1 a0 2) = (6 : Int32) then (pq_bd (F_X6_afterFirstDigit G S a0 x1) fun v37 S38 => some (v37, S38)) else (if (S.1 a0 2) = (7 : Int32) then (if x1 = (32 : Int32) then some ((1 : Int32), S) else (pq_bd (F_X6_afterSecondDigit G S a0 x1) fun v42 S43 => some (v42, S43))) else (if (S.1 a0 2) = (8 : Int32) then (if x1 = (32 : Int32) then some ((1 : Int32), S) else some ((0 : Int32), S)) else some ((0 : Int32), S)))))))))
theorem inu_X6_placeAfter_6 : ∀ w ∈ u_ws RX6 TX6 5, w ∈ wsX6_placeAfter := pq_inu 55 rfl
set_option maxHeartbeats 4000000 in
set_option maxRecDepth 100000 in
theorem r_X6_placeAfter {l : Launch} {D : va_G} {y : pq_Y} {G : pq_G} (W0 : pq_WT G) {S : pq_N} {a0 : Nat} {x1 : Int32} (k0_ : pq_ok G 6 a0) {r : Int32} {S1 : pq_N} (h : F_X6_placeAfter G S a0 x1 = some (r, S1)) (sz : Nat) : Met l yX6_placeAfter wsX6_placeAfter ({ frames := 3, cells := 0, slots := 0, locals := 67 } : Room) (pq_P D y G S sz [.ref a0, .int x1]) (pq_Qi D y G sz r S1) 0 0 (pq_A G sz) := by
  refine pq_enter RX6 2 (by decide) rfl rfl rfl ?_
  intro p e s m below meth c C hsz hr hlk
  subst hsz
  unfold F_X6_placeAfter at h
  refine pv_sub (lo1 := [(0, .ref a0), (1, .int x1)]) [0, 1] rfl ?_
  refine pv_aload_n C 0 dX6_placeAfter_0 rfl rfl ?_
  refine pv_geti (T := TX6) (N := 5) C 2 inu_X6_placeAfter_6 rfl (by decide) (by decide) (List.mem_of_getElem? (i := 1) rfl) rfl k0_ dX6_placeAfter_1 ?_
  by_cases c11 : (S.1 a0 2) = (1 : Int32)
  · have h := pq_it c11 h
    refine pv_tabIn (off := 48) (tgt := 52) C dX6_placeAfter_4 (by rw [c11]; decide) (by rw [c11]; decide) (by rw [c11]; rfl) (by decide) ?_
    refine pv_iload_n C 1 dX6_placeAfter_52 rfl rfl ?_
    refine pv_bipush (v := 34) C dX6_placeAfter_53 (by decide) ?_
    refine pv_icmp_ne (tgt := 65) C dX6_placeAfter_55 (by decide) (fun c12 => ?_) (fun c12 => ?_)
    · have h := pq_if c12 h
      refine pv_aload_n C 0 dX6_placeAfter_65 rfl rfl ?_
      refine pv_iload_n C 1 dX6_placeAfter_66 rfl rfl ?_
      refine pv_iconst (v := 2) C dX6_placeAfter_67 (by decide) ?_
      obtain ⟨v13, S14, e15, h⟩ := pq_bs h
      refine pv_calliV C (ci := 6) rfl (by decide) k0_ [.int x1, .int (2 : Int32)] (fun sz => r_X6_afterFirstLetter W0 k0_ e15 sz) (cwV 2 C.1.2.2.2.2 gX6_placeAfter_X6_afterFirstLetter rfl rfl rfl (by decide +kernel) ⟨Nat.le_of_ble_eq_true rfl, Nat.le_of_ble_eq_true rfl⟩) rfl rfl (Nat.le_of_ble_eq_true rfl) dX6_placeAfter_68 ⟨Nat.le_of_ble_eq_true rfl, Nat.le_of_ble_eq_true rfl⟩ ?_
      exact pv_iret C hr hlk h dX6_placeAfter_71
    · have h := pq_it c12 h
      refine pv_aload_n C 0 dX6_placeAfter_58 rfl rfl ?_
      obtain ⟨v16, S17, e18, h⟩ := pq_bs h
      refine pv_calliV C (ci := 6) rfl (by decide) k0_ [] (fun sz => r_X6_afterOpening W0 k0_ e18 sz) (cwV 0 C.1.2.2.2.2 gX6_placeAfter_X6_afterOpening rfl rfl rfl (by decide +kernel) ⟨Nat.le_of_ble_eq_true rfl, Nat.le_of_ble_eq_true rfl⟩) rfl rfl (Nat.le_of_ble_eq_true rfl) dX6_placeAfter_59 ⟨Nat.le_of_ble_eq_true rfl, Nat.le_of_ble_eq_true rfl⟩ ?_
      refine pv_goto (tgt := 71) C dX6_placeAfter_62 (by decide) ?_
      exact pv_iret C hr hlk h dX6_placeAfter_71
  · have h := pq_if c11 h
    by_cases c19 : (S.1 a0 2) = (2 : Int32)
    · have h := pq_it c19 h
      refine pv_tabIn (off := 68) (tgt := 72) C dX6_placeAfter_4 (by rw [c19]; decide) (by rw [c19]; decide) (by rw [c19]; rfl) (by decide) ?_
      refine pv_iload_n C 1 dX6_placeAfter_72 rfl rfl ?_
      refine pv_bipush (v := 32) C dX6_placeAfter_73 (by decide) ?_
      refine pv_icmp_ne (tgt := 82) C dX6_placeAfter_75 (by decide) (fun c20 => ?_) (fun c20 => ?_)
      · have h := pq_if c20 h
        refine pv_aload_n C 0 dX6_placeAfter_82 rfl rfl ?_
        refine pv_iload_n C 1 dX6_placeAfter_83 rfl rfl ?_
        obtain ⟨v21, S22, e23, h⟩ := pq_bs h
        refine pv_calliV C (ci := 6) rfl (by decide) k0_ [.int x1] (fun sz => r_X6_afterLetter W0 k0_ e23 sz) (cwV 1 C.1.2.2.2.2 gX6_placeAfter_X6_afterLetter rfl rfl rfl (by decide +kernel) ⟨Nat.le_of_ble_eq_true rfl, Nat.le_of_ble_eq_true rfl⟩) rfl rfl (Nat.le_of_ble_eq_true rfl) dX6_placeAfter_84 ⟨Nat.le_of_ble_eq_true rfl, Nat.le_of_ble_eq_true rfl⟩ ?_
        exact pv_iret C hr hlk h dX6_placeAfter_87
      · have h := pq_it c20 h
        refine pv_iconst (v := 1) C dX6_placeAfter_78 (by decide) ?_
        refine pv_goto (tgt := 87) C dX6_placeAfter_79 (by decide) ?_
        exact pv_iret C hr hlk h dX6_placeAfter_87
    · have h := pq_if c19 h
      by_cases c24 : (S.1 a0 2) = (3 : Int32)
      · have h := pq_it c24 h
        refine pv_tabIn (off := 84) (tgt := 88) C dX6_placeAfter_4 (by rw [c24]; decide) (by rw [c24]; decide) (by rw [c24]; rfl) (by decide) ?_
        refine pv_aload_n C 0 dX6_placeAfter_88 rfl rfl ?_
        refine pv_iload_n C 1 dX6_placeAfter_89 rfl rfl ?_
        refine pv_iconst (v := 4) C dX6_placeAfter_90 (by decide) ?_
        obtain ⟨v25, S26, e27, h⟩ := pq_bs h
        refine pv_calliV C (ci := 6) rfl (by decide) k0_ [.int x1, .int (4 : Int32)] (fun sz => r_X6_afterFirstLetter W0 k0_ e27 sz) (cwV 2 C.1.2.2.2.2 gX6_placeAfter_X6_afterFirstLetter rfl rfl rfl (by decide +kernel) ⟨Nat.le_of_ble_eq_true rfl, Nat.le_of_ble_eq_true rfl⟩) rfl rfl (Nat.le_of_ble_eq_true rfl) dX6_placeAfter_91 ⟨Nat.le_of_ble_eq_true rfl, Nat.le_of_ble_eq_true rfl⟩ ?_
        exact pv_iret C hr hlk h dX6_placeAfter_94
      · have h := pq_if c24 h
        by_cases c28 : (S.1 a0 2) = (4 : Int32)
        · have h := pq_it c28 h
          refine pv_tabIn (off := 91) (tgt := 95) C dX6_placeAfter_4 (by rw [c28]; decide) (by rw [c28]; decide) (by rw [c28]; rfl) (by decide) ?_
          refine pv_iload_n C 1 dX6_placeAfter_95 rfl rfl ?_
          refine pv_bipush (v := 34) C dX6_placeAfter_96 (by decide) ?_
          refine pv_icmp_ne (tgt := 103) C dX6_placeAfter_98 (by decide) (fun c29 => ?_) (fun c29 => ?_)
          · have h := pq_if c29 h
            refine pv_iload_n C 1 dX6_placeAfter_103 rfl rfl ?_
            refine pv_bipush (v := 32) C dX6_placeAfter_104 (by decide) ?_
            refine pv_icmp_ne (tgt := 113) C dX6_placeAfter_106 (by decide) (fun c30 => ?_) (fun c30 => ?_)
            · have h := pq_if c30 h
              refine pv_aload_n C 0 dX6_placeAfter_113 rfl rfl ?_
              refine pv_iload_n C 1 dX6_placeAfter_114 rfl rfl ?_
              obtain ⟨v31, S32, e33, h⟩ := pq_bs h
              refine pv_calliV C (ci := 6) rfl (by decide) k0_ [.int x1] (fun sz => r_X6_afterLetter W0 k0_ e33 sz) (cwV 1 C.1.2.2.2.2 gX6_placeAfter_X6_afterLetter rfl rfl rfl (by decide +kernel) ⟨Nat.le_of_ble_eq_true rfl, Nat.le_of_ble_eq_true rfl⟩) rfl rfl (Nat.le_of_ble_eq_true rfl) dX6_placeAfter_115 ⟨Nat.le_of_ble_eq_true rfl, Nat.le_of_ble_eq_true rfl⟩ ?_
              exact pv_iret C hr hlk h dX6_placeAfter_118
            · have h := pq_it c30 h
              refine pv_iconst (v := 3) C dX6_placeAfter_109 (by decide) ?_
              refine pv_goto (tgt := 118) C dX6_placeAfter_110 (by decide) ?_
              exact pv_iret C hr hlk h dX6_placeAfter_118
          · have h := pq_it c29 h
            refine pv_iconst (v := 5) C dX6_placeAfter_101 (by decide) ?_
            exact pv_iret C hr hlk h dX6_placeAfter_102
        · have h := pq_if c28 h
          by_cases c34 : (S.1 a0 2) = (5 : Int32)
          · have h := pq_it c34 h
            refine pv_tabIn (off := 115) (tgt := 119) C dX6_placeAfter_4 (by rw [c34]; decide) (by rw [c34]; decide) (by rw [c34]; rfl) (by decide) ?_
            refine pv_iload_n C 1 dX6_placeAfter_119 rfl rfl ?_
            refine pv_bipush (v := 64) C dX6_placeAfter_120 (by decide) ?_
            refine pv_icmp_ne (tgt := 130) C dX6_placeAfter_122 (by decide) (fun c35 => ?_) (fun c35 => ?_)
            · have h := pq_if c35 h
              refine pv_iconst (v := 0) C dX6_placeAfter_130 (by decide) ?_
              exact pv_iret C hr hlk h dX6_placeAfter_131
            · have h := pq_it c35 h
              refine pv_bipush (v := 6) C dX6_placeAfter_125 (by decide) ?_
              refine pv_goto (tgt := 131) C dX6_placeAfter_127 (by decide) ?_
              exact pv_iret C hr hlk h dX6_placeAfter_131
          · have h := pq_if c34 h
            by_cases c36 : (S.1 a0 2) = (6 : Int32)
            · have h := pq_it c36 h
              refine pv_tabIn (off := 128) (tgt := 132) C dX6_placeAfter_4 (by rw [c36]; decide) (by rw [c36]; decide) (by rw [c36]; rfl) (by decide) ?_
              refine pv_aload_n C 0 dX6_placeAfter_132 rfl rfl ?_
              refine pv_iload_n C 1 dX6_placeAfter_133 rfl rfl ?_
              obtain ⟨v37, S38, e39, h⟩ := pq_bs h
              refine pv_calliV C (ci := 6) rfl (by decide) k0_ [.int x1] (fun sz => r_X6_afterFirstDigit W0 k0_ e39 sz) (cwV 1 C.1.2.2.2.2 gX6_placeAfter_X6_afterFirstDigit rfl rfl rfl (by decide +kernel) ⟨Nat.le_of_ble_eq_true rfl, Nat.le_of_ble_eq_true rfl⟩) rfl rfl (Nat.le_of_ble_eq_true rfl) dX6_placeAfter_134 ⟨Nat.le_of_ble_eq_true rfl, Nat.le_of_ble_eq_true rfl⟩ ?_
              exact pv_iret C hr hlk h dX6_placeAfter_137
            · have h := pq_if c36 h
              by_cases c40 : (S.1 a0 2) = (7 : Int32)
              · have h := pq_it c40 h
                refine pv_tabIn (off := 134) (tgt := 138) C dX6_placeAfter_4 (by rw [c40]; decide) (by rw [c40]; decide) (by rw [c40]; rfl) (by decide) ?_
                refine pv_iload_n C 1 dX6_placeAfter_138 rfl rfl ?_
                refine pv_bipush (v := 32) C dX6_placeAfter_139 (by decide) ?_
                refine pv_icmp_ne (tgt := 148) C dX6_placeAfter_141 (by decide) (fun c41 => ?_) (fun c41 => ?_)
                · have h := pq_if c41 h
                  refine pv_aload_n C 0 dX6_placeAfter_148 rfl rfl ?_
                  refine pv_iload_n C 1 dX6_placeAfter_149 rfl rfl ?_
                  obtain ⟨v42, S43, e44, h⟩ := pq_bs h
                  refine pv_calliV C (ci := 6) rfl (by decide) k0_ [.int x1] (fun sz => r_X6_afterSecondDigit W0 k0_ e44 sz) (cwV 1 C.1.2.2.2.2 gX6_placeAfter_X6_afterSecondDigit rfl rfl rfl (by decide +kernel) ⟨Nat.le_of_ble_eq_true rfl, Nat.le_of_ble_eq_true rfl⟩) rfl rfl (Nat.le_of_ble_eq_true rfl) dX6_placeAfter_150 ⟨Nat.le_of_ble_eq_true rfl, Nat.le_of_ble_eq_true rfl⟩ ?_
                  exact pv_iret C hr hlk h dX6_placeAfter_153
                · have h := pq_it c41 h
                  refine pv_iconst (v := 1) C dX6_placeAfter_144 (by decide) ?_
                  refine pv_goto (tgt := 153) C dX6_placeAfter_145 (by decide) ?_
                  exact pv_iret C hr hlk h dX6_placeAfter_153
              · have h := pq_if c40 h
                by_cases c45 : (S.1 a0 2) = (8 : Int32)
                · have h := pq_it c45 h
                  refine pv_tabIn (off := 150) (tgt := 154) C dX6_placeAfter_4 (by rw [c45]; decide) (by rw [c45]; decide) (by rw [c45]; rfl) (by decide) ?_
                  refine pv_iload_n C 1 dX6_placeAfter_154 rfl rfl ?_
                  refine pv_bipush (v := 32) C dX6_placeAfter_155 (by decide) ?_
                  refine pv_icmp_ne (tgt := 164) C dX6_placeAfter_157 (by decide) (fun c46 => ?_) (fun c46 => ?_)
                  · have h := pq_if c46 h
                    refine pv_iconst (v := 0) C dX6_placeAfter_164 (by decide) ?_
                    exact pv_iret C hr hlk h dX6_placeAfter_165
                  · have h := pq_it c46 h
                    refine pv_iconst (v := 1) C dX6_placeAfter_160 (by decide) ?_
                    refine pv_goto (tgt := 165) C dX6_placeAfter_161 (by decide) ?_
                    exact pv_iret C hr hlk h dX6_placeAfter_165
                · have h := pq_if c45 h
                  refine pv_tabOut (tgt := 166) C dX6_placeAfter_4 ?_ (by decide) ?_
                  · have tt : ∀ (j : Int) (z : Int32), z.toInt = j → ¬ (S.1 a0 2) = z → (Int32.toInt (S.1 a0 2)) ≠ j := fun j z e0 e1 e2 => e1 (Int32.toInt_inj.mp (e2.trans e0.symm))
                    have t0 := tt 1 1 rfl c11
                    have t1 := tt 2 2 rfl c19
                    have t2 := tt 3 3 rfl c24
                    have t3 := tt 4 4 rfl c28
                    have t4 := tt 5 5 rfl c34
                    have t5 := tt 6 6 rfl c36
                    have t6 := tt 7 7 rfl c40
                    have t7 := tt 8 8 rfl c45
                    omega
                  · refine pv_iconst (v := 0) C dX6_placeAfter_166 (by decide) ?_
                    exact pv_iret C hr hlk h dX6_placeAfter_167
def F_X6_read_b17 (G : pq_G)  : Nat → pq_N → Nat → Nat → Option (Unit × pq_N)
  | 0, _, _, _ => none
  | n + 1, S, a0, a1 => (if (S.1 a1 1) ≤ (S.1 a0 1) then some ((), S) else (pq_bd (F_X7_number G S (pq_r G a1 0) (S.1 a0 1)) fun v21 S22 => (pq_bd (F_X6_placeAfter G S22 a0 v21) fun v24 S25 => (if v24 = (0 : Int32) then some ((), S25) else (pq_lt (pq_wi S25 a0 2 v24) fun S28 => (pq_lt (pq_wi S28 a0 1 ((S28.1 a0 1) + (1 : Int32))) fun S30 => (F_X6_read_b17 G n) S30 a0 a1))))))
def F_X6_read (G : pq_G) (S : pq_N) (a0 : Nat) (a1 : Nat) : Option (Unit × pq_N) := (pq_bd (F_X4_empty G S (pq_r G a0 0)) fun _ S13 => (pq_lt (pq_wi S13 a0 1 (0 : Int32)) fun S15 => (pq_lt (pq_wi S15 a0 2 (1 : Int32)) fun S17 => F_X6_read_b17 G pq_fuel S17 a0 a1)))
theorem inu_X6_read_0 : ∀ w ∈ u_ws RX0 TX0 2, w ∈ wsX6_read := pq_inu 73 rfl
theorem inu_X6_read_6 : ∀ w ∈ u_ws RX6 TX6 5, w ∈ wsX6_read := pq_inu 68 rfl
set_option maxHeartbeats 4000000 in
set_option maxRecDepth 100000 in
theorem r_X6_read_b17 {p : Program} {l : Launch} {e : Env} {s : State} {m : MethodId} {av : Array Value} {below : List Frame} {meth : Method} {c : Code} {D : va_G} {y : pq_Y} {G : pq_G} {S1 : pq_N} (W0 : pq_WT G) (C : pq_C p s m av c D y RX6 wsX6_read cX6_read 3) (hr : meth.sig.returnType = none) (hlk : meth.locks = false) (n : Nat) : ∀ (S : pq_N) (a0 : Nat) (a1 : Nat), pq_ok G 6 a0 → pq_ok G 0 a1 → F_X6_read_b17 G n S a0 a1 = some ((), S1) → pq_V p l e (headSpec wsX6_read ({ frames := 4, cells := 0, slots := 0, locals := 88 } : Room)).room s m av below meth c 0 0 (MQ below (pq_Qv D y G s.heap.size S1) av s 0 0 (pq_A G s.heap.size)) D y 3 (pq_A G s.heap.size) (fun _ => True) G S 17 [(0, .ref a0), (1, .ref a1)] [] := by
  induction n with
  | zero =>
    intro S a0 a1 k0_ k1_ h
    rw [F_X6_read_b17.eq_1] at h; cases h
  | succ n ih =>
    intro S a0 a1 k0_ k1_ h
    rw [F_X6_read_b17.eq_2] at h
    refine pv_aload_n C 0 dX6_read_17 rfl rfl ?_
    refine pv_geti (T := TX6) (N := 5) C 1 inu_X6_read_6 rfl (by decide) (by decide) (List.mem_of_getElem? (i := 2) rfl) rfl k0_ dX6_read_18 ?_
    refine pv_aload_n C 1 dX6_read_21 rfl rfl ?_
    refine pv_getiN (T := TX0) (N := 2) C 1 inu_X6_read_0 rfl (by decide) (by decide) (List.mem_of_getElem? (i := 36) rfl) rfl k1_ dX6_read_22 ?_
    refine pv_icmp_ge (tgt := 67) C dX6_read_25 (by decide) (fun c19 => ?_) (fun c19 => ?_)
    · have h := pq_it c19 h
      exact pv_vret C hr hlk h dX6_read_67
    · have h := pq_if c19 h
      refine pv_aload_n C 0 dX6_read_28 rfl rfl ?_
      refine pv_aload_n C 1 dX6_read_29 rfl rfl ?_
      have k20 := pq_wt (k := 0) W0 k1_ rfl
      refine pv_getrN (T := TX0) (N := 2) C 0 inu_X6_read_0 rfl (by decide) (by decide) (List.mem_of_getElem? (i := 35) rfl) rfl k1_ k20.1 dX6_read_30 ?_
      refine pv_aload_n C 0 dX6_read_33 rfl rfl ?_
      refine pv_geti (T := TX6) (N := 5) C 1 inu_X6_read_6 rfl (by decide) (by decide) (List.mem_of_getElem? (i := 2) rfl) rfl k0_ dX6_read_34 ?_
      obtain ⟨v21, S22, e23, h⟩ := pq_bs h
      refine pv_calliV C (ci := 7) rfl (by decide) k20.2 [.int (S.1 a0 1)] (fun sz => r_X7_number W0 k20.2 e23 sz) (cwV 1 C.1.2.2.2.2 gX6_read_X7_number rfl rfl rfl (by decide +kernel) ⟨Nat.le_of_ble_eq_true rfl, Nat.le_of_ble_eq_true rfl⟩) rfl rfl (Nat.le_of_ble_eq_true rfl) dX6_read_37 ⟨Nat.le_of_ble_eq_true rfl, Nat.le_of_ble_eq_true rfl⟩ ?_
      obtain ⟨v24, S25, e26, h⟩ := pq_bs h
      refine pv_calliV C (ci := 6) rfl (by decide) k0_ [.int v21] (fun sz => r_X6_placeAfter W0 k0_ e26 sz) (cwV 1 C.1.2.2.2.2 gX6_read_X6_placeAfter rfl rfl rfl (by decide +kernel) ⟨Nat.le_of_ble_eq_true rfl, Nat.le_of_ble_eq_true rfl⟩) rfl rfl (Nat.le_of_ble_eq_true rfl) dX6_read_40 ⟨Nat.le_of_ble_eq_true rfl, Nat.le_of_ble_eq_true rfl⟩ ?_
      refine pv_istore_n C [(2, .int v24), (0, .ref a0), (1, .ref a1)] dX6_read_43 rfl (by decide) rfl ?_
      refine pv_iload_n C 0 dX6_read_44 rfl rfl ?_
      refine pv_if_ne (tgt := 49) C dX6_read_45 (by decide) (fun c27 => ?_) (fun c27 => ?_)
      · have h := pq_if c27 h
        refine pv_aload_n C 1 dX6_read_49 rfl rfl ?_
        refine pv_iload_n C 0 dX6_read_50 rfl rfl ?_
        refine pv_put (T := TX6) (N := 5) (ty := .int) C 2 inu_X6_read_6 rfl (by decide) tyX6 tyX6_ok nmX6 (by decide) (List.mem_of_getElem? (i := 3) rfl) rfl k0_ rfl (by decide +kernel) rfl rfl dX6_read_51 ?_
        refine pv_nm (fun S28 e29 => ?_)
        have h := pq_ls e29 h
        refine pv_aload_n C 1 dX6_read_54 rfl rfl ?_
        refine pv_dup C dX6_read_55 rfl ?_
        refine pv_geti (T := TX6) (N := 5) C 1 inu_X6_read_6 rfl (by decide) (by decide) (List.mem_of_getElem? (i := 2) rfl) rfl k0_ dX6_read_56 ?_
        refine pv_iconst (v := 1) C dX6_read_59 (by decide) ?_
        refine pv_iadd C dX6_read_60 ?_
        refine pv_put (T := TX6) (N := 5) (ty := .int) C 1 inu_X6_read_6 rfl (by decide) tyX6 tyX6_ok nmX6 (by decide) (List.mem_of_getElem? (i := 2) rfl) rfl k0_ rfl (by decide +kernel) rfl rfl dX6_read_61 ?_
        refine pv_nm (fun S30 e31 => ?_)
        have h := pq_ls e31 h
        refine pv_goto (tgt := 17) C dX6_read_64 (by decide) ?_
        refine pv_sub [1, 2] rfl ?_
        exact ih _ _ _ k0_ k1_ h
      · have h := pq_it c27 h
        exact pv_vret C hr hlk h dX6_read_48
set_option maxHeartbeats 4000000 in
set_option maxRecDepth 100000 in
theorem r_X6_read {l : Launch} {D : va_G} {y : pq_Y} {G : pq_G} (W0 : pq_WT G) {S : pq_N} {a0 : Nat} {a1 : Nat} (k0_ : pq_ok G 6 a0) (k1_ : pq_ok G 0 a1) {S1 : pq_N} (h : F_X6_read G S a0 a1 = some ((), S1)) (sz : Nat) : Met l yX6_read wsX6_read ({ frames := 4, cells := 0, slots := 0, locals := 88 } : Room) (pq_P D y G S sz [.ref a0, .ref a1]) (pq_Qv D y G sz S1) 0 0 (pq_A G sz) := by
  refine pq_enter RX6 3 (by decide) rfl rfl rfl ?_
  intro p e s m below meth c C hsz hr hlk
  subst hsz
  unfold F_X6_read at h
  refine pv_sub (lo1 := [(0, .ref a0), (1, .ref a1)]) [0, 1] rfl ?_
  refine pv_aload_n C 0 dX6_read_0 rfl rfl ?_
  have k11 := pq_wt (k := 0) W0 k0_ rfl
  refine pv_getr (T := TX6) (N := 5) C 0 inu_X6_read_6 rfl (by decide) (by decide) (List.mem_of_getElem? (i := 1) rfl) rfl k0_ k11.1 dX6_read_1 ?_
  obtain ⟨⟨⟩, S13, e14, h⟩ := pq_bs h
  refine pv_callvV C (ci := 4) rfl (by decide) k11.2 [] (fun sz => r_X4_empty W0 k11.2 e14 sz) (cwV 0 C.1.2.2.2.2 gX6_read_X4_empty rfl rfl rfl (by decide +kernel) ⟨Nat.le_of_ble_eq_true rfl, Nat.le_of_ble_eq_true rfl⟩) rfl rfl (Nat.le_of_ble_eq_true rfl) dX6_read_4 ⟨Nat.le_of_ble_eq_true rfl, Nat.le_of_ble_eq_true rfl⟩ ?_
  refine pv_aload_n C 0 dX6_read_7 rfl rfl ?_
  refine pv_iconst (v := 0) C dX6_read_8 (by decide) ?_
  refine pv_put (T := TX6) (N := 5) (ty := .int) C 1 inu_X6_read_6 rfl (by decide) tyX6 tyX6_ok nmX6 (by decide) (List.mem_of_getElem? (i := 2) rfl) rfl k0_ rfl (by decide +kernel) rfl rfl dX6_read_9 ?_
  refine pv_nm (fun S15 e16 => ?_)
  have h := pq_ls e16 h
  refine pv_aload_n C 0 dX6_read_12 rfl rfl ?_
  refine pv_iconst (v := 1) C dX6_read_13 (by decide) ?_
  refine pv_put (T := TX6) (N := 5) (ty := .int) C 2 inu_X6_read_6 rfl (by decide) tyX6 tyX6_ok nmX6 (by decide) (List.mem_of_getElem? (i := 3) rfl) rfl k0_ rfl (by decide +kernel) rfl rfl dX6_read_14 ?_
  refine pv_nm (fun S17 e18 => ?_)
  have h := pq_ls e18 h
  refine pv_sub [0, 1] rfl ?_
  exact r_X6_read_b17 W0 C hr hlk pq_fuel _ _ _ k0_ k1_ h
def F_X10_blameByAuthors_b4 (G : pq_G)  : Nat → pq_N → Nat → Int32 → Int32 → Option (Int32 × pq_N)
  | 0, _, _, _, _ => none
  | n + 1, S, a0, x1, x2 => (if (8 : Int32) ≤ x2 then some (x1, S) else (pq_bd (F_X5_changesWritten G S (pq_r G a0 4) (pq_r G a0 0) x2 (-1 : Int32)) fun v14 S15 => (F_X10_blameByAuthors_b4 G n) S15 a0 (x1 + v14) (x2 + (1 : Int32))))
def F_X10_blameByAuthors (G : pq_G) (S : pq_N) (a0 : Nat) : Option (Int32 × pq_N) := F_X10_blameByAuthors_b4 G pq_fuel S a0 (0 : Int32) (0 : Int32)
theorem inu_X10_blameByAuthors_10 : ∀ w ∈ u_ws RX10 TX10 7, w ∈ wsX10_blameByAuthors := pq_inu 60 rfl
set_option maxHeartbeats 4000000 in
set_option maxRecDepth 100000 in
theorem r_X10_blameByAuthors_b4 {p : Program} {l : Launch} {e : Env} {s : State} {m : MethodId} {av : Array Value} {below : List Frame} {meth : Method} {c : Code} {D : va_G} {y : pq_Y} {G : pq_G} {r : Int32} {S1 : pq_N} (W0 : pq_WT G) (C : pq_C p s m av c D y RX10 wsX10_blameByAuthors cX10_blameByAuthors 3) (hr : meth.sig.returnType = (some .int)) (hlk : meth.locks = false) (n : Nat) : ∀ (S : pq_N) (a0 : Nat) (x1 : Int32) (x2 : Int32), pq_ok G 10 a0 → F_X10_blameByAuthors_b4 G n S a0 x1 x2 = some (r, S1) → pq_V p l e (headSpec wsX10_blameByAuthors ({ frames := 6, cells := 0, slots := 0, locals := 155 } : Room)).room s m av below meth c 0 0 (MQ below (pq_Qi D y G s.heap.size r S1) av s 0 0 (pq_A G s.heap.size)) D y 3 (pq_A G s.heap.size) (fun _ => True) G S 4 [(0, .ref a0), (1, .int x1), (2, .int x2)] [] := by
  induction n with
  | zero =>
    intro S a0 x1 x2 k0_ h
    rw [F_X10_blameByAuthors_b4.eq_1] at h; cases h
  | succ n ih =>
    intro S a0 x1 x2 k0_ h
    rw [F_X10_blameByAuthors_b4.eq_2] at h
    refine pv_iload_n C 2 dX10_blameByAuthors_4 rfl rfl ?_
    refine pv_bipush (v := 8) C dX10_blameByAuthors_5 (by decide) ?_
    refine pv_icmp_ge (tgt := 32) C dX10_blameByAuthors_7 (by decide) (fun c11 => ?_) (fun c11 => ?_)
    · have h := pq_it c11 h
      refine pv_iload_n C 1 dX10_blameByAuthors_32 rfl rfl ?_
      exact pv_iret C hr hlk h dX10_blameByAuthors_33
    · have h := pq_if c11 h
      refine pv_iload_n C 1 dX10_blameByAuthors_10 rfl rfl ?_
      refine pv_aload_n C 0 dX10_blameByAuthors_11 rfl rfl ?_
      have k12 := pq_wt (k := 4) W0 k0_ rfl
      refine pv_getr (T := TX10) (N := 7) C 4 inu_X10_blameByAuthors_10 rfl (by decide) (by decide) (List.mem_of_getElem? (i := 1) rfl) rfl k0_ k12.1 dX10_blameByAuthors_12 ?_
      refine pv_aload_n C 0 dX10_blameByAuthors_15 rfl rfl ?_
      have k13 := pq_wt (k := 0) W0 k0_ rfl
      refine pv_getr (T := TX10) (N := 7) C 0 inu_X10_blameByAuthors_10 rfl (by decide) (by decide) (List.mem_of_getElem? (i := 2) rfl) rfl k0_ k13.1 dX10_blameByAuthors_16 ?_
      refine pv_iload_n C 2 dX10_blameByAuthors_19 rfl rfl ?_
      refine pv_iconst (v := -1) C dX10_blameByAuthors_20 (by decide) ?_
      obtain ⟨v14, S15, e16, h⟩ := pq_bs h
      refine pv_calliV C (ci := 5) rfl (by decide) k12.2 [.ref (pq_r G a0 0), .int x2, .int (-1 : Int32)] (fun sz => r_X5_changesWritten W0 k12.2 k13.2 e16 sz) (cwV 3 C.1.2.2.2.2 gX10_blameByAuthors_X5_changesWritten rfl rfl rfl (by decide +kernel) ⟨Nat.le_of_ble_eq_true rfl, Nat.le_of_ble_eq_true rfl⟩) rfl rfl (Nat.le_of_ble_eq_true rfl) dX10_blameByAuthors_21 ⟨Nat.le_of_ble_eq_true rfl, Nat.le_of_ble_eq_true rfl⟩ ?_
      refine pv_iadd C dX10_blameByAuthors_24 ?_
      refine pv_istore_n C [(1, .int (x1 + v14)), (0, .ref a0), (2, .int x2)] dX10_blameByAuthors_25 rfl (by decide) rfl ?_
      refine pv_iinc (v := (x2 + (1 : Int32))) C 2 [(2, .int (x2 + (1 : Int32))), (1, .int (x1 + v14)), (0, .ref a0)] dX10_blameByAuthors_26 rfl rfl (by decide) rfl ?_
      refine pv_goto (tgt := 4) C dX10_blameByAuthors_29 (by decide) ?_
      refine pv_sub [2, 1, 0] rfl ?_
      exact ih _ _ _ _ k0_ h
set_option maxHeartbeats 4000000 in
set_option maxRecDepth 100000 in
theorem r_X10_blameByAuthors {l : Launch} {D : va_G} {y : pq_Y} {G : pq_G} (W0 : pq_WT G) {S : pq_N} {a0 : Nat} (k0_ : pq_ok G 10 a0) {r : Int32} {S1 : pq_N} (h : F_X10_blameByAuthors G S a0 = some (r, S1)) (sz : Nat) : Met l yX10_blameByAuthors wsX10_blameByAuthors ({ frames := 6, cells := 0, slots := 0, locals := 155 } : Room) (pq_P D y G S sz [.ref a0]) (pq_Qi D y G sz r S1) 0 0 (pq_A G sz) := by
  refine pq_enter RX10 3 (by decide) rfl rfl rfl ?_
  intro p e s m below meth c C hsz hr hlk
  subst hsz
  unfold F_X10_blameByAuthors at h
  refine pv_sub (lo1 := [(0, .ref a0)]) [0] rfl ?_
  refine pv_iconst (v := 0) C dX10_blameByAuthors_0 (by decide) ?_
  refine pv_istore_n C [(1, .int (0 : Int32)), (0, .ref a0)] dX10_blameByAuthors_1 rfl (by decide) rfl ?_
  refine pv_iconst (v := 0) C dX10_blameByAuthors_2 (by decide) ?_
  refine pv_istore_n C [(2, .int (0 : Int32)), (1, .int (0 : Int32)), (0, .ref a0)] dX10_blameByAuthors_3 rfl (by decide) rfl ?_
  refine pv_sub [2, 1, 0] rfl ?_
  exact r_X10_blameByAuthors_b4 W0 C hr hlk pq_fuel _ _ _ _ k0_ h
def F_X10_blameBySources_b4 (G : pq_G)  : Nat → pq_N → Nat → Int32 → Int32 → Option (Int32 × pq_N)
  | 0, _, _, _, _ => none
  | n + 1, S, a0, x1, x2 => (if (S.1 (pq_r G a0 0) 2) ≤ x2 then some (x1, S) else (pq_bd (F_X5_changesSuffered G S (pq_r G a0 4) (pq_r G a0 0) x2) fun v15 S16 => (F_X10_blameBySources_b4 G n) S16 a0 (x1 + v15) (x2 + (1 : Int32))))
def F_X10_blameBySources (G : pq_G) (S : pq_N) (a0 : Nat) : Option (Int32 × pq_N) := F_X10_blameBySources_b4 G pq_fuel S a0 (0 : Int32) (0 : Int32)
theorem inu_X10_blameBySources_9 : ∀ w ∈ u_ws RX9 TX9 4, w ∈ wsX10_blameBySources := pq_inu 63 rfl
theorem inu_X10_blameBySources_10 : ∀ w ∈ u_ws RX10 TX10 7, w ∈ wsX10_blameBySources := pq_inu 56 rfl
set_option maxHeartbeats 4000000 in
set_option maxRecDepth 100000 in
theorem r_X10_blameBySources_b4 {p : Program} {l : Launch} {e : Env} {s : State} {m : MethodId} {av : Array Value} {below : List Frame} {meth : Method} {c : Code} {D : va_G} {y : pq_Y} {G : pq_G} {r : Int32} {S1 : pq_N} (W0 : pq_WT G) (C : pq_C p s m av c D y RX10 wsX10_blameBySources cX10_blameBySources 3) (hr : meth.sig.returnType = (some .int)) (hlk : meth.locks = false) (n : Nat) : ∀ (S : pq_N) (a0 : Nat) (x1 : Int32) (x2 : Int32), pq_ok G 10 a0 → F_X10_blameBySources_b4 G n S a0 x1 x2 = some (r, S1) → pq_V p l e (headSpec wsX10_blameBySources ({ frames := 5, cells := 0, slots := 0, locals := 129 } : Room)).room s m av below meth c 0 0 (MQ below (pq_Qi D y G s.heap.size r S1) av s 0 0 (pq_A G s.heap.size)) D y 3 (pq_A G s.heap.size) (fun _ => True) G S 4 [(0, .ref a0), (1, .int x1), (2, .int x2)] [] := by
  induction n with
  | zero =>
    intro S a0 x1 x2 k0_ h
    rw [F_X10_blameBySources_b4.eq_1] at h; cases h
  | succ n ih =>
    intro S a0 x1 x2 k0_ h
    rw [F_X10_blameBySources_b4.eq_2] at h
    refine pv_iload_n C 2 dX10_blameBySources_4 rfl rfl ?_
    refine pv_aload_n C 0 dX10_blameBySources_5 rfl rfl ?_
    have k11 := pq_wt (k := 0) W0 k0_ rfl
    refine pv_getr (T := TX10) (N := 7) C 0 inu_X10_blameBySources_10 rfl (by decide) (by decide) (List.mem_of_getElem? (i := 1) rfl) rfl k0_ k11.1 dX10_blameBySources_6 ?_
    refine pv_getiN (T := TX9) (N := 4) C 2 inu_X10_blameBySources_9 rfl (by decide) (by decide) (List.mem_of_getElem? (i := 29) rfl) rfl k11.2 dX10_blameBySources_9 ?_
    refine pv_icmp_ge (tgt := 36) C dX10_blameBySources_12 (by decide) (fun c12 => ?_) (fun c12 => ?_)
    · have h := pq_it c12 h
      refine pv_iload_n C 1 dX10_blameBySources_36 rfl rfl ?_
      exact pv_iret C hr hlk h dX10_blameBySources_37
    · have h := pq_if c12 h
      refine pv_iload_n C 1 dX10_blameBySources_15 rfl rfl ?_
      refine pv_aload_n C 0 dX10_blameBySources_16 rfl rfl ?_
      have k13 := pq_wt (k := 4) W0 k0_ rfl
      refine pv_getr (T := TX10) (N := 7) C 4 inu_X10_blameBySources_10 rfl (by decide) (by decide) (List.mem_of_getElem? (i := 2) rfl) rfl k0_ k13.1 dX10_blameBySources_17 ?_
      refine pv_aload_n C 0 dX10_blameBySources_20 rfl rfl ?_
      have k14 := pq_wt (k := 0) W0 k0_ rfl
      refine pv_getr (T := TX10) (N := 7) C 0 inu_X10_blameBySources_10 rfl (by decide) (by decide) (List.mem_of_getElem? (i := 1) rfl) rfl k0_ k14.1 dX10_blameBySources_21 ?_
      refine pv_iload_n C 2 dX10_blameBySources_24 rfl rfl ?_
      obtain ⟨v15, S16, e17, h⟩ := pq_bs h
      refine pv_calliV C (ci := 5) rfl (by decide) k13.2 [.ref (pq_r G a0 0), .int x2] (fun sz => r_X5_changesSuffered W0 k13.2 k14.2 e17 sz) (cwV 2 C.1.2.2.2.2 gX10_blameBySources_X5_changesSuffered rfl rfl rfl (by decide +kernel) ⟨Nat.le_of_ble_eq_true rfl, Nat.le_of_ble_eq_true rfl⟩) rfl rfl (Nat.le_of_ble_eq_true rfl) dX10_blameBySources_25 ⟨Nat.le_of_ble_eq_true rfl, Nat.le_of_ble_eq_true rfl⟩ ?_
      refine pv_iadd C dX10_blameBySources_28 ?_
      refine pv_istore_n C [(1, .int (x1 + v15)), (0, .ref a0), (2, .int x2)] dX10_blameBySources_29 rfl (by decide) rfl ?_
      refine pv_iinc (v := (x2 + (1 : Int32))) C 2 [(2, .int (x2 + (1 : Int32))), (1, .int (x1 + v15)), (0, .ref a0)] dX10_blameBySources_30 rfl rfl (by decide) rfl ?_
      refine pv_goto (tgt := 4) C dX10_blameBySources_33 (by decide) ?_
      refine pv_sub [2, 1, 0] rfl ?_
      exact ih _ _ _ _ k0_ h
set_option maxHeartbeats 4000000 in
set_option maxRecDepth 100000 in
theorem r_X10_blameBySources {l : Launch} {D : va_G} {y : pq_Y} {G : pq_G} (W0 : pq_WT G) {S : pq_N} {a0 : Nat} (k0_ : pq_ok G 10 a0) {r : Int32} {S1 : pq_N} (h : F_X10_blameBySources G S a0 = some (r, S1)) (sz : Nat) : Met l yX10_blameBySources wsX10_blameBySources ({ frames := 5, cells := 0, slots := 0, locals := 129 } : Room) (pq_P D y G S sz [.ref a0]) (pq_Qi D y G sz r S1) 0 0 (pq_A G sz) := by
  refine pq_enter RX10 3 (by decide) rfl rfl rfl ?_
  intro p e s m below meth c C hsz hr hlk
  subst hsz
  unfold F_X10_blameBySources at h
  refine pv_sub (lo1 := [(0, .ref a0)]) [0] rfl ?_
  refine pv_iconst (v := 0) C dX10_blameBySources_0 (by decide) ?_
  refine pv_istore_n C [(1, .int (0 : Int32)), (0, .ref a0)] dX10_blameBySources_1 rfl (by decide) rfl ?_
  refine pv_iconst (v := 0) C dX10_blameBySources_2 (by decide) ?_
  refine pv_istore_n C [(2, .int (0 : Int32)), (1, .int (0 : Int32)), (0, .ref a0)] dX10_blameBySources_3 rfl (by decide) rfl ?_
  refine pv_sub [2, 1, 0] rfl ?_
  exact r_X10_blameBySources_b4 W0 C hr hlk pq_fuel _ _ _ _ k0_ h
def F_X10_isAuthor (G : pq_G) (S : pq_N) (x0 : Int32) : Option (Int32 × pq_N) := (if x0 < (0 : Int32) then some ((0 : Int32), S) else (if (8 : Int32) ≤ x0 then some ((0 : Int32), S) else some ((1 : Int32), S)))
set_option maxHeartbeats 4000000 in
set_option maxRecDepth 100000 in
theorem r_X10_isAuthor {l : Launch} {D : va_G} {y : pq_Y} {G : pq_G} (W0 : pq_WT G) {S : pq_N} {x0 : Int32}  {r : Int32} {S1 : pq_N} (h : F_X10_isAuthor G S x0 = some (r, S1)) (sz : Nat) : Met l yX10_isAuthor wsX10_isAuthor ({ frames := 0, cells := 0, slots := 0, locals := 0 } : Room) (pq_P D y G S sz [.int x0]) (pq_Qi D y G sz r S1) 0 0 (pq_A G sz) := by
  refine pq_enter RX10 1 (by decide) rfl rfl rfl ?_
  intro p e s m below meth c C hsz hr hlk
  subst hsz
  unfold F_X10_isAuthor at h
  refine pv_sub (lo1 := [(0, .int x0)]) [0] rfl ?_
  refine pv_iload_n C 0 dX10_isAuthor_0 rfl rfl ?_
  refine pv_if_lt (tgt := 14) C dX10_isAuthor_1 (by decide) (fun c11 => ?_) (fun c11 => ?_)
  · have h := pq_it c11 h
    refine pv_iconst (v := 0) C dX10_isAuthor_14 (by decide) ?_
    exact pv_zret C hr rfl hlk h dX10_isAuthor_15
  · have h := pq_if c11 h
    refine pv_iload_n C 0 dX10_isAuthor_4 rfl rfl ?_
    refine pv_bipush (v := 8) C dX10_isAuthor_5 (by decide) ?_
    refine pv_icmp_ge (tgt := 14) C dX10_isAuthor_7 (by decide) (fun c12 => ?_) (fun c12 => ?_)
    · have h := pq_it c12 h
      refine pv_iconst (v := 0) C dX10_isAuthor_14 (by decide) ?_
      exact pv_zret C hr rfl hlk h dX10_isAuthor_15
    · have h := pq_if c12 h
      refine pv_iconst (v := 1) C dX10_isAuthor_10 (by decide) ?_
      refine pv_goto (tgt := 15) C dX10_isAuthor_11 (by decide) ?_
      exact pv_zret C hr rfl hlk h dX10_isAuthor_15
def F_X10_clearText (G : pq_G) (S : pq_N) (a0 : Nat) : Option (Int32 × pq_N) := (pq_lt (pq_wi S (pq_r G a0 2) 1 (0 : Int32)) fun S13 => some ((S.1 (pq_r G a0 2) 1), S13))
theorem inu_X10_clearText_0 : ∀ w ∈ u_ws RX0 TX0 2, w ∈ wsX10_clearText := pq_inu 9 rfl
theorem inu_X10_clearText_10 : ∀ w ∈ u_ws RX10 TX10 7, w ∈ wsX10_clearText := pq_inu 2 rfl
set_option maxHeartbeats 4000000 in
set_option maxRecDepth 100000 in
theorem r_X10_clearText {l : Launch} {D : va_G} {y : pq_Y} {G : pq_G} (W0 : pq_WT G) {S : pq_N} {a0 : Nat} (k0_ : pq_ok G 10 a0) {r : Int32} {S1 : pq_N} (h : F_X10_clearText G S a0 = some (r, S1)) (sz : Nat) : Met l yX10_clearText wsX10_clearText ({ frames := 0, cells := 0, slots := 0, locals := 0 } : Room) (pq_P D y G S sz [.ref a0]) (pq_Qi D y G sz r S1) 0 0 (pq_A G sz) := by
  refine pq_enter RX10 2 (by decide) rfl rfl rfl ?_
  intro p e s m below meth c C hsz hr hlk
  subst hsz
  unfold F_X10_clearText at h
  refine pv_sub (lo1 := [(0, .ref a0)]) [0] rfl ?_
  refine pv_aload_n C 0 dX10_clearText_0 rfl rfl ?_
  have k11 := pq_wt (k := 2) W0 k0_ rfl
  refine pv_getr (T := TX10) (N := 7) C 2 inu_X10_clearText_10 rfl (by decide) (by decide) (List.mem_of_getElem? (i := 1) rfl) rfl k0_ k11.1 dX10_clearText_1 ?_
  refine pv_getiN (T := TX0) (N := 2) C 1 inu_X10_clearText_0 rfl (by decide) (by decide) (List.mem_of_getElem? (i := 37) rfl) rfl k11.2 dX10_clearText_4 ?_
  refine pv_istore_n C [(1, .int (S.1 (pq_r G a0 2) 1)), (0, .ref a0)] dX10_clearText_7 rfl (by decide) rfl ?_
  refine pv_aload_n C 1 dX10_clearText_8 rfl rfl ?_
  have k12 := pq_wt (k := 2) W0 k0_ rfl
  refine pv_getr (T := TX10) (N := 7) C 2 inu_X10_clearText_10 rfl (by decide) (by decide) (List.mem_of_getElem? (i := 1) rfl) rfl k0_ k12.1 dX10_clearText_9 ?_
  refine pv_iconst (v := 0) C dX10_clearText_12 (by decide) ?_
  refine pv_putN (T := TX0) (N := 2) (ty := .int) C 1 inu_X10_clearText_0 rfl (by decide) tyX0 tyX0_ok nmX0 (by decide) (List.mem_of_getElem? (i := 37) rfl) rfl k12.2 rfl (by decide +kernel) rfl rfl dX10_clearText_13 ?_
  refine pv_nm (fun S13 e14 => ?_)
  have h := pq_ls e14 h
  refine pv_iload_n C 0 dX10_clearText_16 rfl rfl ?_
  exact pv_iret C hr hlk h dX10_clearText_17
def F_X10_day (G : pq_G) (S : pq_N) (a0 : Nat) : Option (Int32 × pq_N) := some ((S.1 (pq_r G a0 0) 3), S)
theorem inu_X10_day_9 : ∀ w ∈ u_ws RX9 TX9 4, w ∈ wsX10_day := pq_inu 9 rfl
theorem inu_X10_day_10 : ∀ w ∈ u_ws RX10 TX10 7, w ∈ wsX10_day := pq_inu 2 rfl
set_option maxHeartbeats 4000000 in
set_option maxRecDepth 100000 in
theorem r_X10_day {l : Launch} {D : va_G} {y : pq_Y} {G : pq_G} (W0 : pq_WT G) {S : pq_N} {a0 : Nat} (k0_ : pq_ok G 10 a0) {r : Int32} {S1 : pq_N} (h : F_X10_day G S a0 = some (r, S1)) (sz : Nat) : Met l yX10_day wsX10_day ({ frames := 0, cells := 0, slots := 0, locals := 0 } : Room) (pq_P D y G S sz [.ref a0]) (pq_Qi D y G sz r S1) 0 0 (pq_A G sz) := by
  refine pq_enter RX10 1 (by decide) rfl rfl rfl ?_
  intro p e s m below meth c C hsz hr hlk
  subst hsz
  unfold F_X10_day at h
  refine pv_sub (lo1 := [(0, .ref a0)]) [0] rfl ?_
  refine pv_aload_n C 0 dX10_day_0 rfl rfl ?_
  have k11 := pq_wt (k := 0) W0 k0_ rfl
  refine pv_getr (T := TX10) (N := 7) C 0 inu_X10_day_10 rfl (by decide) (by decide) (List.mem_of_getElem? (i := 1) rfl) rfl k0_ k11.1 dX10_day_1 ?_
  refine pv_getiN (T := TX9) (N := 4) C 3 inu_X10_day_9 rfl (by decide) (by decide) (List.mem_of_getElem? (i := 31) rfl) rfl k11.2 dX10_day_4 ?_
  exact pv_iret C hr hlk h dX10_day_7
def F_X10_errorPosition (G : pq_G) (S : pq_N) (a0 : Nat) : Option (Int32 × pq_N) := (pq_bd (F_X6_read G S (pq_r G a0 3) (pq_r G a0 2)) fun _ S14 => some ((S14.1 (pq_r G a0 3) 1), S14))
theorem inu_X10_errorPosition_6 : ∀ w ∈ u_ws RX6 TX6 5, w ∈ wsX10_errorPosition := pq_inu 81 rfl
theorem inu_X10_errorPosition_10 : ∀ w ∈ u_ws RX10 TX10 7, w ∈ wsX10_errorPosition := pq_inu 74 rfl
set_option maxHeartbeats 4000000 in
set_option maxRecDepth 100000 in
theorem r_X10_errorPosition {l : Launch} {D : va_G} {y : pq_Y} {G : pq_G} (W0 : pq_WT G) {S : pq_N} {a0 : Nat} (k0_ : pq_ok G 10 a0) {r : Int32} {S1 : pq_N} (h : F_X10_errorPosition G S a0 = some (r, S1)) (sz : Nat) : Met l yX10_errorPosition wsX10_errorPosition ({ frames := 5, cells := 0, slots := 0, locals := 110 } : Room) (pq_P D y G S sz [.ref a0]) (pq_Qi D y G sz r S1) 0 0 (pq_A G sz) := by
  refine pq_enter RX10 1 (by decide) rfl rfl rfl ?_
  intro p e s m below meth c C hsz hr hlk
  subst hsz
  unfold F_X10_errorPosition at h
  refine pv_sub (lo1 := [(0, .ref a0)]) [0] rfl ?_
  refine pv_aload_n C 0 dX10_errorPosition_0 rfl rfl ?_
  have k11 := pq_wt (k := 3) W0 k0_ rfl
  refine pv_getr (T := TX10) (N := 7) C 3 inu_X10_errorPosition_10 rfl (by decide) (by decide) (List.mem_of_getElem? (i := 1) rfl) rfl k0_ k11.1 dX10_errorPosition_1 ?_
  refine pv_aload_n C 0 dX10_errorPosition_4 rfl rfl ?_
  have k12 := pq_wt (k := 2) W0 k0_ rfl
  refine pv_getr (T := TX10) (N := 7) C 2 inu_X10_errorPosition_10 rfl (by decide) (by decide) (List.mem_of_getElem? (i := 2) rfl) rfl k0_ k12.1 dX10_errorPosition_5 ?_
  obtain ⟨⟨⟩, S14, e15, h⟩ := pq_bs h
  refine pv_callvV C (ci := 6) rfl (by decide) k11.2 [.ref (pq_r G a0 2)] (fun sz => r_X6_read W0 k11.2 k12.2 e15 sz) (cwV 1 C.1.2.2.2.2 gX10_errorPosition_X6_read rfl rfl rfl (by decide +kernel) ⟨Nat.le_of_ble_eq_true rfl, Nat.le_of_ble_eq_true rfl⟩) rfl rfl (Nat.le_of_ble_eq_true rfl) dX10_errorPosition_8 ⟨Nat.le_of_ble_eq_true rfl, Nat.le_of_ble_eq_true rfl⟩ ?_
  refine pv_aload_n C 0 dX10_errorPosition_11 rfl rfl ?_
  have k16 := pq_wt (k := 3) W0 k0_ rfl
  refine pv_getr (T := TX10) (N := 7) C 3 inu_X10_errorPosition_10 rfl (by decide) (by decide) (List.mem_of_getElem? (i := 1) rfl) rfl k0_ k16.1 dX10_errorPosition_12 ?_
  refine pv_getiN (T := TX6) (N := 5) C 1 inu_X10_errorPosition_6 rfl (by decide) (by decide) (List.mem_of_getElem? (i := 39) rfl) rfl k16.2 dX10_errorPosition_15 ?_
  exact pv_iret C hr hlk h dX10_errorPosition_18
def F_X10_faithfulShare_b6 (G : pq_G)  : Nat → pq_N → Nat → Int32 → Int32 → Int32 → Option (UInt64 × pq_N)
  | 0, _, _, _, _, _ => none
  | n + 1, S, a0, x1, x2, x3 => (if (S.1 (pq_r G a0 0) 2) ≤ x3 then (if x1 = (0 : Int32) then some (FP.dconst0, S) else (if ¬ (FP.ddiv (FP.i2d x2) (FP.i2d x1) &&& 0x7fffffffffffffff ≤ 0x7ff0000000000000) then none else some ((FP.ddiv (FP.i2d x2) (FP.i2d x1)), S))) else (pq_bd (F_X9_at G S (pq_r G a0 0) x3) fun v16 S17 => (pq_bd (F_X5_faithfulIn G S17 (pq_r G a0 4) (pq_r G a0 0) x3) fun v22 S23 => (F_X10_faithfulShare_b6 G n) S23 a0 (x1 + (S17.1 v16 7)) (x2 + v22) (x3 + (1 : Int32)))))
def F_X10_faithfulShare (G : pq_G) (S : pq_N) (a0 : Nat) : Option (UInt64 × pq_N) := F_X10_faithfulShare_b6 G pq_fuel S a0 (0 : Int32) (0 : Int32) (0 : Int32)
theorem inu_X10_faithfulShare_4 : ∀ w ∈ u_ws RX4 TX4 8, w ∈ wsX10_faithfulShare := pq_inu 68 rfl
theorem inu_X10_faithfulShare_9 : ∀ w ∈ u_ws RX9 TX9 4, w ∈ wsX10_faithfulShare := pq_inu 64 rfl
theorem inu_X10_faithfulShare_10 : ∀ w ∈ u_ws RX10 TX10 7, w ∈ wsX10_faithfulShare := pq_inu 57 rfl
set_option maxHeartbeats 4000000 in
set_option maxRecDepth 100000 in
theorem r_X10_faithfulShare_b6 {p : Program} {l : Launch} {e : Env} {s : State} {m : MethodId} {av : Array Value} {below : List Frame} {meth : Method} {c : Code} {D : va_G} {y : pq_Y} {G : pq_G} {r : UInt64} {S1 : pq_N} (W0 : pq_WT G) (C : pq_C p s m av c D y RX10 wsX10_faithfulShare cX10_faithfulShare 4) (hr : meth.sig.returnType = (some .double)) (hlk : meth.locks = false) (n : Nat) : ∀ (S : pq_N) (a0 : Nat) (x1 : Int32) (x2 : Int32) (x3 : Int32), pq_ok G 10 a0 → F_X10_faithfulShare_b6 G n S a0 x1 x2 x3 = some (r, S1) → pq_V p l e (headSpec wsX10_faithfulShare ({ frames := 5, cells := 0, slots := 0, locals := 128 } : Room)).room s m av below meth c 0 0 (MQ below (pq_Qd D y G s.heap.size r S1) av s 0 0 (pq_A G s.heap.size)) D y 4 (pq_A G s.heap.size) (fun _ => True) G S 6 [(0, .ref a0), (1, .int x1), (2, .int x2), (3, .int x3)] [] := by
  induction n with
  | zero =>
    intro S a0 x1 x2 x3 k0_ h
    rw [F_X10_faithfulShare_b6.eq_1] at h; cases h
  | succ n ih =>
    intro S a0 x1 x2 x3 k0_ h
    rw [F_X10_faithfulShare_b6.eq_2] at h
    refine pv_iload_n C 3 dX10_faithfulShare_6 rfl rfl ?_
    refine pv_aload_n C 0 dX10_faithfulShare_7 rfl rfl ?_
    have k11 := pq_wt (k := 0) W0 k0_ rfl
    refine pv_getr (T := TX10) (N := 7) C 0 inu_X10_faithfulShare_10 rfl (by decide) (by decide) (List.mem_of_getElem? (i := 1) rfl) rfl k0_ k11.1 dX10_faithfulShare_8 ?_
    refine pv_getiN (T := TX9) (N := 4) C 2 inu_X10_faithfulShare_9 rfl (by decide) (by decide) (List.mem_of_getElem? (i := 29) rfl) rfl k11.2 dX10_faithfulShare_11 ?_
    refine pv_icmp_ge (tgt := 52) C dX10_faithfulShare_14 (by decide) (fun c12 => ?_) (fun c12 => ?_)
    · have h := pq_it c12 h
      refine pv_iload_n C 1 dX10_faithfulShare_52 rfl rfl ?_
      refine pv_if_ne (tgt := 60) C dX10_faithfulShare_53 (by decide) (fun c13 => ?_) (fun c13 => ?_)
      · have h := pq_if c13 h
        refine pv_iload_n C 2 dX10_faithfulShare_60 rfl rfl ?_
        refine pv_i2d C dX10_faithfulShare_61 ?_
        refine pv_iload_n C 1 dX10_faithfulShare_62 rfl rfl ?_
        refine pv_i2d C dX10_faithfulShare_63 ?_
        obtain ⟨g14, h⟩ := pq_gd h
        refine pv_ddiv C dX10_faithfulShare_64 (by have h9 := Decidable.not_not.mp g14; exact h9) ?_
        exact pv_dret C hr hlk h dX10_faithfulShare_65
      · have h := pq_it c13 h
        refine pv_dconst0 C dX10_faithfulShare_56 ?_
        refine pv_goto (tgt := 65) C dX10_faithfulShare_57 (by decide) ?_
        exact pv_dret C hr hlk h dX10_faithfulShare_65
    · have h := pq_if c12 h
      refine pv_iload_n C 1 dX10_faithfulShare_17 rfl rfl ?_
      refine pv_aload_n C 0 dX10_faithfulShare_18 rfl rfl ?_
      have k15 := pq_wt (k := 0) W0 k0_ rfl
      refine pv_getr (T := TX10) (N := 7) C 0 inu_X10_faithfulShare_10 rfl (by decide) (by decide) (List.mem_of_getElem? (i := 1) rfl) rfl k0_ k15.1 dX10_faithfulShare_19 ?_
      refine pv_iload_n C 3 dX10_faithfulShare_22 rfl rfl ?_
      obtain ⟨v16, S17, e18, h⟩ := pq_bs h
      have k19 := o_X9_at W0 k15.2 e18
      refine pv_callrV C (ci := 9) rfl (by decide) k15.2 [.int x3] (fun sz => r_X9_at W0 k15.2 e18 sz) (cwV 1 C.1.2.2.2.2 gX10_faithfulShare_X9_at rfl rfl rfl (by decide +kernel) ⟨Nat.le_of_ble_eq_true rfl, Nat.le_of_ble_eq_true rfl⟩) rfl rfl (Nat.le_of_ble_eq_true rfl) dX10_faithfulShare_23 ⟨Nat.le_of_ble_eq_true rfl, Nat.le_of_ble_eq_true rfl⟩ ?_
      refine pv_getiN (T := TX4) (N := 8) C 7 inu_X10_faithfulShare_4 rfl (by decide) (by decide) (List.mem_of_getElem? (i := 27) rfl) rfl k19 dX10_faithfulShare_26 ?_
      refine pv_iadd C dX10_faithfulShare_29 ?_
      refine pv_istore_n C [(1, .int (x1 + (S17.1 v16 7))), (0, .ref a0), (2, .int x2), (3, .int x3)] dX10_faithfulShare_30 rfl (by decide) rfl ?_
      refine pv_iload_n C 2 dX10_faithfulShare_31 rfl rfl ?_
      refine pv_aload_n C 1 dX10_faithfulShare_32 rfl rfl ?_
      have k20 := pq_wt (k := 4) W0 k0_ rfl
      refine pv_getr (T := TX10) (N := 7) C 4 inu_X10_faithfulShare_10 rfl (by decide) (by decide) (List.mem_of_getElem? (i := 2) rfl) rfl k0_ k20.1 dX10_faithfulShare_33 ?_
      refine pv_aload_n C 1 dX10_faithfulShare_36 rfl rfl ?_
      have k21 := pq_wt (k := 0) W0 k0_ rfl
      refine pv_getr (T := TX10) (N := 7) C 0 inu_X10_faithfulShare_10 rfl (by decide) (by decide) (List.mem_of_getElem? (i := 1) rfl) rfl k0_ k21.1 dX10_faithfulShare_37 ?_
      refine pv_iload_n C 3 dX10_faithfulShare_40 rfl rfl ?_
      obtain ⟨v22, S23, e24, h⟩ := pq_bs h
      refine pv_calliV C (ci := 5) rfl (by decide) k20.2 [.ref (pq_r G a0 0), .int x3] (fun sz => r_X5_faithfulIn W0 k20.2 k21.2 e24 sz) (cwV 2 C.1.2.2.2.2 gX10_faithfulShare_X5_faithfulIn rfl rfl rfl (by decide +kernel) ⟨Nat.le_of_ble_eq_true rfl, Nat.le_of_ble_eq_true rfl⟩) rfl rfl (Nat.le_of_ble_eq_true rfl) dX10_faithfulShare_41 ⟨Nat.le_of_ble_eq_true rfl, Nat.le_of_ble_eq_true rfl⟩ ?_
      refine pv_iadd C dX10_faithfulShare_44 ?_
      refine pv_istore_n C [(2, .int (x2 + v22)), (1, .int (x1 + (S17.1 v16 7))), (0, .ref a0), (3, .int x3)] dX10_faithfulShare_45 rfl (by decide) rfl ?_
      refine pv_iinc (v := (x3 + (1 : Int32))) C 3 [(3, .int (x3 + (1 : Int32))), (2, .int (x2 + v22)), (1, .int (x1 + (S17.1 v16 7))), (0, .ref a0)] dX10_faithfulShare_46 rfl rfl (by decide) rfl ?_
      refine pv_goto (tgt := 6) C dX10_faithfulShare_49 (by decide) ?_
      refine pv_sub [3, 2, 1, 0] rfl ?_
      exact ih _ _ _ _ _ k0_ h
set_option maxHeartbeats 4000000 in
set_option maxRecDepth 100000 in
theorem r_X10_faithfulShare {l : Launch} {D : va_G} {y : pq_Y} {G : pq_G} (W0 : pq_WT G) {S : pq_N} {a0 : Nat} (k0_ : pq_ok G 10 a0) {r : UInt64} {S1 : pq_N} (h : F_X10_faithfulShare G S a0 = some (r, S1)) (sz : Nat) : Met l yX10_faithfulShare wsX10_faithfulShare ({ frames := 5, cells := 0, slots := 0, locals := 128 } : Room) (pq_P D y G S sz [.ref a0]) (pq_Qd D y G sz r S1) 0 0 (pq_A G sz) := by
  refine pq_enter RX10 4 (by decide) rfl rfl rfl ?_
  intro p e s m below meth c C hsz hr hlk
  subst hsz
  unfold F_X10_faithfulShare at h
  refine pv_sub (lo1 := [(0, .ref a0)]) [0] rfl ?_
  refine pv_iconst (v := 0) C dX10_faithfulShare_0 (by decide) ?_
  refine pv_istore_n C [(1, .int (0 : Int32)), (0, .ref a0)] dX10_faithfulShare_1 rfl (by decide) rfl ?_
  refine pv_iconst (v := 0) C dX10_faithfulShare_2 (by decide) ?_
  refine pv_istore_n C [(2, .int (0 : Int32)), (1, .int (0 : Int32)), (0, .ref a0)] dX10_faithfulShare_3 rfl (by decide) rfl ?_
  refine pv_iconst (v := 0) C dX10_faithfulShare_4 (by decide) ?_
  refine pv_istore_n C [(3, .int (0 : Int32)), (2, .int (0 : Int32)), (1, .int (0 : Int32)), (0, .ref a0)] dX10_faithfulShare_5 rfl (by decide) rfl ?_
  refine pv_sub [3, 2, 1, 0] rfl ?_
  exact r_X10_faithfulShare_b6 W0 C hr hlk pq_fuel _ _ _ _ _ k0_ h
def F_X10_glossary (G : pq_G) (S : pq_N) (a0 : Nat) : Option (Int32 × pq_N) := (pq_bd (F_X1_gather G S (pq_r G a0 6) (pq_r G a0 0)) fun _ S14 => some ((S14.1 (pq_r G a0 6) 2), S14))
theorem inu_X10_glossary_1 : ∀ w ∈ u_ws RX1 TX1 3, w ∈ wsX10_glossary := pq_inu 51 rfl
theorem inu_X10_glossary_10 : ∀ w ∈ u_ws RX10 TX10 7, w ∈ wsX10_glossary := pq_inu 44 rfl
set_option maxHeartbeats 4000000 in
set_option maxRecDepth 100000 in
theorem r_X10_glossary {l : Launch} {D : va_G} {y : pq_Y} {G : pq_G} (W0 : pq_WT G) {S : pq_N} {a0 : Nat} (k0_ : pq_ok G 10 a0) {r : Int32} {S1 : pq_N} (h : F_X10_glossary G S a0 = some (r, S1)) (sz : Nat) : Met l yX10_glossary wsX10_glossary ({ frames := 4, cells := 0, slots := 0, locals := 95 } : Room) (pq_P D y G S sz [.ref a0]) (pq_Qi D y G sz r S1) 0 0 (pq_A G sz) := by
  refine pq_enter RX10 1 (by decide) rfl rfl rfl ?_
  intro p e s m below meth c C hsz hr hlk
  subst hsz
  unfold F_X10_glossary at h
  refine pv_sub (lo1 := [(0, .ref a0)]) [0] rfl ?_
  refine pv_aload_n C 0 dX10_glossary_0 rfl rfl ?_
  have k11 := pq_wt (k := 6) W0 k0_ rfl
  refine pv_getr (T := TX10) (N := 7) C 6 inu_X10_glossary_10 rfl (by decide) (by decide) (List.mem_of_getElem? (i := 1) rfl) rfl k0_ k11.1 dX10_glossary_1 ?_
  refine pv_aload_n C 0 dX10_glossary_4 rfl rfl ?_
  have k12 := pq_wt (k := 0) W0 k0_ rfl
  refine pv_getr (T := TX10) (N := 7) C 0 inu_X10_glossary_10 rfl (by decide) (by decide) (List.mem_of_getElem? (i := 2) rfl) rfl k0_ k12.1 dX10_glossary_5 ?_
  obtain ⟨⟨⟩, S14, e15, h⟩ := pq_bs h
  refine pv_callvV C (ci := 1) rfl (by decide) k11.2 [.ref (pq_r G a0 0)] (fun sz => r_X1_gather W0 k11.2 k12.2 e15 sz) (cwV 1 C.1.2.2.2.2 gX10_glossary_X1_gather rfl rfl rfl (by decide +kernel) ⟨Nat.le_of_ble_eq_true rfl, Nat.le_of_ble_eq_true rfl⟩) rfl rfl (Nat.le_of_ble_eq_true rfl) dX10_glossary_8 ⟨Nat.le_of_ble_eq_true rfl, Nat.le_of_ble_eq_true rfl⟩ ?_
  refine pv_aload_n C 0 dX10_glossary_11 rfl rfl ?_
  have k16 := pq_wt (k := 6) W0 k0_ rfl
  refine pv_getr (T := TX10) (N := 7) C 6 inu_X10_glossary_10 rfl (by decide) (by decide) (List.mem_of_getElem? (i := 1) rfl) rfl k0_ k16.1 dX10_glossary_12 ?_
  refine pv_getiN (T := TX1) (N := 3) C 2 inu_X10_glossary_1 rfl (by decide) (by decide) (List.mem_of_getElem? (i := 50) rfl) rfl k16.2 dX10_glossary_15 ?_
  exact pv_iret C hr hlk h dX10_glossary_18
def F_X10_letterIn (G : pq_G) (S : pq_N) (x0 : Int64) (x2 : Int32) : Option (Int32 × pq_N) := (if x2 < (0 : Int32) then some ((-1 : Int32), S) else (if x2 < (7 : Int32) then (pq_lt ((Int64.toInt32 (x0 >>> (Int32.toInt64 ((5 : Int32) * ((6 : Int32) - x2)) &&& 63))) &&& (31 : Int32)) fun i13 => (if i13 = (0 : Int32) then some ((-1 : Int32), S) else some ((((97 : Int32) + i13) - (1 : Int32)), S))) else some ((-1 : Int32), S)))
set_option maxHeartbeats 4000000 in
set_option maxRecDepth 100000 in
theorem r_X10_letterIn {l : Launch} {D : va_G} {y : pq_Y} {G : pq_G} (W0 : pq_WT G) {S : pq_N} {x0 : Int64} {x2 : Int32}  {r : Int32} {S1 : pq_N} (h : F_X10_letterIn G S x0 x2 = some (r, S1)) (sz : Nat) : Met l yX10_letterIn wsX10_letterIn ({ frames := 0, cells := 0, slots := 0, locals := 0 } : Room) (pq_P D y G S sz [.long x0, .int x2]) (pq_Qi D y G sz r S1) 0 0 (pq_A G sz) := by
  refine pq_enter RX10 4 (by decide) rfl rfl rfl ?_
  intro p e s m below meth c C hsz hr hlk
  subst hsz
  unfold F_X10_letterIn at h
  refine pv_sub (lo1 := [(0, .long x0), (2, .int x2)]) [0, 1] rfl ?_
  refine pv_iload_n C 1 dX10_letterIn_0 rfl rfl ?_
  refine pv_if_lt (tgt := 10) C dX10_letterIn_1 (by decide) (fun c11 => ?_) (fun c11 => ?_)
  · have h := pq_it c11 h
    refine pv_iconst (v := -1) C dX10_letterIn_10 (by decide) ?_
    exact pv_iret C hr hlk h dX10_letterIn_11
  · have h := pq_if c11 h
    refine pv_iload_n C 1 dX10_letterIn_4 rfl rfl ?_
    refine pv_bipush (v := 7) C dX10_letterIn_5 (by decide) ?_
    refine pv_icmp_lt (tgt := 12) C dX10_letterIn_7 (by decide) (fun c12 => ?_) (fun c12 => ?_)
    · have h := pq_it c12 h
      refine pv_lload_n C 0 dX10_letterIn_12 rfl rfl ?_
      refine pv_iconst (v := 5) C dX10_letterIn_13 (by decide) ?_
      refine pv_bipush (v := 6) C dX10_letterIn_14 (by decide) ?_
      refine pv_iload_n C 1 dX10_letterIn_16 rfl rfl ?_
      refine pv_isub C dX10_letterIn_17 ?_
      refine pv_imul C dX10_letterIn_18 ?_
      refine pv_lshr C dX10_letterIn_19 ?_
      refine pv_l2i C dX10_letterIn_20 ?_
      refine pv_bipush (v := 31) C dX10_letterIn_21 (by decide) ?_
      refine pv_iand C dX10_letterIn_23 ?_
      refine pv_nmi (fun i13 e14 => ?_)
      have h := pq_ls e14 h
      refine pv_istore_n C [(3, .int i13), (0, .long x0), (2, .int x2)] dX10_letterIn_24 rfl (by decide) rfl ?_
      refine pv_iload_n C 0 dX10_letterIn_25 rfl rfl ?_
      refine pv_if_ne (tgt := 33) C dX10_letterIn_26 (by decide) (fun c15 => ?_) (fun c15 => ?_)
      · have h := pq_if c15 h
        refine pv_bipush (v := 97) C dX10_letterIn_33 (by decide) ?_
        refine pv_iload_n C 0 dX10_letterIn_35 rfl rfl ?_
        refine pv_iadd C dX10_letterIn_36 ?_
        refine pv_iconst (v := 1) C dX10_letterIn_37 (by decide) ?_
        refine pv_isub C dX10_letterIn_38 ?_
        exact pv_iret C hr hlk h dX10_letterIn_39
      · have h := pq_it c15 h
        refine pv_iconst (v := -1) C dX10_letterIn_29 (by decide) ?_
        refine pv_goto (tgt := 39) C dX10_letterIn_30 (by decide) ?_
        exact pv_iret C hr hlk h dX10_letterIn_39
    · have h := pq_if c12 h
      refine pv_iconst (v := -1) C dX10_letterIn_10 (by decide) ?_
      exact pv_iret C hr hlk h dX10_letterIn_11
def F_X10_mendAll_b15 (G : pq_G)  : Nat → pq_N → Nat → Int32 → Int32 → Option (Int32 × pq_N)
  | 0, _, _, _, _ => none
  | n + 1, S, a0, x1, x2 => (if (S.1 (pq_r G a0 0) 2) ≤ x2 then some (x1, S) else (pq_bd (F_X5_putAllRight G S (pq_r G a0 4) (pq_r G a0 0) x2) fun v20 S21 => (F_X10_mendAll_b15 G n) S21 a0 (x1 + v20) (x2 + (1 : Int32))))
def F_X10_mendAll (G : pq_G) (S : pq_N) (a0 : Nat) : Option (Int32 × pq_N) := (pq_bd (F_X2_save G S (pq_r G a0 1) (pq_r G a0 0)) fun _ S14 => F_X10_mendAll_b15 G pq_fuel S14 a0 (0 : Int32) (0 : Int32))
theorem inu_X10_mendAll_9 : ∀ w ∈ u_ws RX9 TX9 4, w ∈ wsX10_mendAll := pq_inu 128 rfl
theorem inu_X10_mendAll_10 : ∀ w ∈ u_ws RX10 TX10 7, w ∈ wsX10_mendAll := pq_inu 121 rfl
set_option maxHeartbeats 4000000 in
set_option maxRecDepth 100000 in
theorem r_X10_mendAll_b15 {p : Program} {l : Launch} {e : Env} {s : State} {m : MethodId} {av : Array Value} {below : List Frame} {meth : Method} {c : Code} {D : va_G} {y : pq_Y} {G : pq_G} {r : Int32} {S1 : pq_N} (W0 : pq_WT G) (C : pq_C p s m av c D y RX10 wsX10_mendAll cX10_mendAll 3) (hr : meth.sig.returnType = (some .int)) (hlk : meth.locks = false) (n : Nat) : ∀ (S : pq_N) (a0 : Nat) (x1 : Int32) (x2 : Int32), pq_ok G 10 a0 → F_X10_mendAll_b15 G n S a0 x1 x2 = some (r, S1) → pq_V p l e (headSpec wsX10_mendAll ({ frames := 5, cells := 0, slots := 0, locals := 128 } : Room)).room s m av below meth c 0 0 (MQ below (pq_Qi D y G s.heap.size r S1) av s 0 0 (pq_A G s.heap.size)) D y 3 (pq_A G s.heap.size) (fun _ => True) G S 15 [(0, .ref a0), (1, .int x1), (2, .int x2)] [] := by
  induction n with
  | zero =>
    intro S a0 x1 x2 k0_ h
    rw [F_X10_mendAll_b15.eq_1] at h; cases h
  | succ n ih =>
    intro S a0 x1 x2 k0_ h
    rw [F_X10_mendAll_b15.eq_2] at h
    refine pv_iload_n C 2 dX10_mendAll_15 rfl rfl ?_
    refine pv_aload_n C 0 dX10_mendAll_16 rfl rfl ?_
    have k16 := pq_wt (k := 0) W0 k0_ rfl
    refine pv_getr (T := TX10) (N := 7) C 0 inu_X10_mendAll_10 rfl (by decide) (by decide) (List.mem_of_getElem? (i := 2) rfl) rfl k0_ k16.1 dX10_mendAll_17 ?_
    refine pv_getiN (T := TX9) (N := 4) C 2 inu_X10_mendAll_9 rfl (by decide) (by decide) (List.mem_of_getElem? (i := 29) rfl) rfl k16.2 dX10_mendAll_20 ?_
    refine pv_icmp_ge (tgt := 47) C dX10_mendAll_23 (by decide) (fun c17 => ?_) (fun c17 => ?_)
    · have h := pq_it c17 h
      refine pv_iload_n C 1 dX10_mendAll_47 rfl rfl ?_
      exact pv_iret C hr hlk h dX10_mendAll_48
    · have h := pq_if c17 h
      refine pv_iload_n C 1 dX10_mendAll_26 rfl rfl ?_
      refine pv_aload_n C 0 dX10_mendAll_27 rfl rfl ?_
      have k18 := pq_wt (k := 4) W0 k0_ rfl
      refine pv_getr (T := TX10) (N := 7) C 4 inu_X10_mendAll_10 rfl (by decide) (by decide) (List.mem_of_getElem? (i := 3) rfl) rfl k0_ k18.1 dX10_mendAll_28 ?_
      refine pv_aload_n C 0 dX10_mendAll_31 rfl rfl ?_
      have k19 := pq_wt (k := 0) W0 k0_ rfl
      refine pv_getr (T := TX10) (N := 7) C 0 inu_X10_mendAll_10 rfl (by decide) (by decide) (List.mem_of_getElem? (i := 2) rfl) rfl k0_ k19.1 dX10_mendAll_32 ?_
      refine pv_iload_n C 2 dX10_mendAll_35 rfl rfl ?_
      obtain ⟨v20, S21, e22, h⟩ := pq_bs h
      refine pv_calliV C (ci := 5) rfl (by decide) k18.2 [.ref (pq_r G a0 0), .int x2] (fun sz => r_X5_putAllRight W0 k18.2 k19.2 e22 sz) (cwV 2 C.1.2.2.2.2 gX10_mendAll_X5_putAllRight rfl rfl rfl (by decide +kernel) ⟨Nat.le_of_ble_eq_true rfl, Nat.le_of_ble_eq_true rfl⟩) rfl rfl (Nat.le_of_ble_eq_true rfl) dX10_mendAll_36 ⟨Nat.le_of_ble_eq_true rfl, Nat.le_of_ble_eq_true rfl⟩ ?_
      refine pv_iadd C dX10_mendAll_39 ?_
      refine pv_istore_n C [(1, .int (x1 + v20)), (0, .ref a0), (2, .int x2)] dX10_mendAll_40 rfl (by decide) rfl ?_
      refine pv_iinc (v := (x2 + (1 : Int32))) C 2 [(2, .int (x2 + (1 : Int32))), (1, .int (x1 + v20)), (0, .ref a0)] dX10_mendAll_41 rfl rfl (by decide) rfl ?_
      refine pv_goto (tgt := 15) C dX10_mendAll_44 (by decide) ?_
      refine pv_sub [2, 1, 0] rfl ?_
      exact ih _ _ _ _ k0_ h
set_option maxHeartbeats 4000000 in
set_option maxRecDepth 100000 in
theorem r_X10_mendAll {l : Launch} {D : va_G} {y : pq_Y} {G : pq_G} (W0 : pq_WT G) {S : pq_N} {a0 : Nat} (k0_ : pq_ok G 10 a0) {r : Int32} {S1 : pq_N} (h : F_X10_mendAll G S a0 = some (r, S1)) (sz : Nat) : Met l yX10_mendAll wsX10_mendAll ({ frames := 5, cells := 0, slots := 0, locals := 128 } : Room) (pq_P D y G S sz [.ref a0]) (pq_Qi D y G sz r S1) 0 0 (pq_A G sz) := by
  refine pq_enter RX10 3 (by decide) rfl rfl rfl ?_
  intro p e s m below meth c C hsz hr hlk
  subst hsz
  unfold F_X10_mendAll at h
  refine pv_sub (lo1 := [(0, .ref a0)]) [0] rfl ?_
  refine pv_aload_n C 0 dX10_mendAll_0 rfl rfl ?_
  have k11 := pq_wt (k := 1) W0 k0_ rfl
  refine pv_getr (T := TX10) (N := 7) C 1 inu_X10_mendAll_10 rfl (by decide) (by decide) (List.mem_of_getElem? (i := 1) rfl) rfl k0_ k11.1 dX10_mendAll_1 ?_
  refine pv_aload_n C 0 dX10_mendAll_4 rfl rfl ?_
  have k12 := pq_wt (k := 0) W0 k0_ rfl
  refine pv_getr (T := TX10) (N := 7) C 0 inu_X10_mendAll_10 rfl (by decide) (by decide) (List.mem_of_getElem? (i := 2) rfl) rfl k0_ k12.1 dX10_mendAll_5 ?_
  obtain ⟨⟨⟩, S14, e15, h⟩ := pq_bs h
  refine pv_callvV C (ci := 2) rfl (by decide) k11.2 [.ref (pq_r G a0 0)] (fun sz => r_X2_save W0 k11.2 k12.2 e15 sz) (cwV 1 C.1.2.2.2.2 gX10_mendAll_X2_save rfl rfl rfl (by decide +kernel) ⟨Nat.le_of_ble_eq_true rfl, Nat.le_of_ble_eq_true rfl⟩) rfl rfl (Nat.le_of_ble_eq_true rfl) dX10_mendAll_8 ⟨Nat.le_of_ble_eq_true rfl, Nat.le_of_ble_eq_true rfl⟩ ?_
  refine pv_iconst (v := 0) C dX10_mendAll_11 (by decide) ?_
  refine pv_istore_n C [(1, .int (0 : Int32)), (0, .ref a0)] dX10_mendAll_12 rfl (by decide) rfl ?_
  refine pv_iconst (v := 0) C dX10_mendAll_13 (by decide) ?_
  refine pv_istore_n C [(2, .int (0 : Int32)), (1, .int (0 : Int32)), (0, .ref a0)] dX10_mendAll_14 rfl (by decide) rfl ?_
  refine pv_sub [2, 1, 0] rfl ?_
  exact r_X10_mendAll_b15 W0 C hr hlk pq_fuel _ _ _ _ k0_ h
def F_X10_pamphlets (G : pq_G) (S : pq_N) (a0 : Nat) : Option (Int32 × pq_N) := some ((S.1 (pq_r G a0 0) 2), S)
theorem inu_X10_pamphlets_9 : ∀ w ∈ u_ws RX9 TX9 4, w ∈ wsX10_pamphlets := pq_inu 9 rfl
theorem inu_X10_pamphlets_10 : ∀ w ∈ u_ws RX10 TX10 7, w ∈ wsX10_pamphlets := pq_inu 2 rfl
set_option maxHeartbeats 4000000 in
set_option maxRecDepth 100000 in
theorem r_X10_pamphlets {l : Launch} {D : va_G} {y : pq_Y} {G : pq_G} (W0 : pq_WT G) {S : pq_N} {a0 : Nat} (k0_ : pq_ok G 10 a0) {r : Int32} {S1 : pq_N} (h : F_X10_pamphlets G S a0 = some (r, S1)) (sz : Nat) : Met l yX10_pamphlets wsX10_pamphlets ({ frames := 0, cells := 0, slots := 0, locals := 0 } : Room) (pq_P D y G S sz [.ref a0]) (pq_Qi D y G sz r S1) 0 0 (pq_A G sz) := by
  refine pq_enter RX10 1 (by decide) rfl rfl rfl ?_
  intro p e s m below meth c C hsz hr hlk
  subst hsz
  unfold F_X10_pamphlets at h
  refine pv_sub (lo1 := [(0, .ref a0)]) [0] rfl ?_
  refine pv_aload_n C 0 dX10_pamphlets_0 rfl rfl ?_
  have k11 := pq_wt (k := 0) W0 k0_ rfl
  refine pv_getr (T := TX10) (N := 7) C 0 inu_X10_pamphlets_10 rfl (by decide) (by decide) (List.mem_of_getElem? (i := 1) rfl) rfl k0_ k11.1 dX10_pamphlets_1 ?_
  refine pv_getiN (T := TX9) (N := 4) C 2 inu_X10_pamphlets_9 rfl (by decide) (by decide) (List.mem_of_getElem? (i := 29) rfl) rfl k11.2 dX10_pamphlets_4 ?_
  exact pv_iret C hr hlk h dX10_pamphlets_7
def F_X10_whyNotPrinted (G : pq_G) (S : pq_N) (a0 : Nat) : Option (Int32 × pq_N) := (if (S.1 (pq_r G a0 0) 2) < (20 : Int32) then (pq_bd (F_X6_read G S (pq_r G a0 3) (pq_r G a0 2)) fun _ S16 => (pq_bd (F_X6_isAtEndOfText G S16 (pq_r G a0 3) (pq_r G a0 2)) fun v20 S21 => (if v20 = (0 : Int32) then some ((2 : Int32), S21) else (pq_bd (F_X9_hasSourcesOf G S21 (pq_r G a0 0) (pq_r G (pq_r G a0 3) 0)) fun v27 S28 => (if v27 = (0 : Int32) then some ((3 : Int32), S28) else (pq_bd (F_X9_isSourceOfToday G S28 (pq_r G a0 0) (pq_r G (pq_r G a0 3) 0)) fun v34 S35 => (if v34 = (0 : Int32) then some ((0 : Int32), S35) else some ((4 : Int32), S35)))))))) else some ((1 : Int32), S))
theorem inu_X10_whyNotPrinted_6 : ∀ w ∈ u_ws RX6 TX6 5, w ∈ wsX10_whyNotPrinted := pq_inu 112 rfl
theorem inu_X10_whyNotPrinted_9 : ∀ w ∈ u_ws RX9 TX9 4, w ∈ wsX10_whyNotPrinted := pq_inu 108 rfl
theorem inu_X10_whyNotPrinted_10 : ∀ w ∈ u_ws RX10 TX10 7, w ∈ wsX10_whyNotPrinted := pq_inu 101 rfl
set_option maxHeartbeats 4000000 in
set_option maxRecDepth 100000 in
theorem r_X10_whyNotPrinted {l : Launch} {D : va_G} {y : pq_Y} {G : pq_G} (W0 : pq_WT G) {S : pq_N} {a0 : Nat} (k0_ : pq_ok G 10 a0) {r : Int32} {S1 : pq_N} (h : F_X10_whyNotPrinted G S a0 = some (r, S1)) (sz : Nat) : Met l yX10_whyNotPrinted wsX10_whyNotPrinted ({ frames := 5, cells := 0, slots := 0, locals := 110 } : Room) (pq_P D y G S sz [.ref a0]) (pq_Qi D y G sz r S1) 0 0 (pq_A G sz) := by
  refine pq_enter RX10 1 (by decide) rfl rfl rfl ?_
  intro p e s m below meth c C hsz hr hlk
  subst hsz
  unfold F_X10_whyNotPrinted at h
  refine pv_sub (lo1 := [(0, .ref a0)]) [0] rfl ?_
  refine pv_aload_n C 0 dX10_whyNotPrinted_0 rfl rfl ?_
  have k11 := pq_wt (k := 0) W0 k0_ rfl
  refine pv_getr (T := TX10) (N := 7) C 0 inu_X10_whyNotPrinted_10 rfl (by decide) (by decide) (List.mem_of_getElem? (i := 1) rfl) rfl k0_ k11.1 dX10_whyNotPrinted_1 ?_
  refine pv_getiN (T := TX9) (N := 4) C 2 inu_X10_whyNotPrinted_9 rfl (by decide) (by decide) (List.mem_of_getElem? (i := 29) rfl) rfl k11.2 dX10_whyNotPrinted_4 ?_
  refine pv_bipush (v := 20) C dX10_whyNotPrinted_7 (by decide) ?_
  refine pv_icmp_lt (tgt := 14) C dX10_whyNotPrinted_9 (by decide) (fun c12 => ?_) (fun c12 => ?_)
  · have h := pq_it c12 h
    refine pv_aload_n C 0 dX10_whyNotPrinted_14 rfl rfl ?_
    have k13 := pq_wt (k := 3) W0 k0_ rfl
    refine pv_getr (T := TX10) (N := 7) C 3 inu_X10_whyNotPrinted_10 rfl (by decide) (by decide) (List.mem_of_getElem? (i := 2) rfl) rfl k0_ k13.1 dX10_whyNotPrinted_15 ?_
    refine pv_aload_n C 0 dX10_whyNotPrinted_18 rfl rfl ?_
    have k14 := pq_wt (k := 2) W0 k0_ rfl
    refine pv_getr (T := TX10) (N := 7) C 2 inu_X10_whyNotPrinted_10 rfl (by decide) (by decide) (List.mem_of_getElem? (i := 3) rfl) rfl k0_ k14.1 dX10_whyNotPrinted_19 ?_
    obtain ⟨⟨⟩, S16, e17, h⟩ := pq_bs h
    refine pv_callvV C (ci := 6) rfl (by decide) k13.2 [.ref (pq_r G a0 2)] (fun sz => r_X6_read W0 k13.2 k14.2 e17 sz) (cwV 1 C.1.2.2.2.2 gX10_whyNotPrinted_X6_read rfl rfl rfl (by decide +kernel) ⟨Nat.le_of_ble_eq_true rfl, Nat.le_of_ble_eq_true rfl⟩) rfl rfl (Nat.le_of_ble_eq_true rfl) dX10_whyNotPrinted_22 ⟨Nat.le_of_ble_eq_true rfl, Nat.le_of_ble_eq_true rfl⟩ ?_
    refine pv_aload_n C 0 dX10_whyNotPrinted_25 rfl rfl ?_
    have k18 := pq_wt (k := 3) W0 k0_ rfl
    refine pv_getr (T := TX10) (N := 7) C 3 inu_X10_whyNotPrinted_10 rfl (by decide) (by decide) (List.mem_of_getElem? (i := 2) rfl) rfl k0_ k18.1 dX10_whyNotPrinted_26 ?_
    refine pv_aload_n C 0 dX10_whyNotPrinted_29 rfl rfl ?_
    have k19 := pq_wt (k := 2) W0 k0_ rfl
    refine pv_getr (T := TX10) (N := 7) C 2 inu_X10_whyNotPrinted_10 rfl (by decide) (by decide) (List.mem_of_getElem? (i := 3) rfl) rfl k0_ k19.1 dX10_whyNotPrinted_30 ?_
    obtain ⟨v20, S21, e22, h⟩ := pq_bs h
    refine pv_calliV C (ci := 6) rfl (by decide) k18.2 [.ref (pq_r G a0 2)] (fun sz => r_X6_isAtEndOfText W0 k18.2 k19.2 e22 sz) (cwV 1 C.1.2.2.2.2 gX10_whyNotPrinted_X6_isAtEndOfText rfl rfl rfl (by decide +kernel) ⟨Nat.le_of_ble_eq_true rfl, Nat.le_of_ble_eq_true rfl⟩) rfl rfl (Nat.le_of_ble_eq_true rfl) dX10_whyNotPrinted_33 ⟨Nat.le_of_ble_eq_true rfl, Nat.le_of_ble_eq_true rfl⟩ ?_
    refine pv_if_ne (tgt := 41) C dX10_whyNotPrinted_36 (by decide) (fun c23 => ?_) (fun c23 => ?_)
    · have h := pq_if c23 h
      refine pv_aload_n C 0 dX10_whyNotPrinted_41 rfl rfl ?_
      have k24 := pq_wt (k := 0) W0 k0_ rfl
      refine pv_getr (T := TX10) (N := 7) C 0 inu_X10_whyNotPrinted_10 rfl (by decide) (by decide) (List.mem_of_getElem? (i := 1) rfl) rfl k0_ k24.1 dX10_whyNotPrinted_42 ?_
      refine pv_aload_n C 0 dX10_whyNotPrinted_45 rfl rfl ?_
      have k25 := pq_wt (k := 3) W0 k0_ rfl
      refine pv_getr (T := TX10) (N := 7) C 3 inu_X10_whyNotPrinted_10 rfl (by decide) (by decide) (List.mem_of_getElem? (i := 2) rfl) rfl k0_ k25.1 dX10_whyNotPrinted_46 ?_
      have k26 := pq_wt (k := 0) W0 k25.2 rfl
      refine pv_getrN (T := TX6) (N := 5) C 0 inu_X10_whyNotPrinted_6 rfl (by decide) (by decide) (List.mem_of_getElem? (i := 38) rfl) rfl k25.2 k26.1 dX10_whyNotPrinted_49 ?_
      obtain ⟨v27, S28, e29, h⟩ := pq_bs h
      refine pv_calliV C (ci := 9) rfl (by decide) k24.2 [.ref (pq_r G (pq_r G a0 3) 0)] (fun sz => r_X9_hasSourcesOf W0 k24.2 k26.2 e29 sz) (cwV 1 C.1.2.2.2.2 gX10_whyNotPrinted_X9_hasSourcesOf rfl rfl rfl (by decide +kernel) ⟨Nat.le_of_ble_eq_true rfl, Nat.le_of_ble_eq_true rfl⟩) rfl rfl (Nat.le_of_ble_eq_true rfl) dX10_whyNotPrinted_52 ⟨Nat.le_of_ble_eq_true rfl, Nat.le_of_ble_eq_true rfl⟩ ?_
      refine pv_if_ne (tgt := 60) C dX10_whyNotPrinted_55 (by decide) (fun c30 => ?_) (fun c30 => ?_)
      · have h := pq_if c30 h
        refine pv_aload_n C 0 dX10_whyNotPrinted_60 rfl rfl ?_
        have k31 := pq_wt (k := 0) W0 k0_ rfl
        refine pv_getr (T := TX10) (N := 7) C 0 inu_X10_whyNotPrinted_10 rfl (by decide) (by decide) (List.mem_of_getElem? (i := 1) rfl) rfl k0_ k31.1 dX10_whyNotPrinted_61 ?_
        refine pv_aload_n C 0 dX10_whyNotPrinted_64 rfl rfl ?_
        have k32 := pq_wt (k := 3) W0 k0_ rfl
        refine pv_getr (T := TX10) (N := 7) C 3 inu_X10_whyNotPrinted_10 rfl (by decide) (by decide) (List.mem_of_getElem? (i := 2) rfl) rfl k0_ k32.1 dX10_whyNotPrinted_65 ?_
        have k33 := pq_wt (k := 0) W0 k32.2 rfl
        refine pv_getrN (T := TX6) (N := 5) C 0 inu_X10_whyNotPrinted_6 rfl (by decide) (by decide) (List.mem_of_getElem? (i := 38) rfl) rfl k32.2 k33.1 dX10_whyNotPrinted_68 ?_
        obtain ⟨v34, S35, e36, h⟩ := pq_bs h
        refine pv_calliV C (ci := 9) rfl (by decide) k31.2 [.ref (pq_r G (pq_r G a0 3) 0)] (fun sz => r_X9_isSourceOfToday W0 k31.2 k33.2 e36 sz) (cwV 1 C.1.2.2.2.2 gX10_whyNotPrinted_X9_isSourceOfToday rfl rfl rfl (by decide +kernel) ⟨Nat.le_of_ble_eq_true rfl, Nat.le_of_ble_eq_true rfl⟩) rfl rfl (Nat.le_of_ble_eq_true rfl) dX10_whyNotPrinted_71 ⟨Nat.le_of_ble_eq_true rfl, Nat.le_of_ble_eq_true rfl⟩ ?_
        refine pv_if_eq (tgt := 81) C dX10_whyNotPrinted_74 (by decide) (fun c37 => ?_) (fun c37 => ?_)
        · have h := pq_it c37 h
          refine pv_iconst (v := 0) C dX10_whyNotPrinted_81 (by decide) ?_
          exact pv_iret C hr hlk h dX10_whyNotPrinted_82
        · have h := pq_if c37 h
          refine pv_iconst (v := 4) C dX10_whyNotPrinted_77 (by decide) ?_
          refine pv_goto (tgt := 82) C dX10_whyNotPrinted_78 (by decide) ?_
          exact pv_iret C hr hlk h dX10_whyNotPrinted_82
      · have h := pq_it c30 h
        refine pv_iconst (v := 3) C dX10_whyNotPrinted_58 (by decide) ?_
        exact pv_iret C hr hlk h dX10_whyNotPrinted_59
    · have h := pq_it c23 h
      refine pv_iconst (v := 2) C dX10_whyNotPrinted_39 (by decide) ?_
      exact pv_iret C hr hlk h dX10_whyNotPrinted_40
  · have h := pq_if c12 h
    refine pv_iconst (v := 1) C dX10_whyNotPrinted_12 (by decide) ?_
    exact pv_iret C hr hlk h dX10_whyNotPrinted_13
def F_X10_savedStates (G : pq_G) (S : pq_N) (a0 : Nat) : Option (Int32 × pq_N) := some ((S.1 (pq_r G a0 1) 4), S)
theorem inu_X10_savedStates_2 : ∀ w ∈ u_ws RX2 TX2 5, w ∈ wsX10_savedStates := pq_inu 9 rfl
theorem inu_X10_savedStates_10 : ∀ w ∈ u_ws RX10 TX10 7, w ∈ wsX10_savedStates := pq_inu 2 rfl
set_option maxHeartbeats 4000000 in
set_option maxRecDepth 100000 in
theorem r_X10_savedStates {l : Launch} {D : va_G} {y : pq_Y} {G : pq_G} (W0 : pq_WT G) {S : pq_N} {a0 : Nat} (k0_ : pq_ok G 10 a0) {r : Int32} {S1 : pq_N} (h : F_X10_savedStates G S a0 = some (r, S1)) (sz : Nat) : Met l yX10_savedStates wsX10_savedStates ({ frames := 0, cells := 0, slots := 0, locals := 0 } : Room) (pq_P D y G S sz [.ref a0]) (pq_Qi D y G sz r S1) 0 0 (pq_A G sz) := by
  refine pq_enter RX10 1 (by decide) rfl rfl rfl ?_
  intro p e s m below meth c C hsz hr hlk
  subst hsz
  unfold F_X10_savedStates at h
  refine pv_sub (lo1 := [(0, .ref a0)]) [0] rfl ?_
  refine pv_aload_n C 0 dX10_savedStates_0 rfl rfl ?_
  have k11 := pq_wt (k := 1) W0 k0_ rfl
  refine pv_getr (T := TX10) (N := 7) C 1 inu_X10_savedStates_10 rfl (by decide) (by decide) (List.mem_of_getElem? (i := 1) rfl) rfl k0_ k11.1 dX10_savedStates_1 ?_
  refine pv_getiN (T := TX2) (N := 5) C 4 inu_X10_savedStates_2 rfl (by decide) (by decide) (List.mem_of_getElem? (i := 34) rfl) rfl k11.2 dX10_savedStates_4 ?_
  exact pv_iret C hr hlk h dX10_savedStates_7
def F_X10_takeSnapshot (G : pq_G) (S : pq_N) (a0 : Nat) : Option (Int32 × pq_N) := (pq_bd (F_X9_copy G S (pq_r G (pq_r G a0 1) 1) (pq_r G a0 0)) fun _ S15 => (pq_lt (pq_wi S15 (pq_r G a0 1) 2 (1 : Int32)) fun S18 => some ((S18.1 (pq_r G a0 0) 2), S18)))
theorem inu_X10_takeSnapshot_2 : ∀ w ∈ u_ws RX2 TX2 5, w ∈ wsX10_takeSnapshot := pq_inu 46 rfl
theorem inu_X10_takeSnapshot_9 : ∀ w ∈ u_ws RX9 TX9 4, w ∈ wsX10_takeSnapshot := pq_inu 51 rfl
theorem inu_X10_takeSnapshot_10 : ∀ w ∈ u_ws RX10 TX10 7, w ∈ wsX10_takeSnapshot := pq_inu 39 rfl
set_option maxHeartbeats 4000000 in
set_option maxRecDepth 100000 in
theorem r_X10_takeSnapshot {l : Launch} {D : va_G} {y : pq_Y} {G : pq_G} (W0 : pq_WT G) {S : pq_N} {a0 : Nat} (k0_ : pq_ok G 10 a0) {r : Int32} {S1 : pq_N} (h : F_X10_takeSnapshot G S a0 = some (r, S1)) (sz : Nat) : Met l yX10_takeSnapshot wsX10_takeSnapshot ({ frames := 4, cells := 0, slots := 0, locals := 91 } : Room) (pq_P D y G S sz [.ref a0]) (pq_Qi D y G sz r S1) 0 0 (pq_A G sz) := by
  refine pq_enter RX10 1 (by decide) rfl rfl rfl ?_
  intro p e s m below meth c C hsz hr hlk
  subst hsz
  unfold F_X10_takeSnapshot at h
  refine pv_sub (lo1 := [(0, .ref a0)]) [0] rfl ?_
  refine pv_aload_n C 0 dX10_takeSnapshot_0 rfl rfl ?_
  have k11 := pq_wt (k := 1) W0 k0_ rfl
  refine pv_getr (T := TX10) (N := 7) C 1 inu_X10_takeSnapshot_10 rfl (by decide) (by decide) (List.mem_of_getElem? (i := 1) rfl) rfl k0_ k11.1 dX10_takeSnapshot_1 ?_
  have k12 := pq_wt (k := 1) W0 k11.2 rfl
  refine pv_getrN (T := TX2) (N := 5) C 1 inu_X10_takeSnapshot_2 rfl (by decide) (by decide) (List.mem_of_getElem? (i := 32) rfl) rfl k11.2 k12.1 dX10_takeSnapshot_4 ?_
  refine pv_aload_n C 0 dX10_takeSnapshot_7 rfl rfl ?_
  have k13 := pq_wt (k := 0) W0 k0_ rfl
  refine pv_getr (T := TX10) (N := 7) C 0 inu_X10_takeSnapshot_10 rfl (by decide) (by decide) (List.mem_of_getElem? (i := 2) rfl) rfl k0_ k13.1 dX10_takeSnapshot_8 ?_
  obtain ⟨⟨⟩, S15, e16, h⟩ := pq_bs h
  refine pv_callvV C (ci := 9) rfl (by decide) k12.2 [.ref (pq_r G a0 0)] (fun sz => r_X9_copy W0 k12.2 k13.2 e16 sz) (cwV 1 C.1.2.2.2.2 gX10_takeSnapshot_X9_copy rfl rfl rfl (by decide +kernel) ⟨Nat.le_of_ble_eq_true rfl, Nat.le_of_ble_eq_true rfl⟩) rfl rfl (Nat.le_of_ble_eq_true rfl) dX10_takeSnapshot_11 ⟨Nat.le_of_ble_eq_true rfl, Nat.le_of_ble_eq_true rfl⟩ ?_
  refine pv_aload_n C 0 dX10_takeSnapshot_14 rfl rfl ?_
  have k17 := pq_wt (k := 1) W0 k0_ rfl
  refine pv_getr (T := TX10) (N := 7) C 1 inu_X10_takeSnapshot_10 rfl (by decide) (by decide) (List.mem_of_getElem? (i := 1) rfl) rfl k0_ k17.1 dX10_takeSnapshot_15 ?_
  refine pv_iconst (v := 1) C dX10_takeSnapshot_18 (by decide) ?_
  refine pv_putN (T := TX2) (N := 5) (ty := .boolean) C 2 inu_X10_takeSnapshot_2 rfl (by decide) tyX2 tyX2_ok nmX2 (by decide) (List.mem_of_getElem? (i := 33) rfl) rfl k17.2 rfl (by decide +kernel) rfl rfl dX10_takeSnapshot_19 ?_
  refine pv_nm (fun S18 e19 => ?_)
  have h := pq_ls e19 h
  refine pv_aload_n C 0 dX10_takeSnapshot_22 rfl rfl ?_
  have k20 := pq_wt (k := 0) W0 k0_ rfl
  refine pv_getr (T := TX10) (N := 7) C 0 inu_X10_takeSnapshot_10 rfl (by decide) (by decide) (List.mem_of_getElem? (i := 2) rfl) rfl k0_ k20.1 dX10_takeSnapshot_23 ?_
  refine pv_getiN (T := TX9) (N := 4) C 2 inu_X10_takeSnapshot_9 rfl (by decide) (by decide) (List.mem_of_getElem? (i := 29) rfl) rfl k20.2 dX10_takeSnapshot_26 ?_
  exact pv_iret C hr hlk h dX10_takeSnapshot_29
