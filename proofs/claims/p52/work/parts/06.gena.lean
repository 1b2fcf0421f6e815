def F_X7_put (G : pq_G) (S : pq_N) (a0 : Nat) (x1 : Int32) (x2 : Int64) : Option (Unit × pq_N) := (if x1 < (0 : Int32) then some ((), S) else (if (nI (pq_n G (pq_r G a0 0))) ≤ x1 then some ((), S) else (if x1 < 0 ∨ pq_n G (pq_r G a0 0) ≤ (Int32.toNatClampNeg x1) then none else (pq_lt (pq_wj S (pq_r G a0 0) (Int32.toNatClampNeg x1) x2) fun S16 => some ((), S16)))))
theorem inu_X7_put_7 : ∀ w ∈ u_ws RX7 TX7 1, w ∈ wsX7_put := pq_inu 2 rfl
set_option maxHeartbeats 4000000 in
set_option maxRecDepth 100000 in
theorem r_X7_put {l : Launch} {D : va_G} {y : pq_Y} {G : pq_G} (W0 : pq_WT G) {S : pq_N} {a0 : Nat} {x1 : Int32} {x2 : Int64} (k0_ : pq_ok G 7 a0) {S1 : pq_N} (h : F_X7_put G S a0 x1 x2 = some ((), S1)) (sz : Nat) : Met l yX7_put wsX7_put ({ frames := 0, cells := 0, slots := 0, locals := 0 } : Room) (pq_P D y G S sz [.ref a0, .int x1, .long x2]) (pq_Qv D y G sz S1) 0 0 (pq_A G sz) := by
  refine pq_enter RX7 4 (by decide) rfl rfl rfl ?_
  intro p e s m below meth c C hsz hr hlk
  subst hsz
  unfold F_X7_put at h
  refine pv_sub (lo1 := [(0, .ref a0), (1, .int x1), (2, .long x2)]) [0, 1, 2] rfl ?_
  refine pv_iload_n C 1 dX7_put_0 rfl rfl ?_
  refine pv_if_lt (tgt := 20) C dX7_put_1 (by decide) (fun c11 => ?_) (fun c11 => ?_)
  · have h := pq_it c11 h
    exact pv_vret C hr hlk h dX7_put_20
  · have h := pq_if c11 h
    refine pv_iload_n C 1 dX7_put_4 rfl rfl ?_
    refine pv_aload_n C 0 dX7_put_5 rfl rfl ?_
    have k12 := pq_wt (k := 0) W0 k0_ rfl
    refine pv_getr (T := TX7) (N := 1) C 0 inu_X7_put_7 rfl (by decide) (by decide) (List.mem_of_getElem? (i := 1) rfl) rfl k0_ k12.1 dX7_put_6 ?_
    refine pv_alen13 C k12.2 dX7_put_9 ?_
    refine pv_icmp_ge (tgt := 20) C dX7_put_10 (by decide) (fun c13 => ?_) (fun c13 => ?_)
    · have h := pq_it c13 h
      exact pv_vret C hr hlk h dX7_put_20
    · have h := pq_if c13 h
      refine pv_aload_n C 0 dX7_put_13 rfl rfl ?_
      have k14 := pq_wt (k := 0) W0 k0_ rfl
      refine pv_getr (T := TX7) (N := 1) C 0 inu_X7_put_7 rfl (by decide) (by decide) (List.mem_of_getElem? (i := 1) rfl) rfl k0_ k14.1 dX7_put_14 ?_
      refine pv_iload_n C 1 dX7_put_17 rfl rfl ?_
      refine pv_lload_n C 2 dX7_put_18 rfl rfl ?_
      obtain ⟨g15, h⟩ := pq_gd h
      refine pv_lastore C k14.2 g15 dX7_put_19 ?_
      refine pv_nm (fun S16 e17 => ?_)
      have h := pq_ls e17 h
      exact pv_vret C hr hlk h dX7_put_20
def F_X0_add (G : pq_G) (S : pq_N) (a0 : Nat) (x1 : Int32) : Option (Unit × pq_N) := (pq_bd (F_X7_put G S (pq_r G a0 0) (S.1 a0 1) (Int32.toInt64 x1)) fun _ S13 => (pq_lt (pq_wi S13 a0 1 ((S13.1 a0 1) + (1 : Int32))) fun S15 => some ((), S15)))
theorem inu_X0_add_0 : ∀ w ∈ u_ws RX0 TX0 2, w ∈ wsX0_add := pq_inu 9 rfl
set_option maxHeartbeats 4000000 in
set_option maxRecDepth 100000 in
theorem r_X0_add {l : Launch} {D : va_G} {y : pq_Y} {G : pq_G} (W0 : pq_WT G) {S : pq_N} {a0 : Nat} {x1 : Int32} (k0_ : pq_ok G 0 a0) {S1 : pq_N} (h : F_X0_add G S a0 x1 = some ((), S1)) (sz : Nat) : Met l yX0_add wsX0_add ({ frames := 1, cells := 0, slots := 0, locals := 23 } : Room) (pq_P D y G S sz [.ref a0, .int x1]) (pq_Qv D y G sz S1) 0 0 (pq_A G sz) := by
  refine pq_enter RX0 2 (by decide) rfl rfl rfl ?_
  intro p e s m below meth c C hsz hr hlk
  subst hsz
  unfold F_X0_add at h
  refine pv_sub (lo1 := [(0, .ref a0), (1, .int x1)]) [0, 1] rfl ?_
  refine pv_aload_n C 0 dX0_add_0 rfl rfl ?_
  have k11 := pq_wt (k := 0) W0 k0_ rfl
  refine pv_getr (T := TX0) (N := 2) C 0 inu_X0_add_0 rfl (by decide) (by decide) (List.mem_of_getElem? (i := 1) rfl) rfl k0_ k11.1 dX0_add_1 ?_
  refine pv_aload_n C 0 dX0_add_4 rfl rfl ?_
  refine pv_geti (T := TX0) (N := 2) C 1 inu_X0_add_0 rfl (by decide) (by decide) (List.mem_of_getElem? (i := 2) rfl) rfl k0_ dX0_add_5 ?_
  refine pv_iload_n C 1 dX0_add_8 rfl rfl ?_
  refine pv_i2l C dX0_add_9 ?_
  obtain ⟨⟨⟩, S13, e14, h⟩ := pq_bs h
  refine pv_callvV C (ci := 7) rfl (by decide) k11.2 [.int (S.1 a0 1), .long (Int32.toInt64 x1)] (fun sz => r_X7_put W0 k11.2 e14 sz) (cwV 2 C.1.2.2.2.2 gX0_add_X7_put rfl rfl rfl (by decide +kernel) ⟨Nat.le_of_ble_eq_true rfl, Nat.le_of_ble_eq_true rfl⟩) rfl rfl (Nat.le_of_ble_eq_true rfl) dX0_add_10 ⟨Nat.le_of_ble_eq_true rfl, Nat.le_of_ble_eq_true rfl⟩ ?_
  refine pv_aload_n C 0 dX0_add_13 rfl rfl ?_
  refine pv_dup C dX0_add_14 rfl ?_
  refine pv_geti (T := TX0) (N := 2) C 1 inu_X0_add_0 rfl (by decide) (by decide) (List.mem_of_getElem? (i := 2) rfl) rfl k0_ dX0_add_15 ?_
  refine pv_iconst (v := 1) C dX0_add_18 (by decide) ?_
  refine pv_iadd C dX0_add_19 ?_
  refine pv_put (T := TX0) (N := 2) (ty := .int) C 1 inu_X0_add_0 rfl (by decide) tyX0 tyX0_ok nmX0 (by decide) (List.mem_of_getElem? (i := 2) rfl) rfl k0_ rfl (by decide +kernel) rfl rfl dX0_add_20 ?_
  refine pv_nm (fun S15 e16 => ?_)
  have h := pq_ls e16 h
  exact pv_vret C hr hlk h dX0_add_23
def F_X7_at (G : pq_G) (S : pq_N) (a0 : Nat) (x1 : Int32) : Option (Int64 × pq_N) := (if x1 < (0 : Int32) then some ((0 : Int64), S) else (if (nI (pq_n G (pq_r G a0 0))) ≤ x1 then some ((0 : Int64), S) else (if x1 < 0 ∨ pq_n G (pq_r G a0 0) ≤ (Int32.toNatClampNeg x1) then none else some ((S.2 (pq_r G a0 0) (Int32.toNatClampNeg x1)), S))))
theorem inu_X7_at_7 : ∀ w ∈ u_ws RX7 TX7 1, w ∈ wsX7_at := pq_inu 2 rfl
set_option maxHeartbeats 4000000 in
set_option maxRecDepth 100000 in
theorem r_X7_at {l : Launch} {D : va_G} {y : pq_Y} {G : pq_G} (W0 : pq_WT G) {S : pq_N} {a0 : Nat} {x1 : Int32} (k0_ : pq_ok G 7 a0) {r : Int64} {S1 : pq_N} (h : F_X7_at G S a0 x1 = some (r, S1)) (sz : Nat) : Met l yX7_at wsX7_at ({ frames := 0, cells := 0, slots := 0, locals := 0 } : Room) (pq_P D y G S sz [.ref a0, .int x1]) (pq_Ql D y G sz r S1) 0 0 (pq_A G sz) := by
  refine pq_enter RX7 2 (by decide) rfl rfl rfl ?_
  intro p e s m below meth c C hsz hr hlk
  subst hsz
  unfold F_X7_at at h
  refine pv_sub (lo1 := [(0, .ref a0), (1, .int x1)]) [0, 1] rfl ?_
  refine pv_iload_n C 1 dX7_at_0 rfl rfl ?_
  refine pv_if_lt (tgt := 22) C dX7_at_1 (by decide) (fun c11 => ?_) (fun c11 => ?_)
  · have h := pq_it c11 h
    refine pv_lconst (v := 0) C dX7_at_22 (by decide) ?_
    exact pv_lret C hr hlk h dX7_at_23
  · have h := pq_if c11 h
    refine pv_iload_n C 1 dX7_at_4 rfl rfl ?_
    refine pv_aload_n C 0 dX7_at_5 rfl rfl ?_
    have k12 := pq_wt (k := 0) W0 k0_ rfl
    refine pv_getr (T := TX7) (N := 1) C 0 inu_X7_at_7 rfl (by decide) (by decide) (List.mem_of_getElem? (i := 1) rfl) rfl k0_ k12.1 dX7_at_6 ?_
    refine pv_alen13 C k12.2 dX7_at_9 ?_
    refine pv_icmp_ge (tgt := 22) C dX7_at_10 (by decide) (fun c13 => ?_) (fun c13 => ?_)
    · have h := pq_it c13 h
      refine pv_lconst (v := 0) C dX7_at_22 (by decide) ?_
      exact pv_lret C hr hlk h dX7_at_23
    · have h := pq_if c13 h
      refine pv_aload_n C 0 dX7_at_13 rfl rfl ?_
      have k14 := pq_wt (k := 0) W0 k0_ rfl
      refine pv_getr (T := TX7) (N := 1) C 0 inu_X7_at_7 rfl (by decide) (by decide) (List.mem_of_getElem? (i := 1) rfl) rfl k0_ k14.1 dX7_at_14 ?_
      refine pv_iload_n C 1 dX7_at_17 rfl rfl ?_
      obtain ⟨g15, h⟩ := pq_gd h
      refine pv_laload C k14.2 g15 dX7_at_18 ?_
      refine pv_goto (tgt := 23) C dX7_at_19 (by decide) ?_
      exact pv_lret C hr hlk h dX7_at_23
def F_X7_number (G : pq_G) (S : pq_N) (a0 : Nat) (x1 : Int32) : Option (Int32 × pq_N) := (if x1 < (0 : Int32) then some ((0 : Int32), S) else (if (nI (pq_n G (pq_r G a0 0))) ≤ x1 then some ((0 : Int32), S) else (if x1 < 0 ∨ pq_n G (pq_r G a0 0) ≤ (Int32.toNatClampNeg x1) then none else some ((Int64.toInt32 (S.2 (pq_r G a0 0) (Int32.toNatClampNeg x1))), S))))
theorem inu_X7_number_7 : ∀ w ∈ u_ws RX7 TX7 1, w ∈ wsX7_number := pq_inu 2 rfl
set_option maxHeartbeats 4000000 in
set_option maxRecDepth 100000 in
theorem r_X7_number {l : Launch} {D : va_G} {y : pq_Y} {G : pq_G} (W0 : pq_WT G) {S : pq_N} {a0 : Nat} {x1 : Int32} (k0_ : pq_ok G 7 a0) {r : Int32} {S1 : pq_N} (h : F_X7_number G S a0 x1 = some (r, S1)) (sz : Nat) : Met l yX7_number wsX7_number ({ frames := 0, cells := 0, slots := 0, locals := 0 } : Room) (pq_P D y G S sz [.ref a0, .int x1]) (pq_Qi D y G sz r S1) 0 0 (pq_A G sz) := by
  refine pq_enter RX7 2 (by decide) rfl rfl rfl ?_
  intro p e s m below meth c C hsz hr hlk
  subst hsz
  unfold F_X7_number at h
  refine pv_sub (lo1 := [(0, .ref a0), (1, .int x1)]) [0, 1] rfl ?_
  refine pv_iload_n C 1 dX7_number_0 rfl rfl ?_
  refine pv_if_lt (tgt := 23) C dX7_number_1 (by decide) (fun c11 => ?_) (fun c11 => ?_)
  · have h := pq_it c11 h
    refine pv_iconst (v := 0) C dX7_number_23 (by decide) ?_
    exact pv_iret C hr hlk h dX7_number_24
  · have h := pq_if c11 h
    refine pv_iload_n C 1 dX7_number_4 rfl rfl ?_
    refine pv_aload_n C 0 dX7_number_5 rfl rfl ?_
    have k12 := pq_wt (k := 0) W0 k0_ rfl
    refine pv_getr (T := TX7) (N := 1) C 0 inu_X7_number_7 rfl (by decide) (by decide) (List.mem_of_getElem? (i := 1) rfl) rfl k0_ k12.1 dX7_number_6 ?_
    refine pv_alen13 C k12.2 dX7_number_9 ?_
    refine pv_icmp_ge (tgt := 23) C dX7_number_10 (by decide) (fun c13 => ?_) (fun c13 => ?_)
    · have h := pq_it c13 h
      refine pv_iconst (v := 0) C dX7_number_23 (by decide) ?_
      exact pv_iret C hr hlk h dX7_number_24
    · have h := pq_if c13 h
      refine pv_aload_n C 0 dX7_number_13 rfl rfl ?_
      have k14 := pq_wt (k := 0) W0 k0_ rfl
      refine pv_getr (T := TX7) (N := 1) C 0 inu_X7_number_7 rfl (by decide) (by decide) (List.mem_of_getElem? (i := 1) rfl) rfl k0_ k14.1 dX7_number_14 ?_
      refine pv_iload_n C 1 dX7_number_17 rfl rfl ?_
      obtain ⟨g15, h⟩ := pq_gd h
      refine pv_laload C k14.2 g15 dX7_number_18 ?_
      refine pv_l2i C dX7_number_19 ?_
      refine pv_goto (tgt := 24) C dX7_number_20 (by decide) ?_
      exact pv_iret C hr hlk h dX7_number_24
def F_X1_count_b65 (G : pq_G)  (S : pq_N) (a0 : Nat) (x3 : Int32) : Option (Unit × pq_N) := (pq_bd (F_X7_number G S (pq_r G a0 1) x3) fun v30 S31 => (pq_bd (F_X7_put G S31 (pq_r G a0 1) x3 (Int32.toInt64 (v30 + (1 : Int32)))) fun _ S34 => some ((), S34)))
def F_X1_count_b29 (G : pq_G)  (S : pq_N) (a0 : Nat) (x1 : Int64) (x3 : Int32) : Option (Unit × pq_N) := (if x3 = (S.1 a0 2) then (pq_bd (F_X7_put G S (pq_r G a0 0) x3 x1) fun _ S20 => (pq_bd (F_X7_put G S20 (pq_r G a0 1) x3 (0 : Int64)) fun _ S24 => (pq_lt (pq_wi S24 a0 2 ((S24.1 a0 2) + (1 : Int32))) fun S26 => F_X1_count_b65 G S26 a0 x3))) else F_X1_count_b65 G S a0 x3)
def F_X1_count_b2 (G : pq_G)  : Nat → pq_N → Nat → Int64 → Int32 → Option (Unit × pq_N)
  | 0, _, _, _, _ => none
  | n + 1, S, a0, x1, x3 => (if (S.1 a0 2) ≤ x3 then F_X1_count_b29 G S a0 x1 x3 else (pq_bd (F_X7_at G S (pq_r G a0 0) x3) fun v13 S14 => (if (lg_cmp v13 x1) = (0 : Int32) then F_X1_count_b29 G S14 a0 x1 x3 else (F_X1_count_b2 G n) S14 a0 x1 (x3 + (1 : Int32)))))
def F_X1_count (G : pq_G) (S : pq_N) (a0 : Nat) (x1 : Int64) : Option (Unit × pq_N) := F_X1_count_b2 G pq_fuel S a0 x1 (0 : Int32)
theorem inu_X1_count_1 : ∀ w ∈ u_ws RX1 TX1 3, w ∈ wsX1_count := pq_inu 18 rfl
set_option maxHeartbeats 4000000 in
set_option maxRecDepth 100000 in
theorem r_X1_count_b65 {p : Program} {l : Launch} {e : Env} {s : State} {m : MethodId} {av : Array Value} {below : List Frame} {meth : Method} {c : Code} {D : va_G} {y : pq_Y} {G : pq_G} {S1 : pq_N} (W0 : pq_WT G) (C : pq_C p s m av c D y RX1 wsX1_count cX1_count 4) (hr : meth.sig.returnType = none) (hlk : meth.locks = false) : ∀ (S : pq_N) (a0 : Nat) (x3 : Int32), pq_ok G 1 a0 → F_X1_count_b65 G S a0 x3 = some ((), S1) → pq_V p l e (headSpec wsX1_count ({ frames := 1, cells := 0, slots := 0, locals := 23 } : Room)).room s m av below meth c 0 0 (MQ below (pq_Qv D y G s.heap.size S1) av s 0 0 (pq_A G s.heap.size)) D y 4 (pq_A G s.heap.size) (fun _ => True) G S 65 [(0, .ref a0), (3, .int x3)] [] := by
  intro S a0 x3 k0_ h
  unfold F_X1_count_b65 at h
  refine pv_aload_n C 0 dX1_count_65 rfl rfl ?_
  have k28 := pq_wt (k := 1) W0 k0_ rfl
  refine pv_getr (T := TX1) (N := 3) C 1 inu_X1_count_1 rfl (by decide) (by decide) (List.mem_of_getElem? (i := 3) rfl) rfl k0_ k28.1 dX1_count_66 ?_
  refine pv_iload_n C 1 dX1_count_69 rfl rfl ?_
  refine pv_aload_n C 0 dX1_count_70 rfl rfl ?_
  have k29 := pq_wt (k := 1) W0 k0_ rfl
  refine pv_getr (T := TX1) (N := 3) C 1 inu_X1_count_1 rfl (by decide) (by decide) (List.mem_of_getElem? (i := 3) rfl) rfl k0_ k29.1 dX1_count_71 ?_
  refine pv_iload_n C 1 dX1_count_74 rfl rfl ?_
  obtain ⟨v30, S31, e32, h⟩ := pq_bs h
  refine pv_calliV C (ci := 7) rfl (by decide) k29.2 [.int x3] (fun sz => r_X7_number W0 k29.2 e32 sz) (cwV 1 C.1.2.2.2.2 gX1_count_X7_number rfl rfl rfl (by decide +kernel) ⟨Nat.le_of_ble_eq_true rfl, Nat.le_of_ble_eq_true rfl⟩) rfl rfl (Nat.le_of_ble_eq_true rfl) dX1_count_75 ⟨Nat.le_of_ble_eq_true rfl, Nat.le_of_ble_eq_true rfl⟩ ?_
  refine pv_iconst (v := 1) C dX1_count_78 (by decide) ?_
  refine pv_iadd C dX1_count_79 ?_
  refine pv_i2l C dX1_count_80 ?_
  obtain ⟨⟨⟩, S34, e35, h⟩ := pq_bs h
  refine pv_callvV C (ci := 7) rfl (by decide) k28.2 [.int x3, .long (Int32.toInt64 (v30 + (1 : Int32)))] (fun sz => r_X7_put W0 k28.2 e35 sz) (cwV 2 C.1.2.2.2.2 gX1_count_X7_put rfl rfl rfl (by decide +kernel) ⟨Nat.le_of_ble_eq_true rfl, Nat.le_of_ble_eq_true rfl⟩) rfl rfl (Nat.le_of_ble_eq_true rfl) dX1_count_81 ⟨Nat.le_of_ble_eq_true rfl, Nat.le_of_ble_eq_true rfl⟩ ?_
  exact pv_vret C hr hlk h dX1_count_84
set_option maxHeartbeats 4000000 in
set_option maxRecDepth 100000 in
theorem r_X1_count_b29 {p : Program} {l : Launch} {e : Env} {s : State} {m : MethodId} {av : Array Value} {below : List Frame} {meth : Method} {c : Code} {D : va_G} {y : pq_Y} {G : pq_G} {S1 : pq_N} (W0 : pq_WT G) (C : pq_C p s m av c D y RX1 wsX1_count cX1_count 4) (hr : meth.sig.returnType = none) (hlk : meth.locks = false) : ∀ (S : pq_N) (a0 : Nat) (x1 : Int64) (x3 : Int32), pq_ok G 1 a0 → F_X1_count_b29 G S a0 x1 x3 = some ((), S1) → pq_V p l e (headSpec wsX1_count ({ frames := 1, cells := 0, slots := 0, locals := 23 } : Room)).room s m av below meth c 0 0 (MQ below (pq_Qv D y G s.heap.size S1) av s 0 0 (pq_A G s.heap.size)) D y 4 (pq_A G s.heap.size) (fun _ => True) G S 29 [(0, .ref a0), (1, .long x1), (3, .int x3)] [] := by
  intro S a0 x1 x3 k0_ h
  unfold F_X1_count_b29 at h
  refine pv_iload_n C 2 dX1_count_29 rfl rfl ?_
  refine pv_aload_n C 0 dX1_count_30 rfl rfl ?_
  refine pv_geti (T := TX1) (N := 3) C 2 inu_X1_count_1 rfl (by decide) (by decide) (List.mem_of_getElem? (i := 1) rfl) rfl k0_ dX1_count_31 ?_
  refine pv_icmp_ne (tgt := 65) C dX1_count_34 (by decide) (fun c17 => ?_) (fun c17 => ?_)
  · have h := pq_if c17 h
    refine pv_sub [0, 2] rfl ?_
    exact r_X1_count_b65 W0 C hr hlk _ _ _ k0_ h
  · have h := pq_it c17 h
    refine pv_aload_n C 0 dX1_count_37 rfl rfl ?_
    have k18 := pq_wt (k := 0) W0 k0_ rfl
    refine pv_getr (T := TX1) (N := 3) C 0 inu_X1_count_1 rfl (by decide) (by decide) (List.mem_of_getElem? (i := 2) rfl) rfl k0_ k18.1 dX1_count_38 ?_
    refine pv_iload_n C 2 dX1_count_41 rfl rfl ?_
    refine pv_lload_n C 1 dX1_count_42 rfl rfl ?_
    obtain ⟨⟨⟩, S20, e21, h⟩ := pq_bs h
    refine pv_callvV C (ci := 7) rfl (by decide) k18.2 [.int x3, .long x1] (fun sz => r_X7_put W0 k18.2 e21 sz) (cwV 2 C.1.2.2.2.2 gX1_count_X7_put rfl rfl rfl (by decide +kernel) ⟨Nat.le_of_ble_eq_true rfl, Nat.le_of_ble_eq_true rfl⟩) rfl rfl (Nat.le_of_ble_eq_true rfl) dX1_count_43 ⟨Nat.le_of_ble_eq_true rfl, Nat.le_of_ble_eq_true rfl⟩ ?_
    refine pv_aload_n C 0 dX1_count_46 rfl rfl ?_
    have k22 := pq_wt (k := 1) W0 k0_ rfl
    refine pv_getr (T := TX1) (N := 3) C 1 inu_X1_count_1 rfl (by decide) (by decide) (List.mem_of_getElem? (i := 3) rfl) rfl k0_ k22.1 dX1_count_47 ?_
    refine pv_iload_n C 2 dX1_count_50 rfl rfl ?_
    refine pv_lconst (v := 0) C dX1_count_51 (by decide) ?_
    obtain ⟨⟨⟩, S24, e25, h⟩ := pq_bs h
    refine pv_callvV C (ci := 7) rfl (by decide) k22.2 [.int x3, .long (0 : Int64)] (fun sz => r_X7_put W0 k22.2 e25 sz) (cwV 2 C.1.2.2.2.2 gX1_count_X7_put rfl rfl rfl (by decide +kernel) ⟨Nat.le_of_ble_eq_true rfl, Nat.le_of_ble_eq_true rfl⟩) rfl rfl (Nat.le_of_ble_eq_true rfl) dX1_count_52 ⟨Nat.le_of_ble_eq_true rfl, Nat.le_of_ble_eq_true rfl⟩ ?_
    refine pv_aload_n C 0 dX1_count_55 rfl rfl ?_
    refine pv_dup C dX1_count_56 rfl ?_
    refine pv_geti (T := TX1) (N := 3) C 2 inu_X1_count_1 rfl (by decide) (by decide) (List.mem_of_getElem? (i := 1) rfl) rfl k0_ dX1_count_57 ?_
    refine pv_iconst (v := 1) C dX1_count_60 (by decide) ?_
    refine pv_iadd C dX1_count_61 ?_
    refine pv_put (T := TX1) (N := 3) (ty := .int) C 2 inu_X1_count_1 rfl (by decide) tyX1 tyX1_ok nmX1 (by decide) (List.mem_of_getElem? (i := 1) rfl) rfl k0_ rfl (by decide +kernel) rfl rfl dX1_count_62 ?_
    refine pv_nm (fun S26 e27 => ?_)
    have h := pq_ls e27 h
    refine pv_sub [0, 2] rfl ?_
    exact r_X1_count_b65 W0 C hr hlk _ _ _ k0_ h
set_option maxHeartbeats 4000000 in
set_option maxRecDepth 100000 in
theorem r_X1_count_b2 {p : Program} {l : Launch} {e : Env} {s : State} {m : MethodId} {av : Array Value} {below : List Frame} {meth : Method} {c : Code} {D : va_G} {y : pq_Y} {G : pq_G} {S1 : pq_N} (W0 : pq_WT G) (C : pq_C p s m av c D y RX1 wsX1_count cX1_count 4) (hr : meth.sig.returnType = none) (hlk : meth.locks = false) (n : Nat) : ∀ (S : pq_N) (a0 : Nat) (x1 : Int64) (x3 : Int32), pq_ok G 1 a0 → F_X1_count_b2 G n S a0 x1 x3 = some ((), S1) → pq_V p l e (headSpec wsX1_count ({ frames := 1, cells := 0, slots := 0, locals := 23 } : Room)).room s m av below meth c 0 0 (MQ below (pq_Qv D y G s.heap.size S1) av s 0 0 (pq_A G s.heap.size)) D y 4 (pq_A G s.heap.size) (fun _ => True) G S 2 [(0, .ref a0), (1, .long x1), (3, .int x3)] [] := by
  induction n with
  | zero =>
    intro S a0 x1 x3 k0_ h
    rw [F_X1_count_b2.eq_1] at h; cases h
  | succ n ih =>
    intro S a0 x1 x3 k0_ h
    rw [F_X1_count_b2.eq_2] at h
    refine pv_iload_n C 2 dX1_count_2 rfl rfl ?_
    refine pv_aload_n C 0 dX1_count_3 rfl rfl ?_
    refine pv_geti (T := TX1) (N := 3) C 2 inu_X1_count_1 rfl (by decide) (by decide) (List.mem_of_getElem? (i := 1) rfl) rfl k0_ dX1_count_4 ?_
    refine pv_icmp_ge (tgt := 29) C dX1_count_7 (by decide) (fun c11 => ?_) (fun c11 => ?_)
    · have h := pq_it c11 h
      refine pv_sub [0, 1, 2] rfl ?_
      exact r_X1_count_b29 W0 C hr hlk _ _ _ _ k0_ h
    · have h := pq_if c11 h
      refine pv_aload_n C 0 dX1_count_10 rfl rfl ?_
      have k12 := pq_wt (k := 0) W0 k0_ rfl
      refine pv_getr (T := TX1) (N := 3) C 0 inu_X1_count_1 rfl (by decide) (by decide) (List.mem_of_getElem? (i := 2) rfl) rfl k0_ k12.1 dX1_count_11 ?_
      refine pv_iload_n C 2 dX1_count_14 rfl rfl ?_
      obtain ⟨v13, S14, e15, h⟩ := pq_bs h
      refine pv_calllV C (ci := 7) rfl (by decide) k12.2 [.int x3] (fun sz => r_X7_at W0 k12.2 e15 sz) (cwV 1 C.1.2.2.2.2 gX1_count_X7_at rfl rfl rfl (by decide +kernel) ⟨Nat.le_of_ble_eq_true rfl, Nat.le_of_ble_eq_true rfl⟩) rfl rfl (Nat.le_of_ble_eq_true rfl) dX1_count_15 ⟨Nat.le_of_ble_eq_true rfl, Nat.le_of_ble_eq_true rfl⟩ ?_
      refine pv_lload_n C 1 dX1_count_18 rfl rfl ?_
      refine pv_lcmp C dX1_count_19 ?_
      refine pv_if_eq (tgt := 29) C dX1_count_20 (by decide) (fun c16 => ?_) (fun c16 => ?_)
      · have h := pq_it c16 h
        refine pv_sub [0, 1, 2] rfl ?_
        exact r_X1_count_b29 W0 C hr hlk _ _ _ _ k0_ h
      · have h := pq_if c16 h
        refine pv_iinc (v := (x3 + (1 : Int32))) C 2 [(3, .int (x3 + (1 : Int32))), (0, .ref a0), (1, .long x1)] dX1_count_23 rfl rfl (by decide) rfl ?_
        refine pv_goto (tgt := 2) C dX1_count_26 (by decide) ?_
        refine pv_sub [1, 2, 0] rfl ?_
        exact ih _ _ _ _ k0_ h
set_option maxHeartbeats 4000000 in
set_option maxRecDepth 100000 in
theorem r_X1_count {l : Launch} {D : va_G} {y : pq_Y} {G : pq_G} (W0 : pq_WT G) {S : pq_N} {a0 : Nat} {x1 : Int64} (k0_ : pq_ok G 1 a0) {S1 : pq_N} (h : F_X1_count G S a0 x1 = some ((), S1)) (sz : Nat) : Met l yX1_count wsX1_count ({ frames := 1, cells := 0, slots := 0, locals := 23 } : Room) (pq_P D y G S sz [.ref a0, .long x1]) (pq_Qv D y G sz S1) 0 0 (pq_A G sz) := by
  refine pq_enter RX1 4 (by decide) rfl rfl rfl ?_
  intro p e s m below meth c C hsz hr hlk
  subst hsz
  unfold F_X1_count at h
  refine pv_sub (lo1 := [(0, .ref a0), (1, .long x1)]) [0, 1] rfl ?_
  refine pv_iconst (v := 0) C dX1_count_0 (by decide) ?_
  refine pv_istore_n C [(3, .int (0 : Int32)), (0, .ref a0), (1, .long x1)] dX1_count_1 rfl (by decide) rfl ?_
  refine pv_sub [1, 2, 0] rfl ?_
  exact r_X1_count_b2 W0 C hr hlk pq_fuel _ _ _ _ k0_ h
def F_X9_at (G : pq_G) (S : pq_N) (a0 : Nat) (x1 : Int32) : Option (Nat × pq_N) := (if x1 < (0 : Int32) then some ((pq_r G a0 1), S) else (if x1 < (nI (pq_n G (pq_r G a0 0))) then (if x1 < 0 ∨ pq_n G (pq_r G a0 0) ≤ (Int32.toNatClampNeg x1) then none else some ((pq_r G (pq_r G a0 0) (Int32.toNatClampNeg x1)), S)) else some ((pq_r G a0 1), S)))
theorem o_X9_at {G : pq_G} (W0 : pq_WT G) {S S1 : pq_N} {a0 v : Nat} {x1 : Int32} (k0 : pq_ok G 9 a0) (h : F_X9_at G S a0 x1 = some (v, S1)) : pq_ok G 4 v := by
  unfold F_X9_at at h
  have k1 := pq_wt (k := 1) W0 k0 rfl
  have k2 := pq_wt (k := 0) W0 k0 rfl
  split at h
  · cases h; exact k1.2
  · split at h
    · obtain ⟨g, h⟩ := pq_gd h
      cases h
      exact (pq_wt14 W0 k2.2 (Nat.lt_of_not_le (fun z => g (Or.inr z)))).2
    · cases h; exact k1.2
theorem inu_X9_at_9 : ∀ w ∈ u_ws RX9 TX9 4, w ∈ wsX9_at := pq_inu 3 rfl
set_option maxHeartbeats 4000000 in
set_option maxRecDepth 100000 in
theorem r_X9_at {l : Launch} {D : va_G} {y : pq_Y} {G : pq_G} (W0 : pq_WT G) {S : pq_N} {a0 : Nat} {x1 : Int32} (k0_ : pq_ok G 9 a0) {r : Nat} {S1 : pq_N} (h : F_X9_at G S a0 x1 = some (r, S1)) (sz : Nat) : Met l yX9_at wsX9_at ({ frames := 0, cells := 0, slots := 0, locals := 0 } : Room) (pq_P D y G S sz [.ref a0, .int x1]) (pq_Qr D y G sz r S1) 0 0 (pq_A G sz) := by
  refine pq_enter RX9 3 (by decide) rfl rfl rfl ?_
  intro p e s m below meth c C hsz hr hlk
  subst hsz
  unfold F_X9_at at h
  refine pv_sub (lo1 := [(0, .ref a0), (1, .int x1)]) [0, 1] rfl ?_
  refine pv_iload_n C 1 dX9_at_0 rfl rfl ?_
  refine pv_if_lt (tgt := 13) C dX9_at_1 (by decide) (fun c11 => ?_) (fun c11 => ?_)
  · have h := pq_it c11 h
    refine pv_aload_n C 0 dX9_at_13 rfl rfl ?_
    have k12 := pq_wt (k := 1) W0 k0_ rfl
    refine pv_getr (T := TX9) (N := 4) C 1 inu_X9_at_9 rfl (by decide) (by decide) (List.mem_of_getElem? (i := 2) rfl) rfl k0_ k12.1 dX9_at_14 ?_
    exact pv_aret C hr (Or.inl ⟨_, rfl⟩) hlk h dX9_at_17
  · have h := pq_if c11 h
    refine pv_iload_n C 1 dX9_at_4 rfl rfl ?_
    refine pv_aload_n C 0 dX9_at_5 rfl rfl ?_
    have k13 := pq_wt (k := 0) W0 k0_ rfl
    refine pv_getr (T := TX9) (N := 4) C 0 inu_X9_at_9 rfl (by decide) (by decide) (List.mem_of_getElem? (i := 1) rfl) rfl k0_ k13.1 dX9_at_6 ?_
    refine pv_alen14 C k13.2 dX9_at_9 ?_
    refine pv_icmp_lt (tgt := 18) C dX9_at_10 (by decide) (fun c14 => ?_) (fun c14 => ?_)
    · have h := pq_it c14 h
      refine pv_aload_n C 0 dX9_at_18 rfl rfl ?_
      have k15 := pq_wt (k := 0) W0 k0_ rfl
      refine pv_getr (T := TX9) (N := 4) C 0 inu_X9_at_9 rfl (by decide) (by decide) (List.mem_of_getElem? (i := 1) rfl) rfl k0_ k15.1 dX9_at_19 ?_
      refine pv_iload_n C 1 dX9_at_22 rfl rfl ?_
      obtain ⟨g16, h⟩ := pq_gd h
      have k17 := pq_wt14 W0 k15.2 (Nat.lt_of_not_le (fun z => g16 (Or.inr z)))
      refine pv_aaload14 C k15.2 g16 k17.1 dX9_at_23 ?_
      refine pv_astore_n C [(2, .ref (pq_r G (pq_r G a0 0) (Int32.toNatClampNeg x1))), (0, .ref a0), (1, .int x1)] dX9_at_24 rfl (by decide) rfl ?_
      refine pv_aload_n C 0 dX9_at_25 rfl rfl ?_
      refine pv_ifnonnull (tgt := 36) C dX9_at_26 (by decide) ?_
      refine pv_aload_n C 0 dX9_at_36 rfl rfl ?_
      exact pv_aret C hr (Or.inl ⟨_, rfl⟩) hlk h dX9_at_37
    · have h := pq_if c14 h
      refine pv_aload_n C 0 dX9_at_13 rfl rfl ?_
      have k18 := pq_wt (k := 1) W0 k0_ rfl
      refine pv_getr (T := TX9) (N := 4) C 1 inu_X9_at_9 rfl (by decide) (by decide) (List.mem_of_getElem? (i := 2) rfl) rfl k0_ k18.1 dX9_at_14 ?_
      exact pv_aret C hr (Or.inl ⟨_, rfl⟩) hlk h dX9_at_17
def F_X1_isBefore (G : pq_G) (S : pq_N) (a0 : Nat) (x1 : Int64) (x3 : Int32) (x4 : Int32) : Option (Int32 × pq_N) := (pq_bd (F_X7_number G S (pq_r G a0 1) x4) fun v12 S13 => (if x3 = v12 then (pq_bd (F_X7_at G S13 (pq_r G a0 0) x4) fun v17 S18 => (if (0 : Int32) ≤ (lg_cmp x1 v17) then some ((0 : Int32), S18) else some ((1 : Int32), S18))) else (if x3 ≤ v12 then some ((0 : Int32), S13) else some ((1 : Int32), S13))))
theorem inu_X1_isBefore_1 : ∀ w ∈ u_ws RX1 TX1 3, w ∈ wsX1_isBefore := pq_inu 13 rfl
set_option maxHeartbeats 4000000 in
set_option maxRecDepth 100000 in
theorem r_X1_isBefore {l : Launch} {D : va_G} {y : pq_Y} {G : pq_G} (W0 : pq_WT G) {S : pq_N} {a0 : Nat} {x1 : Int64} {x3 : Int32} {x4 : Int32} (k0_ : pq_ok G 1 a0) {r : Int32} {S1 : pq_N} (h : F_X1_isBefore G S a0 x1 x3 x4 = some (r, S1)) (sz : Nat) : Met l yX1_isBefore wsX1_isBefore ({ frames := 1, cells := 0, slots := 0, locals := 21 } : Room) (pq_P D y G S sz [.ref a0, .long x1, .int x3, .int x4]) (pq_Qi D y G sz r S1) 0 0 (pq_A G sz) := by
  refine pq_enter RX1 6 (by decide) rfl rfl rfl ?_
  intro p e s m below meth c C hsz hr hlk
  subst hsz
  unfold F_X1_isBefore at h
  refine pv_sub (lo1 := [(0, .ref a0), (1, .long x1), (3, .int x3), (4, .int x4)]) [0, 1, 2, 3] rfl ?_
  refine pv_aload_n C 0 dX1_isBefore_0 rfl rfl ?_
  have k11 := pq_wt (k := 1) W0 k0_ rfl
  refine pv_getr (T := TX1) (N := 3) C 1 inu_X1_isBefore_1 rfl (by decide) (by decide) (List.mem_of_getElem? (i := 1) rfl) rfl k0_ k11.1 dX1_isBefore_1 ?_
  refine pv_iload C 3 dX1_isBefore_4 rfl ?_
  obtain ⟨v12, S13, e14, h⟩ := pq_bs h
  refine pv_calliV C (ci := 7) rfl (by decide) k11.2 [.int x4] (fun sz => r_X7_number W0 k11.2 e14 sz) (cwV 1 C.1.2.2.2.2 gX1_isBefore_X7_number rfl rfl rfl (by decide +kernel) ⟨Nat.le_of_ble_eq_true rfl, Nat.le_of_ble_eq_true rfl⟩) rfl rfl (Nat.le_of_ble_eq_true rfl) dX1_isBefore_6 ⟨Nat.le_of_ble_eq_true rfl, Nat.le_of_ble_eq_true rfl⟩ ?_
  refine pv_istore C [(5, .int v12), (0, .ref a0), (1, .long x1), (3, .int x3), (4, .int x4)] dX1_isBefore_9 (by decide) rfl ?_
  refine pv_iload_n C 3 dX1_isBefore_11 rfl rfl ?_
  refine pv_iload C 0 dX1_isBefore_12 rfl ?_
  refine pv_icmp_eq (tgt := 31) C dX1_isBefore_14 (by decide) (fun c15 => ?_) (fun c15 => ?_)
  · have h := pq_it c15 h
    refine pv_lload_n C 2 dX1_isBefore_31 rfl rfl ?_
    refine pv_aload_n C 1 dX1_isBefore_32 rfl rfl ?_
    have k16 := pq_wt (k := 0) W0 k0_ rfl
    refine pv_getr (T := TX1) (N := 3) C 0 inu_X1_isBefore_1 rfl (by decide) (by decide) (List.mem_of_getElem? (i := 2) rfl) rfl k0_ k16.1 dX1_isBefore_33 ?_
    refine pv_iload C 4 dX1_isBefore_36 rfl ?_
    obtain ⟨v17, S18, e19, h⟩ := pq_bs h
    refine pv_calllV C (ci := 7) rfl (by decide) k16.2 [.int x4] (fun sz => r_X7_at W0 k16.2 e19 sz) (cwV 1 C.1.2.2.2.2 gX1_isBefore_X7_at rfl rfl rfl (by decide +kernel) ⟨Nat.le_of_ble_eq_true rfl, Nat.le_of_ble_eq_true rfl⟩) rfl rfl (Nat.le_of_ble_eq_true rfl) dX1_isBefore_38 ⟨Nat.le_of_ble_eq_true rfl, Nat.le_of_ble_eq_true rfl⟩ ?_
    refine pv_lcmp C dX1_isBefore_41 ?_
    refine pv_if_ge (tgt := 49) C dX1_isBefore_42 (by decide) (fun c20 => ?_) (fun c20 => ?_)
    · have h := pq_it c20 h
      refine pv_iconst (v := 0) C dX1_isBefore_49 (by decide) ?_
      exact pv_zret C hr rfl hlk h dX1_isBefore_50
    · have h := pq_if c20 h
      refine pv_iconst (v := 1) C dX1_isBefore_45 (by decide) ?_
      refine pv_goto (tgt := 50) C dX1_isBefore_46 (by decide) ?_
      exact pv_zret C hr rfl hlk h dX1_isBefore_50
  · have h := pq_if c15 h
    refine pv_iload_n C 3 dX1_isBefore_17 rfl rfl ?_
    refine pv_iload C 0 dX1_isBefore_18 rfl ?_
    refine pv_icmp_le (tgt := 27) C dX1_isBefore_20 (by decide) (fun c21 => ?_) (fun c21 => ?_)
    · have h := pq_it c21 h
      refine pv_iconst (v := 0) C dX1_isBefore_27 (by decide) ?_
      refine pv_goto (tgt := 50) C dX1_isBefore_28 (by decide) ?_
      exact pv_zret C hr rfl hlk h dX1_isBefore_50
    · have h := pq_if c21 h
      refine pv_iconst (v := 1) C dX1_isBefore_23 (by decide) ?_
      refine pv_goto (tgt := 50) C dX1_isBefore_24 (by decide) ?_
      exact pv_zret C hr rfl hlk h dX1_isBefore_50
def F_X1_moveForward_b88 (G : pq_G)  (S : pq_N) (a0 : Nat) (x2 : Int64) (x4 : Int32) (x5 : Int32) : Option (Unit × pq_N) := (pq_bd (F_X7_put G S (pq_r G a0 0) x5 x2) fun _ S42 => (pq_bd (F_X7_put G S42 (pq_r G a0 1) x5 (Int32.toInt64 x4)) fun _ S46 => some ((), S46)))
def F_X1_moveForward_b22 (G : pq_G)  : Nat → pq_N → Nat → Int64 → Int32 → Int32 → Option (Unit × pq_N)
  | 0, _, _, _, _, _ => none
  | n + 1, S, a0, x2, x4, x5 => (if x5 ≤ (0 : Int32) then F_X1_moveForward_b88 G S a0 x2 x4 x5 else (pq_bd (F_X1_isBefore G S a0 x2 x4 (x5 - (1 : Int32))) fun v20 S21 => (if v20 = (0 : Int32) then F_X1_moveForward_b88 G S21 a0 x2 x4 x5 else (pq_bd (F_X7_at G S21 (pq_r G a0 0) (x5 - (1 : Int32))) fun v26 S27 => (pq_bd (F_X7_put G S27 (pq_r G a0 0) x5 v26) fun _ S30 => (pq_bd (F_X7_number G S30 (pq_r G a0 1) (x5 - (1 : Int32))) fun v34 S35 => (pq_bd (F_X7_put G S35 (pq_r G a0 1) x5 (Int32.toInt64 v34)) fun _ S38 => (F_X1_moveForward_b22 G n) S38 a0 x2 x4 (x5 + (-1 : Int32)))))))))
def F_X1_moveForward (G : pq_G) (S : pq_N) (a0 : Nat) (x1 : Int32) : Option (Unit × pq_N) := (pq_bd (F_X7_at G S (pq_r G a0 0) x1) fun v12 S13 => (pq_bd (F_X7_number G S13 (pq_r G a0 1) x1) fun v16 S17 => F_X1_moveForward_b22 G pq_fuel S17 a0 v12 v16 x1))
theorem inu_X1_moveForward_1 : ∀ w ∈ u_ws RX1 TX1 3, w ∈ wsX1_moveForward := pq_inu 22 rfl
set_option maxHeartbeats 4000000 in
set_option maxRecDepth 100000 in
theorem r_X1_moveForward_b88 {p : Program} {l : Launch} {e : Env} {s : State} {m : MethodId} {av : Array Value} {below : List Frame} {meth : Method} {c : Code} {D : va_G} {y : pq_Y} {G : pq_G} {S1 : pq_N} (W0 : pq_WT G) (C : pq_C p s m av c D y RX1 wsX1_moveForward cX1_moveForward 6) (hr : meth.sig.returnType = none) (hlk : meth.locks = false) : ∀ (S : pq_N) (a0 : Nat) (x2 : Int64) (x4 : Int32) (x5 : Int32), pq_ok G 1 a0 → F_X1_moveForward_b88 G S a0 x2 x4 x5 = some ((), S1) → pq_V p l e (headSpec wsX1_moveForward ({ frames := 2, cells := 0, slots := 0, locals := 46 } : Room)).room s m av below meth c 0 0 (MQ below (pq_Qv D y G s.heap.size S1) av s 0 0 (pq_A G s.heap.size)) D y 6 (pq_A G s.heap.size) (fun _ => True) G S 88 [(0, .ref a0), (2, .long x2), (4, .int x4), (5, .int x5)] [] := by
  intro S a0 x2 x4 x5 k0_ h
  unfold F_X1_moveForward_b88 at h
  refine pv_aload_n C 0 dX1_moveForward_88 rfl rfl ?_
  have k40 := pq_wt (k := 0) W0 k0_ rfl
  refine pv_getr (T := TX1) (N := 3) C 0 inu_X1_moveForward_1 rfl (by decide) (by decide) (List.mem_of_getElem? (i := 1) rfl) rfl k0_ k40.1 dX1_moveForward_89 ?_
  refine pv_iload C 3 dX1_moveForward_92 rfl ?_
  refine pv_lload_n C 1 dX1_moveForward_94 rfl rfl ?_
  obtain ⟨⟨⟩, S42, e43, h⟩ := pq_bs h
  refine pv_callvV C (ci := 7) rfl (by decide) k40.2 [.int x5, .long x2] (fun sz => r_X7_put W0 k40.2 e43 sz) (cwV 2 C.1.2.2.2.2 gX1_moveForward_X7_put rfl rfl rfl (by decide +kernel) ⟨Nat.le_of_ble_eq_true rfl, Nat.le_of_ble_eq_true rfl⟩) rfl rfl (Nat.le_of_ble_eq_true rfl) dX1_moveForward_95 ⟨Nat.le_of_ble_eq_true rfl, Nat.le_of_ble_eq_true rfl⟩ ?_
  refine pv_aload_n C 0 dX1_moveForward_98 rfl rfl ?_
  have k44 := pq_wt (k := 1) W0 k0_ rfl
  refine pv_getr (T := TX1) (N := 3) C 1 inu_X1_moveForward_1 rfl (by decide) (by decide) (List.mem_of_getElem? (i := 2) rfl) rfl k0_ k44.1 dX1_moveForward_99 ?_
  refine pv_iload C 3 dX1_moveForward_102 rfl ?_
  refine pv_iload C 2 dX1_moveForward_104 rfl ?_
  refine pv_i2l C dX1_moveForward_106 ?_
  obtain ⟨⟨⟩, S46, e47, h⟩ := pq_bs h
  refine pv_callvV C (ci := 7) rfl (by decide) k44.2 [.int x5, .long (Int32.toInt64 x4)] (fun sz => r_X7_put W0 k44.2 e47 sz) (cwV 2 C.1.2.2.2.2 gX1_moveForward_X7_put rfl rfl rfl (by decide +kernel) ⟨Nat.le_of_ble_eq_true rfl, Nat.le_of_ble_eq_true rfl⟩) rfl rfl (Nat.le_of_ble_eq_true rfl) dX1_moveForward_107 ⟨Nat.le_of_ble_eq_true rfl, Nat.le_of_ble_eq_true rfl⟩ ?_
  exact pv_vret C hr hlk h dX1_moveForward_110
set_option maxHeartbeats 4000000 in
set_option maxRecDepth 100000 in
theorem r_X1_moveForward_b22 {p : Program} {l : Launch} {e : Env} {s : State} {m : MethodId} {av : Array Value} {below : List Frame} {meth : Method} {c : Code} {D : va_G} {y : pq_Y} {G : pq_G} {S1 : pq_N} (W0 : pq_WT G) (C : pq_C p s m av c D y RX1 wsX1_moveForward cX1_moveForward 6) (hr : meth.sig.returnType = none) (hlk : meth.locks = false) (n : Nat) : ∀ (S : pq_N) (a0 : Nat) (x2 : Int64) (x4 : Int32) (x5 : Int32), pq_ok G 1 a0 → F_X1_moveForward_b22 G n S a0 x2 x4 x5 = some ((), S1) → pq_V p l e (headSpec wsX1_moveForward ({ frames := 2, cells := 0, slots := 0, locals := 46 } : Room)).room s m av below meth c 0 0 (MQ below (pq_Qv D y G s.heap.size S1) av s 0 0 (pq_A G s.heap.size)) D y 6 (pq_A G s.heap.size) (fun _ => True) G S 22 [(0, .ref a0), (2, .long x2), (4, .int x4), (5, .int x5)] [] := by
  induction n with
  | zero =>
    intro S a0 x2 x4 x5 k0_ h
    rw [F_X1_moveForward_b22.eq_1] at h; cases h
  | succ n ih =>
    intro S a0 x2 x4 x5 k0_ h
    rw [F_X1_moveForward_b22.eq_2] at h
    refine pv_iload C 3 dX1_moveForward_22 rfl ?_
    refine pv_if_le (tgt := 88) C dX1_moveForward_24 (by decide) (fun c19 => ?_) (fun c19 => ?_)
    · have h := pq_it c19 h
      refine pv_sub [0, 1, 2, 3] rfl ?_
      exact r_X1_moveForward_b88 W0 C hr hlk _ _ _ _ _ k0_ h
    · have h := pq_if c19 h
      refine pv_aload_n C 0 dX1_moveForward_27 rfl rfl ?_
      refine pv_lload_n C 1 dX1_moveForward_28 rfl rfl ?_
      refine pv_iload C 2 dX1_moveForward_29 rfl ?_
      refine pv_iload C 3 dX1_moveForward_31 rfl ?_
      refine pv_iconst (v := 1) C dX1_moveForward_33 (by decide) ?_
      refine pv_isub C dX1_moveForward_34 ?_
      obtain ⟨v20, S21, e22, h⟩ := pq_bs h
      refine pv_calliV C (ci := 1) rfl (by decide) k0_ [.long x2, .int x4, .int (x5 - (1 : Int32))] (fun sz => r_X1_isBefore W0 k0_ e22 sz) (cwV 3 C.1.2.2.2.2 gX1_moveForward_X1_isBefore rfl rfl rfl (by decide +kernel) ⟨Nat.le_of_ble_eq_true rfl, Nat.le_of_ble_eq_true rfl⟩) rfl rfl (Nat.le_of_ble_eq_true rfl) dX1_moveForward_35 ⟨Nat.le_of_ble_eq_true rfl, Nat.le_of_ble_eq_true rfl⟩ ?_
      refine pv_if_eq (tgt := 88) C dX1_moveForward_38 (by decide) (fun c23 => ?_) (fun c23 => ?_)
      · have h := pq_it c23 h
        refine pv_sub [0, 1, 2, 3] rfl ?_
        exact r_X1_moveForward_b88 W0 C hr hlk _ _ _ _ _ k0_ h
      · have h := pq_if c23 h
        refine pv_aload_n C 0 dX1_moveForward_41 rfl rfl ?_
        have k24 := pq_wt (k := 0) W0 k0_ rfl
        refine pv_getr (T := TX1) (N := 3) C 0 inu_X1_moveForward_1 rfl (by decide) (by decide) (List.mem_of_getElem? (i := 1) rfl) rfl k0_ k24.1 dX1_moveForward_42 ?_
        refine pv_iload C 3 dX1_moveForward_45 rfl ?_
        refine pv_aload_n C 0 dX1_moveForward_47 rfl rfl ?_
        have k25 := pq_wt (k := 0) W0 k0_ rfl
        refine pv_getr (T := TX1) (N := 3) C 0 inu_X1_moveForward_1 rfl (by decide) (by decide) (List.mem_of_getElem? (i := 1) rfl) rfl k0_ k25.1 dX1_moveForward_48 ?_
        refine pv_iload C 3 dX1_moveForward_51 rfl ?_
        refine pv_iconst (v := 1) C dX1_moveForward_53 (by decide) ?_
        refine pv_isub C dX1_moveForward_54 ?_
        obtain ⟨v26, S27, e28, h⟩ := pq_bs h
        refine pv_calllV C (ci := 7) rfl (by decide) k25.2 [.int (x5 - (1 : Int32))] (fun sz => r_X7_at W0 k25.2 e28 sz) (cwV 1 C.1.2.2.2.2 gX1_moveForward_X7_at rfl rfl rfl (by decide +kernel) ⟨Nat.le_of_ble_eq_true rfl, Nat.le_of_ble_eq_true rfl⟩) rfl rfl (Nat.le_of_ble_eq_true rfl) dX1_moveForward_55 ⟨Nat.le_of_ble_eq_true rfl, Nat.le_of_ble_eq_true rfl⟩ ?_
        obtain ⟨⟨⟩, S30, e31, h⟩ := pq_bs h
        refine pv_callvV C (ci := 7) rfl (by decide) k24.2 [.int x5, .long v26] (fun sz => r_X7_put W0 k24.2 e31 sz) (cwV 2 C.1.2.2.2.2 gX1_moveForward_X7_put rfl rfl rfl (by decide +kernel) ⟨Nat.le_of_ble_eq_true rfl, Nat.le_of_ble_eq_true rfl⟩) rfl rfl (Nat.le_of_ble_eq_true rfl) dX1_moveForward_58 ⟨Nat.le_of_ble_eq_true rfl, Nat.le_of_ble_eq_true rfl⟩ ?_
        refine pv_aload_n C 0 dX1_moveForward_61 rfl rfl ?_
        have k32 := pq_wt (k := 1) W0 k0_ rfl
        refine pv_getr (T := TX1) (N := 3) C 1 inu_X1_moveForward_1 rfl (by decide) (by decide) (List.mem_of_getElem? (i := 2) rfl) rfl k0_ k32.1 dX1_moveForward_62 ?_
        refine pv_iload C 3 dX1_moveForward_65 rfl ?_
        refine pv_aload_n C 0 dX1_moveForward_67 rfl rfl ?_
        have k33 := pq_wt (k := 1) W0 k0_ rfl
        refine pv_getr (T := TX1) (N := 3) C 1 inu_X1_moveForward_1 rfl (by decide) (by decide) (List.mem_of_getElem? (i := 2) rfl) rfl k0_ k33.1 dX1_moveForward_68 ?_
        refine pv_iload C 3 dX1_moveForward_71 rfl ?_
        refine pv_iconst (v := 1) C dX1_moveForward_73 (by decide) ?_
        refine pv_isub C dX1_moveForward_74 ?_
        obtain ⟨v34, S35, e36, h⟩ := pq_bs h
        refine pv_calliV C (ci := 7) rfl (by decide) k33.2 [.int (x5 - (1 : Int32))] (fun sz => r_X7_number W0 k33.2 e36 sz) (cwV 1 C.1.2.2.2.2 gX1_moveForward_X7_number rfl rfl rfl (by decide +kernel) ⟨Nat.le_of_ble_eq_true rfl, Nat.le_of_ble_eq_true rfl⟩) rfl rfl (Nat.le_of_ble_eq_true rfl) dX1_moveForward_75 ⟨Nat.le_of_ble_eq_true rfl, Nat.le_of_ble_eq_true rfl⟩ ?_
        refine pv_i2l C dX1_moveForward_78 ?_
        obtain ⟨⟨⟩, S38, e39, h⟩ := pq_bs h
        refine pv_callvV C (ci := 7) rfl (by decide) k32.2 [.int x5, .long (Int32.toInt64 v34)] (fun sz => r_X7_put W0 k32.2 e39 sz) (cwV 2 C.1.2.2.2.2 gX1_moveForward_X7_put rfl rfl rfl (by decide +kernel) ⟨Nat.le_of_ble_eq_true rfl, Nat.le_of_ble_eq_true rfl⟩) rfl rfl (Nat.le_of_ble_eq_true rfl) dX1_moveForward_79 ⟨Nat.le_of_ble_eq_true rfl, Nat.le_of_ble_eq_true rfl⟩ ?_
        refine pv_iinc (v := (x5 + (-1 : Int32))) C 3 [(5, .int (x5 + (-1 : Int32))), (0, .ref a0), (2, .long x2), (4, .int x4)] dX1_moveForward_82 rfl rfl (by decide) rfl ?_
        refine pv_goto (tgt := 22) C dX1_moveForward_85 (by decide) ?_
        refine pv_sub [1, 2, 3, 0] rfl ?_
        exact ih _ _ _ _ _ k0_ h
set_option maxHeartbeats 4000000 in
set_option maxRecDepth 100000 in
theorem r_X1_moveForward {l : Launch} {D : va_G} {y : pq_Y} {G : pq_G} (W0 : pq_WT G) {S : pq_N} {a0 : Nat} {x1 : Int32} (k0_ : pq_ok G 1 a0) {S1 : pq_N} (h : F_X1_moveForward G S a0 x1 = some ((), S1)) (sz : Nat) : Met l yX1_moveForward wsX1_moveForward ({ frames := 2, cells := 0, slots := 0, locals := 46 } : Room) (pq_P D y G S sz [.ref a0, .int x1]) (pq_Qv D y G sz S1) 0 0 (pq_A G sz) := by
  refine pq_enter RX1 6 (by decide) rfl rfl rfl ?_
  intro p e s m below meth c C hsz hr hlk
  subst hsz
  unfold F_X1_moveForward at h
  refine pv_sub (lo1 := [(0, .ref a0), (1, .int x1)]) [0, 1] rfl ?_
  refine pv_aload_n C 0 dX1_moveForward_0 rfl rfl ?_
  have k11 := pq_wt (k := 0) W0 k0_ rfl
  refine pv_getr (T := TX1) (N := 3) C 0 inu_X1_moveForward_1 rfl (by decide) (by decide) (List.mem_of_getElem? (i := 1) rfl) rfl k0_ k11.1 dX1_moveForward_1 ?_
  refine pv_iload_n C 1 dX1_moveForward_4 rfl rfl ?_
  obtain ⟨v12, S13, e14, h⟩ := pq_bs h
  refine pv_calllV C (ci := 7) rfl (by decide) k11.2 [.int x1] (fun sz => r_X7_at W0 k11.2 e14 sz) (cwV 1 C.1.2.2.2.2 gX1_moveForward_X7_at rfl rfl rfl (by decide +kernel) ⟨Nat.le_of_ble_eq_true rfl, Nat.le_of_ble_eq_true rfl⟩) rfl rfl (Nat.le_of_ble_eq_true rfl) dX1_moveForward_5 ⟨Nat.le_of_ble_eq_true rfl, Nat.le_of_ble_eq_true rfl⟩ ?_
  refine pv_lstore_n C [(2, .long v12), (0, .ref a0), (1, .int x1)] dX1_moveForward_8 rfl (by decide) rfl ?_
  refine pv_aload_n C 1 dX1_moveForward_9 rfl rfl ?_
  have k15 := pq_wt (k := 1) W0 k0_ rfl
  refine pv_getr (T := TX1) (N := 3) C 1 inu_X1_moveForward_1 rfl (by decide) (by decide) (List.mem_of_getElem? (i := 2) rfl) rfl k0_ k15.1 dX1_moveForward_10 ?_
  refine pv_iload_n C 2 dX1_moveForward_13 rfl rfl ?_
  obtain ⟨v16, S17, e18, h⟩ := pq_bs h
  refine pv_calliV C (ci := 7) rfl (by decide) k15.2 [.int x1] (fun sz => r_X7_number W0 k15.2 e18 sz) (cwV 1 C.1.2.2.2.2 gX1_moveForward_X7_number rfl rfl rfl (by decide +kernel) ⟨Nat.le_of_ble_eq_true rfl, Nat.le_of_ble_eq_true rfl⟩) rfl rfl (Nat.le_of_ble_eq_true rfl) dX1_moveForward_14 ⟨Nat.le_of_ble_eq_true rfl, Nat.le_of_ble_eq_true rfl⟩ ?_
  refine pv_istore C [(4, .int v16), (2, .long v12), (0, .ref a0), (1, .int x1)] dX1_moveForward_17 (by decide) rfl ?_
  refine pv_iload_n C 3 dX1_moveForward_19 rfl rfl ?_
  refine pv_istore C [(5, .int x1), (4, .int v16), (2, .long v12), (0, .ref a0), (1, .int x1)] dX1_moveForward_20 (by decide) rfl ?_
  refine pv_sub [3, 2, 1, 0] rfl ?_
  exact r_X1_moveForward_b22 W0 C hr hlk pq_fuel _ _ _ _ _ k0_ h
def F_X1_gather_b24 (G : pq_G) (c7 : pq_N → Nat → Nat → Int32 → Option (Unit × pq_N)) : Nat → pq_N → Nat → Nat → Int32 → Nat → Int32 → Option (Unit × pq_N)
  | 0, _, _, _, _, _, _ => none
  | n + 1, S, a0, a1, x2, a3, x4 => (if (S.1 a3 6) ≤ x4 then c7 S a0 a1 (x2 + (1 : Int32)) else (pq_bd (F_X7_at G S (pq_r G a3 0) x4) fun v24 S25 => (pq_bd (F_X1_count G S25 a0 v24) fun _ S28 => (F_X1_gather_b24 G c7 n) S28 a0 a1 x2 a3 (x4 + (1 : Int32)))))
def F_X1_gather_b60 (G : pq_G)  : Nat → pq_N → Nat → Int32 → Option (Unit × pq_N)
  | 0, _, _, _ => none
  | n + 1, S, a0, x2 => (if (S.1 a0 2) ≤ x2 then some ((), S) else (pq_bd (F_X1_moveForward G S a0 x2) fun _ S20 => (F_X1_gather_b60 G n) S20 a0 (x2 + (1 : Int32))))
def F_X1_gather_b7 (G : pq_G)  : Nat → pq_N → Nat → Nat → Int32 → Option (Unit × pq_N)
  | 0, _, _, _, _ => none
  | n + 1, S, a0, a1, x2 => (if (S.1 a1 2) ≤ x2 then F_X1_gather_b60 G pq_fuel S a0 (1 : Int32) else (pq_bd (F_X9_at G S a1 x2) fun v14 S15 => F_X1_gather_b24 G ((F_X1_gather_b7 G n)) pq_fuel S15 a0 a1 x2 v14 (0 : Int32)))
def F_X1_gather (G : pq_G) (S : pq_N) (a0 : Nat) (a1 : Nat) : Option (Unit × pq_N) := (pq_lt (pq_wi S a0 2 (0 : Int32)) fun S11 => F_X1_gather_b7 G pq_fuel S11 a0 a1 (0 : Int32))
theorem inu_X1_gather_1 : ∀ w ∈ u_ws RX1 TX1 3, w ∈ wsX1_gather := pq_inu 38 rfl
theorem inu_X1_gather_4 : ∀ w ∈ u_ws RX4 TX4 8, w ∈ wsX1_gather := pq_inu 45 rfl
theorem inu_X1_gather_9 : ∀ w ∈ u_ws RX9 TX9 4, w ∈ wsX1_gather := pq_inu 41 rfl
set_option maxHeartbeats 4000000 in
set_option maxRecDepth 100000 in
theorem r_X1_gather_b24 {p : Program} {l : Launch} {e : Env} {s : State} {m : MethodId} {av : Array Value} {below : List Frame} {meth : Method} {c : Code} {D : va_G} {y : pq_Y} {G : pq_G} {S1 : pq_N} (W0 : pq_WT G) (C : pq_C p s m av c D y RX1 wsX1_gather cX1_gather 5) (hr : meth.sig.returnType = none) (hlk : meth.locks = false) {c7 : pq_N → Nat → Nat → Int32 → Option (Unit × pq_N)} (hk7 : ∀ (S : pq_N) (a0 : Nat) (a1 : Nat) (x2 : Int32), pq_ok G 1 a0 → pq_ok G 9 a1 → c7 S a0 a1 x2 = some ((), S1) → pq_V p l e (headSpec wsX1_gather ({ frames := 3, cells := 0, slots := 0, locals := 71 } : Room)).room s m av below meth c 0 0 (MQ below (pq_Qv D y G s.heap.size S1) av s 0 0 (pq_A G s.heap.size)) D y 5 (pq_A G s.heap.size) (fun _ => True) G S 7 [(0, .ref a0), (1, .ref a1), (2, .int x2)] []) (n : Nat) : ∀ (S : pq_N) (a0 : Nat) (a1 : Nat) (x2 : Int32) (a3 : Nat) (x4 : Int32), pq_ok G 1 a0 → pq_ok G 9 a1 → pq_ok G 4 a3 → F_X1_gather_b24 G c7 n S a0 a1 x2 a3 x4 = some ((), S1) → pq_V p l e (headSpec wsX1_gather ({ frames := 3, cells := 0, slots := 0, locals := 71 } : Room)).room s m av below meth c 0 0 (MQ below (pq_Qv D y G s.heap.size S1) av s 0 0 (pq_A G s.heap.size)) D y 5 (pq_A G s.heap.size) (fun _ => True) G S 24 [(0, .ref a0), (1, .ref a1), (2, .int x2), (3, .ref a3), (4, .int x4)] [] := by
  induction n with
  | zero =>
    intro S a0 a1 x2 a3 x4 k0_ k1_ k3_ h
    rw [F_X1_gather_b24.eq_1] at h; cases h
  | succ n ih =>
    intro S a0 a1 x2 a3 x4 k0_ k1_ k3_ h
    rw [F_X1_gather_b24.eq_2] at h
    refine pv_iload C 4 dX1_gather_24 rfl ?_
    refine pv_aload_n C 3 dX1_gather_26 rfl rfl ?_
    refine pv_getiN (T := TX4) (N := 8) C 6 inu_X1_gather_4 rfl (by decide) (by decide) (List.mem_of_getElem? (i := 18) rfl) rfl k3_ dX1_gather_27 ?_
    refine pv_icmp_ge (tgt := 52) C dX1_gather_30 (by decide) (fun c22 => ?_) (fun c22 => ?_)
    · have h := pq_it c22 h
      refine pv_iinc (v := (x2 + (1 : Int32))) C 2 [(2, .int (x2 + (1 : Int32))), (0, .ref a0), (1, .ref a1), (3, .ref a3), (4, .int x4)] dX1_gather_52 rfl rfl (by decide) rfl ?_
      refine pv_goto (tgt := 7) C dX1_gather_55 (by decide) ?_
      refine pv_sub [1, 2, 0] rfl ?_
      exact hk7 _ _ _ _ k0_ k1_ h
    · have h := pq_if c22 h
      refine pv_aload_n C 0 dX1_gather_33 rfl rfl ?_
      refine pv_aload_n C 3 dX1_gather_34 rfl rfl ?_
      have k23 := pq_wt (k := 0) W0 k3_ rfl
      refine pv_getrN (T := TX4) (N := 8) C 0 inu_X1_gather_4 rfl (by decide) (by decide) (List.mem_of_getElem? (i := 0) rfl) rfl k3_ k23.1 dX1_gather_35 ?_
      refine pv_iload C 4 dX1_gather_38 rfl ?_
      obtain ⟨v24, S25, e26, h⟩ := pq_bs h
      refine pv_calllV C (ci := 7) rfl (by decide) k23.2 [.int x4] (fun sz => r_X7_at W0 k23.2 e26 sz) (cwV 1 C.1.2.2.2.2 gX1_gather_X7_at rfl rfl rfl (by decide +kernel) ⟨Nat.le_of_ble_eq_true rfl, Nat.le_of_ble_eq_true rfl⟩) rfl rfl (Nat.le_of_ble_eq_true rfl) dX1_gather_40 ⟨Nat.le_of_ble_eq_true rfl, Nat.le_of_ble_eq_true rfl⟩ ?_
      obtain ⟨⟨⟩, S28, e29, h⟩ := pq_bs h
      refine pv_callvV C (ci := 1) rfl (by decide) k0_ [.long v24] (fun sz => r_X1_count W0 k0_ e29 sz) (cwV 1 C.1.2.2.2.2 gX1_gather_X1_count rfl rfl rfl (by decide +kernel) ⟨Nat.le_of_ble_eq_true rfl, Nat.le_of_ble_eq_true rfl⟩) rfl rfl (Nat.le_of_ble_eq_true rfl) dX1_gather_43 ⟨Nat.le_of_ble_eq_true rfl, Nat.le_of_ble_eq_true rfl⟩ ?_
      refine pv_iinc (v := (x4 + (1 : Int32))) C 4 [(4, .int (x4 + (1 : Int32))), (0, .ref a0), (1, .ref a1), (2, .int x2), (3, .ref a3)] dX1_gather_46 rfl rfl (by decide) rfl ?_
      refine pv_goto (tgt := 24) C dX1_gather_49 (by decide) ?_
      refine pv_sub [1, 2, 3, 4, 0] rfl ?_
      exact ih _ _ _ _ _ _ k0_ k1_ k3_ h
set_option maxHeartbeats 4000000 in
set_option maxRecDepth 100000 in
theorem r_X1_gather_b60 {p : Program} {l : Launch} {e : Env} {s : State} {m : MethodId} {av : Array Value} {below : List Frame} {meth : Method} {c : Code} {D : va_G} {y : pq_Y} {G : pq_G} {S1 : pq_N} (W0 : pq_WT G) (C : pq_C p s m av c D y RX1 wsX1_gather cX1_gather 5) (hr : meth.sig.returnType = none) (hlk : meth.locks = false) (n : Nat) : ∀ (S : pq_N) (a0 : Nat) (x2 : Int32), pq_ok G 1 a0 → F_X1_gather_b60 G n S a0 x2 = some ((), S1) → pq_V p l e (headSpec wsX1_gather ({ frames := 3, cells := 0, slots := 0, locals := 71 } : Room)).room s m av below meth c 0 0 (MQ below (pq_Qv D y G s.heap.size S1) av s 0 0 (pq_A G s.heap.size)) D y 5 (pq_A G s.heap.size) (fun _ => True) G S 60 [(0, .ref a0), (2, .int x2)] [] := by
  induction n with
  | zero =>
    intro S a0 x2 k0_ h
    rw [F_X1_gather_b60.eq_1] at h; cases h
  | succ n ih =>
    intro S a0 x2 k0_ h
    rw [F_X1_gather_b60.eq_2] at h
    refine pv_iload_n C 1 dX1_gather_60 rfl rfl ?_
    refine pv_aload_n C 0 dX1_gather_61 rfl rfl ?_
    refine pv_geti (T := TX1) (N := 3) C 2 inu_X1_gather_1 rfl (by decide) (by decide) (List.mem_of_getElem? (i := 1) rfl) rfl k0_ dX1_gather_62 ?_
    refine pv_icmp_ge (tgt := 79) C dX1_gather_65 (by decide) (fun c18 => ?_) (fun c18 => ?_)
    · have h := pq_it c18 h
      exact pv_vret C hr hlk h dX1_gather_79
    · have h := pq_if c18 h
      refine pv_aload_n C 0 dX1_gather_68 rfl rfl ?_
      refine pv_iload_n C 1 dX1_gather_69 rfl rfl ?_
      obtain ⟨⟨⟩, S20, e21, h⟩ := pq_bs h
      refine pv_callvV C (ci := 1) rfl (by decide) k0_ [.int x2] (fun sz => r_X1_moveForward W0 k0_ e21 sz) (cwV 1 C.1.2.2.2.2 gX1_gather_X1_moveForward rfl rfl rfl (by decide +kernel) ⟨Nat.le_of_ble_eq_true rfl, Nat.le_of_ble_eq_true rfl⟩) rfl rfl (Nat.le_of_ble_eq_true rfl) dX1_gather_70 ⟨Nat.le_of_ble_eq_true rfl, Nat.le_of_ble_eq_true rfl⟩ ?_
      refine pv_iinc (v := (x2 + (1 : Int32))) C 1 [(2, .int (x2 + (1 : Int32))), (0, .ref a0)] dX1_gather_73 rfl rfl (by decide) rfl ?_
      refine pv_goto (tgt := 60) C dX1_gather_76 (by decide) ?_
      refine pv_sub [1, 0] rfl ?_
      exact ih _ _ _ k0_ h
set_option maxHeartbeats 4000000 in
set_option maxRecDepth 100000 in
theorem r_X1_gather_b7 {p : Program} {l : Launch} {e : Env} {s : State} {m : MethodId} {av : Array Value} {below : List Frame} {meth : Method} {c : Code} {D : va_G} {y : pq_Y} {G : pq_G} {S1 : pq_N} (W0 : pq_WT G) (C : pq_C p s m av c D y RX1 wsX1_gather cX1_gather 5) (hr : meth.sig.returnType = none) (hlk : meth.locks = false) (n : Nat) : ∀ (S : pq_N) (a0 : Nat) (a1 : Nat) (x2 : Int32), pq_ok G 1 a0 → pq_ok G 9 a1 → F_X1_gather_b7 G n S a0 a1 x2 = some ((), S1) → pq_V p l e (headSpec wsX1_gather ({ frames := 3, cells := 0, slots := 0, locals := 71 } : Room)).room s m av below meth c 0 0 (MQ below (pq_Qv D y G s.heap.size S1) av s 0 0 (pq_A G s.heap.size)) D y 5 (pq_A G s.heap.size) (fun _ => True) G S 7 [(0, .ref a0), (1, .ref a1), (2, .int x2)] [] := by
  induction n with
  | zero =>
    intro S a0 a1 x2 k0_ k1_ h
    rw [F_X1_gather_b7.eq_1] at h; cases h
  | succ n ih =>
    intro S a0 a1 x2 k0_ k1_ h
    rw [F_X1_gather_b7.eq_2] at h
    refine pv_iload_n C 2 dX1_gather_7 rfl rfl ?_
    refine pv_aload_n C 1 dX1_gather_8 rfl rfl ?_
    refine pv_getiN (T := TX9) (N := 4) C 2 inu_X1_gather_9 rfl (by decide) (by decide) (List.mem_of_getElem? (i := 28) rfl) rfl k1_ dX1_gather_9 ?_
    refine pv_icmp_ge (tgt := 58) C dX1_gather_12 (by decide) (fun c13 => ?_) (fun c13 => ?_)
    · have h := pq_it c13 h
      refine pv_iconst (v := 1) C dX1_gather_58 (by decide) ?_
      refine pv_istore_n C [(2, .int (1 : Int32)), (0, .ref a0), (1, .ref a1)] dX1_gather_59 rfl (by decide) rfl ?_
      refine pv_sub [1, 0] rfl ?_
      exact r_X1_gather_b60 W0 C hr hlk pq_fuel _ _ _ k0_ h
    · have h := pq_if c13 h
      refine pv_aload_n C 1 dX1_gather_15 rfl rfl ?_
      refine pv_iload_n C 2 dX1_gather_16 rfl rfl ?_
      obtain ⟨v14, S15, e16, h⟩ := pq_bs h
      have k17 := o_X9_at W0 k1_ e16
      refine pv_callrV C (ci := 9) rfl (by decide) k1_ [.int x2] (fun sz => r_X9_at W0 k1_ e16 sz) (cwV 1 C.1.2.2.2.2 gX1_gather_X9_at rfl rfl rfl (by decide +kernel) ⟨Nat.le_of_ble_eq_true rfl, Nat.le_of_ble_eq_true rfl⟩) rfl rfl (Nat.le_of_ble_eq_true rfl) dX1_gather_17 ⟨Nat.le_of_ble_eq_true rfl, Nat.le_of_ble_eq_true rfl⟩ ?_
      refine pv_astore_n C [(3, .ref v14), (0, .ref a0), (1, .ref a1), (2, .int x2)] dX1_gather_20 rfl (by decide) rfl ?_
      refine pv_iconst (v := 0) C dX1_gather_21 (by decide) ?_
      refine pv_istore C [(4, .int (0 : Int32)), (3, .ref v14), (0, .ref a0), (1, .ref a1), (2, .int x2)] dX1_gather_22 (by decide) rfl ?_
      refine pv_sub [2, 3, 4, 1, 0] rfl ?_
      exact r_X1_gather_b24 W0 C hr hlk ih pq_fuel _ _ _ _ _ _ k0_ k1_ k17 h
set_option maxHeartbeats 4000000 in
set_option maxRecDepth 100000 in
theorem r_X1_gather {l : Launch} {D : va_G} {y : pq_Y} {G : pq_G} (W0 : pq_WT G) {S : pq_N} {a0 : Nat} {a1 : Nat} (k0_ : pq_ok G 1 a0) (k1_ : pq_ok G 9 a1) {S1 : pq_N} (h : F_X1_gather G S a0 a1 = some ((), S1)) (sz : Nat) : Met l yX1_gather wsX1_gather ({ frames := 3, cells := 0, slots := 0, locals := 71 } : Room) (pq_P D y G S sz [.ref a0, .ref a1]) (pq_Qv D y G sz S1) 0 0 (pq_A G sz) := by
  refine pq_enter RX1 5 (by decide) rfl rfl rfl ?_
  intro p e s m below meth c C hsz hr hlk
  subst hsz
  unfold F_X1_gather at h
  refine pv_sub (lo1 := [(0, .ref a0), (1, .ref a1)]) [0, 1] rfl ?_
  refine pv_aload_n C 0 dX1_gather_0 rfl rfl ?_
  refine pv_iconst (v := 0) C dX1_gather_1 (by decide) ?_
  refine pv_put (T := TX1) (N := 3) (ty := .int) C 2 inu_X1_gather_1 rfl (by decide) tyX1 tyX1_ok nmX1 (by decide) (List.mem_of_getElem? (i := 1) rfl) rfl k0_ rfl (by decide +kernel) rfl rfl dX1_gather_2 ?_
  refine pv_nm (fun S11 e12 => ?_)
  have h := pq_ls e12 h
  refine pv_iconst (v := 0) C dX1_gather_5 (by decide) ?_
  refine pv_istore_n C [(2, .int (0 : Int32)), (0, .ref a0), (1, .ref a1)] dX1_gather_6 rfl (by decide) rfl ?_
  refine pv_sub [1, 2, 0] rfl ?_
  exact r_X1_gather_b7 W0 C hr hlk pq_fuel _ _ _ _ k0_ k1_ h
def F_X2_slot (G : pq_G) (S : pq_N) (a0 : Nat) (x1 : Int32) : Option (Nat × pq_N) := (pq_lt (((S.1 a0 3) + x1) - ((S.1 a0 3) + x1) / (5 : Int32) * (5 : Int32)) fun i11 => (if i11 < (0 : Int32) then none else (if (nI (pq_n G (pq_r G a0 0))) ≤ i11 then none else (if i11 < 0 ∨ pq_n G (pq_r G a0 0) ≤ (Int32.toNatClampNeg i11) then none else some ((pq_r G (pq_r G a0 0) (Int32.toNatClampNeg i11)), S)))))
theorem o_X2_slot {G : pq_G} (W0 : pq_WT G) {S S1 : pq_N} {a0 v : Nat} {x1 : Int32} (k0 : pq_ok G 2 a0) (h : F_X2_slot G S a0 x1 = some (v, S1)) : pq_ok G 9 v := by
  have k2 := pq_wt (k := 0) W0 k0 rfl
  simp only [F_X2_slot, pq_lt] at h
  obtain ⟨g1, h⟩ := pq_gd h
  obtain ⟨g2, h⟩ := pq_gd h
  obtain ⟨g3, h⟩ := pq_gd h
  cases h
  exact (pq_wt15 W0 k2.2 (Nat.lt_of_not_le (fun z => g3 (Or.inr z)))).2
theorem inu_X2_slot_2 : ∀ w ∈ u_ws RX2 TX2 5, w ∈ wsX2_slot := pq_inu 3 rfl
set_option maxHeartbeats 4000000 in
set_option maxRecDepth 100000 in
theorem r_X2_slot {l : Launch} {D : va_G} {y : pq_Y} {G : pq_G} (W0 : pq_WT G) {S : pq_N} {a0 : Nat} {x1 : Int32} (k0_ : pq_ok G 2 a0) {r : Nat} {S1 : pq_N} (h : F_X2_slot G S a0 x1 = some (r, S1)) (sz : Nat) : Met l yX2_slot wsX2_slot ({ frames := 0, cells := 0, slots := 0, locals := 0 } : Room) (pq_P D y G S sz [.ref a0, .int x1]) (pq_Qr D y G sz r S1) 0 0 (pq_A G sz) := by
  refine pq_enter RX2 3 (by decide) rfl rfl rfl ?_
  intro p e s m below meth c C hsz hr hlk
  subst hsz
  unfold F_X2_slot at h
  refine pv_sub (lo1 := [(0, .ref a0), (1, .int x1)]) [0, 1] rfl ?_
  refine pv_aload_n C 0 dX2_slot_0 rfl rfl ?_
  refine pv_geti (T := TX2) (N := 5) C 3 inu_X2_slot_2 rfl (by decide) (by decide) (List.mem_of_getElem? (i := 1) rfl) rfl k0_ dX2_slot_1 ?_
  refine pv_iload_n C 1 dX2_slot_4 rfl rfl ?_
  refine pv_iadd C dX2_slot_5 ?_
  refine pv_iconst (v := 5) C dX2_slot_6 (by decide) ?_
  refine pv_irem C dX2_slot_7 (by decide) ?_
  refine pv_nmi (fun i11 e12 => ?_)
  have h := pq_ls e12 h
  refine pv_istore_n C [(2, .int i11), (0, .ref a0), (1, .int x1)] dX2_slot_8 rfl (by decide) rfl ?_
  refine pv_iload_n C 0 dX2_slot_9 rfl rfl ?_
  refine pv_if_lt (tgt := 31) C dX2_slot_10 (by decide) (fun c13 => ?_) (fun c13 => ?_)
  · have h := pq_it c13 h
    cases h
  · have h := pq_if c13 h
    refine pv_iload_n C 0 dX2_slot_13 rfl rfl ?_
    refine pv_aload_n C 1 dX2_slot_14 rfl rfl ?_
    have k14 := pq_wt (k := 0) W0 k0_ rfl
    refine pv_getr (T := TX2) (N := 5) C 0 inu_X2_slot_2 rfl (by decide) (by decide) (List.mem_of_getElem? (i := 2) rfl) rfl k0_ k14.1 dX2_slot_15 ?_
    refine pv_alen15 C k14.2 dX2_slot_18 ?_
    refine pv_icmp_ge (tgt := 31) C dX2_slot_19 (by decide) (fun c15 => ?_) (fun c15 => ?_)
    · have h := pq_it c15 h
      cases h
    · have h := pq_if c15 h
      refine pv_aload_n C 1 dX2_slot_22 rfl rfl ?_
      have k16 := pq_wt (k := 0) W0 k0_ rfl
      refine pv_getr (T := TX2) (N := 5) C 0 inu_X2_slot_2 rfl (by decide) (by decide) (List.mem_of_getElem? (i := 2) rfl) rfl k0_ k16.1 dX2_slot_23 ?_
      refine pv_iload_n C 0 dX2_slot_26 rfl rfl ?_
      obtain ⟨g17, h⟩ := pq_gd h
      have k18 := pq_wt15 W0 k16.2 (Nat.lt_of_not_le (fun z => g17 (Or.inr z)))
      refine pv_aaload15 C k16.2 g17 k18.1 dX2_slot_27 ?_
      refine pv_goto (tgt := 32) C dX2_slot_28 (by decide) ?_
      exact pv_aret C hr (Or.inl ⟨_, rfl⟩) hlk h dX2_slot_32
def F_X7_copy (G : pq_G) (S : pq_N) (a0 : Nat) (a1 : Nat) (x2 : Int32) : Option (Unit × pq_N) := (if x2 ≤ (0 : Int32) then some ((), S) else (if (nI (pq_n G (pq_r G a0 0))) < x2 then some ((), S) else (if (nI (pq_n G (pq_r G a1 0))) < x2 then some ((), S) else (if (0 : Int32) < 0 then none else (if (0 : Int32) < 0 then none else (if x2 < 0 then none else (if pq_n G (pq_r G a1 0) < (Int32.toNatClampNeg (0 : Int32)) + (Int32.toNatClampNeg x2) then none else (if pq_n G (pq_r G a0 0) < (Int32.toNatClampNeg (0 : Int32)) + (Int32.toNatClampNeg x2) then none else (pq_lt (pq_wr S (pq_r G a0 0) (va_cpy (S.2 (pq_r G a1 0)) (S.2 (pq_r G a0 0)) (Int32.toNatClampNeg (0 : Int32)) (Int32.toNatClampNeg (0 : Int32)) (Int32.toNatClampNeg x2))) fun S23 => some ((), S23))))))))))
theorem inu_X7_copy_7 : ∀ w ∈ u_ws RX7 TX7 1, w ∈ wsX7_copy := pq_inu 6 rfl
set_option maxHeartbeats 4000000 in
set_option maxRecDepth 100000 in
theorem r_X7_copy {l : Launch} {D : va_G} {y : pq_Y} {G : pq_G} (W0 : pq_WT G) {S : pq_N} {a0 : Nat} {a1 : Nat} {x2 : Int32} (k0_ : pq_ok G 7 a0) (k1_ : pq_ok G 7 a1) {S1 : pq_N} (h : F_X7_copy G S a0 a1 x2 = some ((), S1)) (sz : Nat) : Met l yX7_copy wsX7_copy ({ frames := 1, cells := 0, slots := 0, locals := 26 } : Room) (pq_P D y G S sz [.ref a0, .ref a1, .int x2]) (pq_Qv D y G sz S1) 0 0 (pq_A G sz) := by
  refine pq_enter RX7 3 (by decide) rfl rfl rfl ?_
  intro p e s m below meth c C hsz hr hlk
  subst hsz
  unfold F_X7_copy at h
  refine pv_sub (lo1 := [(0, .ref a0), (1, .ref a1), (2, .int x2)]) [0, 1, 2] rfl ?_
  refine pv_iload_n C 2 dX7_copy_0 rfl rfl ?_
  refine pv_if_le (tgt := 36) C dX7_copy_1 (by decide) (fun c11 => ?_) (fun c11 => ?_)
  · have h := pq_it c11 h
    exact pv_vret C hr hlk h dX7_copy_36
  · have h := pq_if c11 h
    refine pv_iload_n C 2 dX7_copy_4 rfl rfl ?_
    refine pv_aload_n C 0 dX7_copy_5 rfl rfl ?_
    have k12 := pq_wt (k := 0) W0 k0_ rfl
    refine pv_getr (T := TX7) (N := 1) C 0 inu_X7_copy_7 rfl (by decide) (by decide) (List.mem_of_getElem? (i := 1) rfl) rfl k0_ k12.1 dX7_copy_6 ?_
    refine pv_alen13 C k12.2 dX7_copy_9 ?_
    refine pv_icmp_gt (tgt := 36) C dX7_copy_10 (by decide) (fun c13 => ?_) (fun c13 => ?_)
    · have h := pq_it c13 h
      exact pv_vret C hr hlk h dX7_copy_36
    · have h := pq_if c13 h
      refine pv_iload_n C 2 dX7_copy_13 rfl rfl ?_
      refine pv_aload_n C 1 dX7_copy_14 rfl rfl ?_
      have k14 := pq_wt (k := 0) W0 k1_ rfl
      refine pv_getr (T := TX7) (N := 1) C 0 inu_X7_copy_7 rfl (by decide) (by decide) (List.mem_of_getElem? (i := 1) rfl) rfl k1_ k14.1 dX7_copy_15 ?_
      refine pv_alen13 C k14.2 dX7_copy_18 ?_
      refine pv_icmp_gt (tgt := 36) C dX7_copy_19 (by decide) (fun c15 => ?_) (fun c15 => ?_)
      · have h := pq_it c15 h
        exact pv_vret C hr hlk h dX7_copy_36
      · have h := pq_if c15 h
        refine pv_aload_n C 1 dX7_copy_22 rfl rfl ?_
        have k16 := pq_wt (k := 0) W0 k1_ rfl
        refine pv_getr (T := TX7) (N := 1) C 0 inu_X7_copy_7 rfl (by decide) (by decide) (List.mem_of_getElem? (i := 1) rfl) rfl k1_ k16.1 dX7_copy_23 ?_
        refine pv_iconst (v := 0) C dX7_copy_26 (by decide) ?_
        refine pv_aload_n C 0 dX7_copy_27 rfl rfl ?_
        have k17 := pq_wt (k := 0) W0 k0_ rfl
        refine pv_getr (T := TX7) (N := 1) C 0 inu_X7_copy_7 rfl (by decide) (by decide) (List.mem_of_getElem? (i := 1) rfl) rfl k0_ k17.1 dX7_copy_28 ?_
        refine pv_iconst (v := 0) C dX7_copy_31 (by decide) ?_
        refine pv_iload_n C 2 dX7_copy_32 rfl rfl ?_
        obtain ⟨g18, h⟩ := pq_gd h
        obtain ⟨g19, h⟩ := pq_gd h
        obtain ⟨g20, h⟩ := pq_gd h
        obtain ⟨g21, h⟩ := pq_gd h
        obtain ⟨g22, h⟩ := pq_gd h
        refine pv_acopy C (List.mem_of_getElem? (i := 2) rfl) (List.mem_of_getElem? (i := 3) rfl) (List.mem_of_getElem? (i := 4) rfl) (List.mem_of_getElem? (i := 5) rfl) k16.2 k17.2 g18 g19 g20 (Nat.le_of_not_lt g21) (Nat.le_of_not_lt g22) (Nat.le_of_ble_eq_true rfl) (Nat.le_of_ble_eq_true rfl) dX7_copy_33 ?_
        refine pv_nm (fun S23 e24 => ?_)
        have h := pq_ls e24 h
        exact pv_vret C hr hlk h dX7_copy_36
def F_X4_copy (G : pq_G) (S : pq_N) (a0 : Nat) (a1 : Nat) : Option (Unit × pq_N) := (pq_lt (pq_wi S a0 4 (S.1 a1 4)) fun S11 => (pq_lt (pq_wi S11 a0 5 (S11.1 a1 5)) fun S13 => (pq_lt (pq_wi S13 a0 6 (S13.1 a1 6)) fun S15 => (pq_lt (pq_wi S15 a0 7 (S15.1 a1 7)) fun S17 => (pq_bd (F_X7_copy G S17 (pq_r G a0 0) (pq_r G a1 0) (S17.1 a0 6)) fun _ S22 => (pq_bd (F_X7_copy G S22 (pq_r G a0 1) (pq_r G a1 1) (S22.1 a0 7)) fun _ S27 => (pq_bd (F_X7_copy G S27 (pq_r G a0 2) (pq_r G a1 2) (S27.1 a0 7)) fun _ S32 => (pq_bd (F_X7_copy G S32 (pq_r G a0 3) (pq_r G a1 3) (S32.1 a0 7)) fun _ S37 => some ((), S37)))))))))
theorem inu_X4_copy_4 : ∀ w ∈ u_ws RX4 TX4 8, w ∈ wsX4_copy := pq_inu 19 rfl
set_option maxHeartbeats 4000000 in
set_option maxRecDepth 100000 in
theorem r_X4_copy {l : Launch} {D : va_G} {y : pq_Y} {G : pq_G} (W0 : pq_WT G) {S : pq_N} {a0 : Nat} {a1 : Nat} (k0_ : pq_ok G 4 a0) (k1_ : pq_ok G 4 a1) {S1 : pq_N} (h : F_X4_copy G S a0 a1 = some ((), S1)) (sz : Nat) : Met l yX4_copy wsX4_copy ({ frames := 2, cells := 0, slots := 0, locals := 48 } : Room) (pq_P D y G S sz [.ref a0, .ref a1]) (pq_Qv D y G sz S1) 0 0 (pq_A G sz) := by
  refine pq_enter RX4 2 (by decide) rfl rfl rfl ?_
  intro p e s m below meth c C hsz hr hlk
  subst hsz
  unfold F_X4_copy at h
  refine pv_sub (lo1 := [(0, .ref a0), (1, .ref a1)]) [0, 1] rfl ?_
  refine pv_aload_n C 0 dX4_copy_0 rfl rfl ?_
  refine pv_aload_n C 1 dX4_copy_1 rfl rfl ?_
  refine pv_geti (T := TX4) (N := 8) C 4 inu_X4_copy_4 rfl (by decide) (by decide) (List.mem_of_getElem? (i := 1) rfl) rfl k1_ dX4_copy_2 ?_
  refine pv_put (T := TX4) (N := 8) (ty := .int) C 4 inu_X4_copy_4 rfl (by decide) tyX4 tyX4_ok nmX4 (by decide) (List.mem_of_getElem? (i := 1) rfl) rfl k0_ rfl (by decide +kernel) rfl rfl dX4_copy_5 ?_
  refine pv_nm (fun S11 e12 => ?_)
  have h := pq_ls e12 h
  refine pv_aload_n C 0 dX4_copy_8 rfl rfl ?_
  refine pv_aload_n C 1 dX4_copy_9 rfl rfl ?_
  refine pv_geti (T := TX4) (N := 8) C 5 inu_X4_copy_4 rfl (by decide) (by decide) (List.mem_of_getElem? (i := 2) rfl) rfl k1_ dX4_copy_10 ?_
  refine pv_put (T := TX4) (N := 8) (ty := .int) C 5 inu_X4_copy_4 rfl (by decide) tyX4 tyX4_ok nmX4 (by decide) (List.mem_of_getElem? (i := 2) rfl) rfl k0_ rfl (by decide +kernel) rfl rfl dX4_copy_13 ?_
  refine pv_nm (fun S13 e14 => ?_)
  have h := pq_ls e14 h
  refine pv_aload_n C 0 dX4_copy_16 rfl rfl ?_
  refine pv_aload_n C 1 dX4_copy_17 rfl rfl ?_
  refine pv_geti (T := TX4) (N := 8) C 6 inu_X4_copy_4 rfl (by decide) (by decide) (List.mem_of_getElem? (i := 3) rfl) rfl k1_ dX4_copy_18 ?_
  refine pv_put (T := TX4) (N := 8) (ty := .int) C 6 inu_X4_copy_4 rfl (by decide) tyX4 tyX4_ok nmX4 (by decide) (List.mem_of_getElem? (i := 3) rfl) rfl k0_ rfl (by decide +kernel) rfl rfl dX4_copy_21 ?_
  refine pv_nm (fun S15 e16 => ?_)
  have h := pq_ls e16 h
  refine pv_aload_n C 0 dX4_copy_24 rfl rfl ?_
  refine pv_aload_n C 1 dX4_copy_25 rfl rfl ?_
  refine pv_geti (T := TX4) (N := 8) C 7 inu_X4_copy_4 rfl (by decide) (by decide) (List.mem_of_getElem? (i := 4) rfl) rfl k1_ dX4_copy_26 ?_
  refine pv_put (T := TX4) (N := 8) (ty := .int) C 7 inu_X4_copy_4 rfl (by decide) tyX4 tyX4_ok nmX4 (by decide) (List.mem_of_getElem? (i := 4) rfl) rfl k0_ rfl (by decide +kernel) rfl rfl dX4_copy_29 ?_
  refine pv_nm (fun S17 e18 => ?_)
  have h := pq_ls e18 h
  refine pv_aload_n C 0 dX4_copy_32 rfl rfl ?_
  have k19 := pq_wt (k := 0) W0 k0_ rfl
  refine pv_getr (T := TX4) (N := 8) C 0 inu_X4_copy_4 rfl (by decide) (by decide) (List.mem_of_getElem? (i := 5) rfl) rfl k0_ k19.1 dX4_copy_33 ?_
  refine pv_aload_n C 1 dX4_copy_36 rfl rfl ?_
  have k20 := pq_wt (k := 0) W0 k1_ rfl
  refine pv_getr (T := TX4) (N := 8) C 0 inu_X4_copy_4 rfl (by decide) (by decide) (List.mem_of_getElem? (i := 5) rfl) rfl k1_ k20.1 dX4_copy_37 ?_
  refine pv_aload_n C 0 dX4_copy_40 rfl rfl ?_
  refine pv_geti (T := TX4) (N := 8) C 6 inu_X4_copy_4 rfl (by decide) (by decide) (List.mem_of_getElem? (i := 3) rfl) rfl k0_ dX4_copy_41 ?_
  obtain ⟨⟨⟩, S22, e23, h⟩ := pq_bs h
  refine pv_callvV C (ci := 7) rfl (by decide) k19.2 [.ref (pq_r G a1 0), .int (S17.1 a0 6)] (fun sz => r_X7_copy W0 k19.2 k20.2 e23 sz) (cwV 2 C.1.2.2.2.2 gX4_copy_X7_copy rfl rfl rfl (by decide +kernel) ⟨Nat.le_of_ble_eq_true rfl, Nat.le_of_ble_eq_true rfl⟩) rfl rfl (Nat.le_of_ble_eq_true rfl) dX4_copy_44 ⟨Nat.le_of_ble_eq_true rfl, Nat.le_of_ble_eq_true rfl⟩ ?_
  refine pv_aload_n C 0 dX4_copy_47 rfl rfl ?_
  have k24 := pq_wt (k := 1) W0 k0_ rfl
  refine pv_getr (T := TX4) (N := 8) C 1 inu_X4_copy_4 rfl (by decide) (by decide) (List.mem_of_getElem? (i := 6) rfl) rfl k0_ k24.1 dX4_copy_48 ?_
  refine pv_aload_n C 1 dX4_copy_51 rfl rfl ?_
  have k25 := pq_wt (k := 1) W0 k1_ rfl
  refine pv_getr (T := TX4) (N := 8) C 1 inu_X4_copy_4 rfl (by decide) (by decide) (List.mem_of_getElem? (i := 6) rfl) rfl k1_ k25.1 dX4_copy_52 ?_
  refine pv_aload_n C 0 dX4_copy_55 rfl rfl ?_
  refine pv_geti (T := TX4) (N := 8) C 7 inu_X4_copy_4 rfl (by decide) (by decide) (List.mem_of_getElem? (i := 4) rfl) rfl k0_ dX4_copy_56 ?_
  obtain ⟨⟨⟩, S27, e28, h⟩ := pq_bs h
  refine pv_callvV C (ci := 7) rfl (by decide) k24.2 [.ref (pq_r G a1 1), .int (S22.1 a0 7)] (fun sz => r_X7_copy W0 k24.2 k25.2 e28 sz) (cwV 2 C.1.2.2.2.2 gX4_copy_X7_copy rfl rfl rfl (by decide +kernel) ⟨Nat.le_of_ble_eq_true rfl, Nat.le_of_ble_eq_true rfl⟩) rfl rfl (Nat.le_of_ble_eq_true rfl) dX4_copy_59 ⟨Nat.le_of_ble_eq_true rfl, Nat.le_of_ble_eq_true rfl⟩ ?_
  refine pv_aload_n C 0 dX4_copy_62 rfl rfl ?_
  have k29 := pq_wt (k := 2) W0 k0_ rfl
  refine pv_getr (T := TX4) (N := 8) C 2 inu_X4_copy_4 rfl (by decide) (by decide) (List.mem_of_getElem? (i := 7) rfl) rfl k0_ k29.1 dX4_copy_63 ?_
  refine pv_aload_n C 1 dX4_copy_66 rfl rfl ?_
  have k30 := pq_wt (k := 2) W0 k1_ rfl
  refine pv_getr (T := TX4) (N := 8) C 2 inu_X4_copy_4 rfl (by decide) (by decide) (List.mem_of_getElem? (i := 7) rfl) rfl k1_ k30.1 dX4_copy_67 ?_
  refine pv_aload_n C 0 dX4_copy_70 rfl rfl ?_
  refine pv_geti (T := TX4) (N := 8) C 7 inu_X4_copy_4 rfl (by decide) (by decide) (List.mem_of_getElem? (i := 4) rfl) rfl k0_ dX4_copy_71 ?_
  obtain ⟨⟨⟩, S32, e33, h⟩ := pq_bs h
  refine pv_callvV C (ci := 7) rfl (by decide) k29.2 [.ref (pq_r G a1 2), .int (S27.1 a0 7)] (fun sz => r_X7_copy W0 k29.2 k30.2 e33 sz) (cwV 2 C.1.2.2.2.2 gX4_copy_X7_copy rfl rfl rfl (by decide +kernel) ⟨Nat.le_of_ble_eq_true rfl, Nat.le_of_ble_eq_true rfl⟩) rfl rfl (Nat.le_of_ble_eq_true rfl) dX4_copy_74 ⟨Nat.le_of_ble_eq_true rfl, Nat.le_of_ble_eq_true rfl⟩ ?_
  refine pv_aload_n C 0 dX4_copy_77 rfl rfl ?_
  have k34 := pq_wt (k := 3) W0 k0_ rfl
  refine pv_getr (T := TX4) (N := 8) C 3 inu_X4_copy_4 rfl (by decide) (by decide) (List.mem_of_getElem? (i := 8) rfl) rfl k0_ k34.1 dX4_copy_78 ?_
  refine pv_aload_n C 1 dX4_copy_81 rfl rfl ?_
  have k35 := pq_wt (k := 3) W0 k1_ rfl
  refine pv_getr (T := TX4) (N := 8) C 3 inu_X4_copy_4 rfl (by decide) (by decide) (List.mem_of_getElem? (i := 8) rfl) rfl k1_ k35.1 dX4_copy_82 ?_
  refine pv_aload_n C 0 dX4_copy_85 rfl rfl ?_
  refine pv_geti (T := TX4) (N := 8) C 7 inu_X4_copy_4 rfl (by decide) (by decide) (List.mem_of_getElem? (i := 4) rfl) rfl k0_ dX4_copy_86 ?_
  obtain ⟨⟨⟩, S37, e38, h⟩ := pq_bs h
  refine pv_callvV C (ci := 7) rfl (by decide) k34.2 [.ref (pq_r G a1 3), .int (S32.1 a0 7)] (fun sz => r_X7_copy W0 k34.2 k35.2 e38 sz) (cwV 2 C.1.2.2.2.2 gX4_copy_X7_copy rfl rfl rfl (by decide +kernel) ⟨Nat.le_of_ble_eq_true rfl, Nat.le_of_ble_eq_true rfl⟩) rfl rfl (Nat.le_of_ble_eq_true rfl) dX4_copy_89 ⟨Nat.le_of_ble_eq_true rfl, Nat.le_of_ble_eq_true rfl⟩ ?_
  exact pv_vret C hr hlk h dX4_copy_92
def F_X9_copy_b18 (G : pq_G)  : Nat → pq_N → Nat → Nat → Int32 → Option (Unit × pq_N)
  | 0, _, _, _, _ => none
  | n + 1, S, a0, a1, x2 => (if (S.1 a0 2) ≤ x2 then some ((), S) else (pq_bd (F_X9_at G S a0 x2) fun v16 S17 => (pq_bd (F_X9_at G S17 a1 x2) fun v20 S21 => (pq_bd (F_X4_copy G S21 v16 v20) fun _ S25 => (F_X9_copy_b18 G n) S25 a0 a1 (x2 + (1 : Int32))))))
def F_X9_copy (G : pq_G) (S : pq_N) (a0 : Nat) (a1 : Nat) : Option (Unit × pq_N) := (pq_lt (pq_wi S a0 2 (S.1 a1 2)) fun S11 => (pq_lt (pq_wi S11 a0 3 (S11.1 a1 3)) fun S13 => F_X9_copy_b18 G pq_fuel S13 a0 a1 (0 : Int32)))
theorem inu_X9_copy_9 : ∀ w ∈ u_ws RX9 TX9 4, w ∈ wsX9_copy := pq_inu 33 rfl
set_option maxHeartbeats 4000000 in
set_option maxRecDepth 100000 in
theorem r_X9_copy_b18 {p : Program} {l : Launch} {e : Env} {s : State} {m : MethodId} {av : Array Value} {below : List Frame} {meth : Method} {c : Code} {D : va_G} {y : pq_Y} {G : pq_G} {S1 : pq_N} (W0 : pq_WT G) (C : pq_C p s m av c D y RX9 wsX9_copy cX9_copy 3) (hr : meth.sig.returnType = none) (hlk : meth.locks = false) (n : Nat) : ∀ (S : pq_N) (a0 : Nat) (a1 : Nat) (x2 : Int32), pq_ok G 9 a0 → pq_ok G 9 a1 → F_X9_copy_b18 G n S a0 a1 x2 = some ((), S1) → pq_V p l e (headSpec wsX9_copy ({ frames := 3, cells := 0, slots := 0, locals := 69 } : Room)).room s m av below meth c 0 0 (MQ below (pq_Qv D y G s.heap.size S1) av s 0 0 (pq_A G s.heap.size)) D y 3 (pq_A G s.heap.size) (fun _ => True) G S 18 [(0, .ref a0), (1, .ref a1), (2, .int x2)] [] := by
  induction n with
  | zero =>
    intro S a0 a1 x2 k0_ k1_ h
    rw [F_X9_copy_b18.eq_1] at h; cases h
  | succ n ih =>
    intro S a0 a1 x2 k0_ k1_ h
    rw [F_X9_copy_b18.eq_2] at h
    refine pv_iload_n C 2 dX9_copy_18 rfl rfl ?_
    refine pv_aload_n C 0 dX9_copy_19 rfl rfl ?_
    refine pv_geti (T := TX9) (N := 4) C 2 inu_X9_copy_9 rfl (by decide) (by decide) (List.mem_of_getElem? (i := 1) rfl) rfl k0_ dX9_copy_20 ?_
    refine pv_icmp_ge (tgt := 45) C dX9_copy_23 (by decide) (fun c15 => ?_) (fun c15 => ?_)
    · have h := pq_it c15 h
      exact pv_vret C hr hlk h dX9_copy_45
    · have h := pq_if c15 h
      refine pv_aload_n C 0 dX9_copy_26 rfl rfl ?_
      refine pv_iload_n C 2 dX9_copy_27 rfl rfl ?_
      obtain ⟨v16, S17, e18, h⟩ := pq_bs h
      have k19 := o_X9_at W0 k0_ e18
      refine pv_callrV C (ci := 9) rfl (by decide) k0_ [.int x2] (fun sz => r_X9_at W0 k0_ e18 sz) (cwV 1 C.1.2.2.2.2 gX9_copy_X9_at rfl rfl rfl (by decide +kernel) ⟨Nat.le_of_ble_eq_true rfl, Nat.le_of_ble_eq_true rfl⟩) rfl rfl (Nat.le_of_ble_eq_true rfl) dX9_copy_28 ⟨Nat.le_of_ble_eq_true rfl, Nat.le_of_ble_eq_true rfl⟩ ?_
      refine pv_aload_n C 1 dX9_copy_31 rfl rfl ?_
      refine pv_iload_n C 2 dX9_copy_32 rfl rfl ?_
      obtain ⟨v20, S21, e22, h⟩ := pq_bs h
      have k23 := o_X9_at W0 k1_ e22
      refine pv_callrV C (ci := 9) rfl (by decide) k1_ [.int x2] (fun sz => r_X9_at W0 k1_ e22 sz) (cwV 1 C.1.2.2.2.2 gX9_copy_X9_at rfl rfl rfl (by decide +kernel) ⟨Nat.le_of_ble_eq_true rfl, Nat.le_of_ble_eq_true rfl⟩) rfl rfl (Nat.le_of_ble_eq_true rfl) dX9_copy_33 ⟨Nat.le_of_ble_eq_true rfl, Nat.le_of_ble_eq_true rfl⟩ ?_
      obtain ⟨⟨⟩, S25, e26, h⟩ := pq_bs h
      refine pv_callvV C (ci := 4) rfl (by decide) k19 [.ref v20] (fun sz => r_X4_copy W0 k19 k23 e26 sz) (cwV 1 C.1.2.2.2.2 gX9_copy_X4_copy rfl rfl rfl (by decide +kernel) ⟨Nat.le_of_ble_eq_true rfl, Nat.le_of_ble_eq_true rfl⟩) rfl rfl (Nat.le_of_ble_eq_true rfl) dX9_copy_36 ⟨Nat.le_of_ble_eq_true rfl, Nat.le_of_ble_eq_true rfl⟩ ?_
      refine pv_iinc (v := (x2 + (1 : Int32))) C 2 [(2, .int (x2 + (1 : Int32))), (0, .ref a0), (1, .ref a1)] dX9_copy_39 rfl rfl (by decide) rfl ?_
      refine pv_goto (tgt := 18) C dX9_copy_42 (by decide) ?_
      refine pv_sub [1, 2, 0] rfl ?_
      exact ih _ _ _ _ k0_ k1_ h
set_option maxHeartbeats 4000000 in
set_option maxRecDepth 100000 in
theorem r_X9_copy {l : Launch} {D : va_G} {y : pq_Y} {G : pq_G} (W0 : pq_WT G) {S : pq_N} {a0 : Nat} {a1 : Nat} (k0_ : pq_ok G 9 a0) (k1_ : pq_ok G 9 a1) {S1 : pq_N} (h : F_X9_copy G S a0 a1 = some ((), S1)) (sz : Nat) : Met l yX9_copy wsX9_copy ({ frames := 3, cells := 0, slots := 0, locals := 69 } : Room) (pq_P D y G S sz [.ref a0, .ref a1]) (pq_Qv D y G sz S1) 0 0 (pq_A G sz) := by
  refine pq_enter RX9 3 (by decide) rfl rfl rfl ?_
  intro p e s m below meth c C hsz hr hlk
  subst hsz
  unfold F_X9_copy at h
  refine pv_sub (lo1 := [(0, .ref a0), (1, .ref a1)]) [0, 1] rfl ?_
  refine pv_aload_n C 0 dX9_copy_0 rfl rfl ?_
  refine pv_aload_n C 1 dX9_copy_1 rfl rfl ?_
  refine pv_geti (T := TX9) (N := 4) C 2 inu_X9_copy_9 rfl (by decide) (by decide) (List.mem_of_getElem? (i := 1) rfl) rfl k1_ dX9_copy_2 ?_
  refine pv_put (T := TX9) (N := 4) (ty := .int) C 2 inu_X9_copy_9 rfl (by decide) tyX9 tyX9_ok nmX9 (by decide) (List.mem_of_getElem? (i := 1) rfl) rfl k0_ rfl (by decide +kernel) rfl rfl dX9_copy_5 ?_
  refine pv_nm (fun S11 e12 => ?_)
  have h := pq_ls e12 h
  refine pv_aload_n C 0 dX9_copy_8 rfl rfl ?_
  refine pv_aload_n C 1 dX9_copy_9 rfl rfl ?_
  refine pv_geti (T := TX9) (N := 4) C 3 inu_X9_copy_9 rfl (by decide) (by decide) (List.mem_of_getElem? (i := 2) rfl) rfl k1_ dX9_copy_10 ?_
  refine pv_put (T := TX9) (N := 4) (ty := .int) C 3 inu_X9_copy_9 rfl (by decide) tyX9 tyX9_ok nmX9 (by decide) (List.mem_of_getElem? (i := 2) rfl) rfl k0_ rfl (by decide +kernel) rfl rfl dX9_copy_13 ?_
  refine pv_nm (fun S13 e14 => ?_)
  have h := pq_ls e14 h
  refine pv_iconst (v := 0) C dX9_copy_16 (by decide) ?_
  refine pv_istore_n C [(2, .int (0 : Int32)), (0, .ref a0), (1, .ref a1)] dX9_copy_17 rfl (by decide) rfl ?_
  refine pv_sub [1, 2, 0] rfl ?_
  exact r_X9_copy_b18 W0 C hr hlk pq_fuel _ _ _ _ k0_ k1_ h
def F_X2_save_b30 (G : pq_G)  (S : pq_N) (a0 : Nat) (a1 : Nat) : Option (Unit × pq_N) := (pq_bd (F_X2_slot G S a0 (S.1 a0 4)) fun v16 S17 => (pq_bd (F_X9_copy G S17 v16 a1) fun _ S21 => (pq_lt (pq_wi S21 a0 4 ((S21.1 a0 4) + (1 : Int32))) fun S23 => some ((), S23))))
def F_X2_save (G : pq_G) (S : pq_N) (a0 : Nat) (a1 : Nat) : Option (Unit × pq_N) := (if (S.1 a0 4) = (5 : Int32) then (pq_lt (pq_wi S a0 3 (((S.1 a0 3) + (1 : Int32)) - ((S.1 a0 3) + (1 : Int32)) / (5 : Int32) * (5 : Int32))) fun S12 => (pq_lt (pq_wi S12 a0 4 ((S12.1 a0 4) - (1 : Int32))) fun S14 => F_X2_save_b30 G S14 a0 a1)) else F_X2_save_b30 G S a0 a1)
theorem inu_X2_save_2 : ∀ w ∈ u_ws RX2 TX2 5, w ∈ wsX2_save := pq_inu 45 rfl
set_option maxHeartbeats 4000000 in
set_option maxRecDepth 100000 in
theorem r_X2_save_b30 {p : Program} {l : Launch} {e : Env} {s : State} {m : MethodId} {av : Array Value} {below : List Frame} {meth : Method} {c : Code} {D : va_G} {y : pq_Y} {G : pq_G} {S1 : pq_N} (W0 : pq_WT G) (C : pq_C p s m av c D y RX2 wsX2_save cX2_save 3) (hr : meth.sig.returnType = none) (hlk : meth.locks = false) : ∀ (S : pq_N) (a0 : Nat) (a1 : Nat), pq_ok G 2 a0 → pq_ok G 9 a1 → F_X2_save_b30 G S a0 a1 = some ((), S1) → pq_V p l e (headSpec wsX2_save ({ frames := 4, cells := 0, slots := 0, locals := 91 } : Room)).room s m av below meth c 0 0 (MQ below (pq_Qv D y G s.heap.size S1) av s 0 0 (pq_A G s.heap.size)) D y 3 (pq_A G s.heap.size) (fun _ => True) G S 30 [(0, .ref a0), (1, .ref a1)] [] := by
  intro S a0 a1 k0_ k1_ h
  unfold F_X2_save_b30 at h
  refine pv_aload_n C 0 dX2_save_30 rfl rfl ?_
  refine pv_aload_n C 0 dX2_save_31 rfl rfl ?_
  refine pv_geti (T := TX2) (N := 5) C 4 inu_X2_save_2 rfl (by decide) (by decide) (List.mem_of_getElem? (i := 1) rfl) rfl k0_ dX2_save_32 ?_
  obtain ⟨v16, S17, e18, h⟩ := pq_bs h
  have k19 := o_X2_slot W0 k0_ e18
  refine pv_callrV C (ci := 2) rfl (by decide) k0_ [.int (S.1 a0 4)] (fun sz => r_X2_slot W0 k0_ e18 sz) (cwV 1 C.1.2.2.2.2 gX2_save_X2_slot rfl rfl rfl (by decide +kernel) ⟨Nat.le_of_ble_eq_true rfl, Nat.le_of_ble_eq_true rfl⟩) rfl rfl (Nat.le_of_ble_eq_true rfl) dX2_save_35 ⟨Nat.le_of_ble_eq_true rfl, Nat.le_of_ble_eq_true rfl⟩ ?_
  refine pv_astore_n C [(2, .ref v16), (0, .ref a0), (1, .ref a1)] dX2_save_38 rfl (by decide) rfl ?_
  refine pv_aload_n C 0 dX2_save_39 rfl rfl ?_
  refine pv_ifnull C dX2_save_40 ?_
  refine pv_aload_n C 0 dX2_save_43 rfl rfl ?_
  refine pv_aload_n C 2 dX2_save_44 rfl rfl ?_
  obtain ⟨⟨⟩, S21, e22, h⟩ := pq_bs h
  refine pv_callvV C (ci := 9) rfl (by decide) k19 [.ref a1] (fun sz => r_X9_copy W0 k19 k1_ e22 sz) (cwV 1 C.1.2.2.2.2 gX2_save_X9_copy rfl rfl rfl (by decide +kernel) ⟨Nat.le_of_ble_eq_true rfl, Nat.le_of_ble_eq_true rfl⟩) rfl rfl (Nat.le_of_ble_eq_true rfl) dX2_save_45 ⟨Nat.le_of_ble_eq_true rfl, Nat.le_of_ble_eq_true rfl⟩ ?_
  refine pv_aload_n C 1 dX2_save_48 rfl rfl ?_
  refine pv_dup C dX2_save_49 rfl ?_
  refine pv_geti (T := TX2) (N := 5) C 4 inu_X2_save_2 rfl (by decide) (by decide) (List.mem_of_getElem? (i := 1) rfl) rfl k0_ dX2_save_50 ?_
  refine pv_iconst (v := 1) C dX2_save_53 (by decide) ?_
  refine pv_iadd C dX2_save_54 ?_
  refine pv_put (T := TX2) (N := 5) (ty := .int) C 4 inu_X2_save_2 rfl (by decide) tyX2 tyX2_ok nmX2 (by decide) (List.mem_of_getElem? (i := 1) rfl) rfl k0_ rfl (by decide +kernel) rfl rfl dX2_save_55 ?_
  refine pv_nm (fun S23 e24 => ?_)
  have h := pq_ls e24 h
  exact pv_vret C hr hlk h dX2_save_58
set_option maxHeartbeats 4000000 in
set_option maxRecDepth 100000 in
theorem r_X2_save {l : Launch} {D : va_G} {y : pq_Y} {G : pq_G} (W0 : pq_WT G) {S : pq_N} {a0 : Nat} {a1 : Nat} (k0_ : pq_ok G 2 a0) (k1_ : pq_ok G 9 a1) {S1 : pq_N} (h : F_X2_save G S a0 a1 = some ((), S1)) (sz : Nat) : Met l yX2_save wsX2_save ({ frames := 4, cells := 0, slots := 0, locals := 91 } : Room) (pq_P D y G S sz [.ref a0, .ref a1]) (pq_Qv D y G sz S1) 0 0 (pq_A G sz) := by
  refine pq_enter RX2 3 (by decide) rfl rfl rfl ?_
  intro p e s m below meth c C hsz hr hlk
  subst hsz
  unfold F_X2_save at h
  refine pv_sub (lo1 := [(0, .ref a0), (1, .ref a1)]) [0, 1] rfl ?_
  refine pv_aload_n C 0 dX2_save_0 rfl rfl ?_
  refine pv_geti (T := TX2) (N := 5) C 4 inu_X2_save_2 rfl (by decide) (by decide) (List.mem_of_getElem? (i := 1) rfl) rfl k0_ dX2_save_1 ?_
  refine pv_iconst (v := 5) C dX2_save_4 (by decide) ?_
  refine pv_icmp_ne (tgt := 30) C dX2_save_5 (by decide) (fun c11 => ?_) (fun c11 => ?_)
  · have h := pq_if c11 h
    refine pv_sub [0, 1] rfl ?_
    exact r_X2_save_b30 W0 C hr hlk _ _ _ k0_ k1_ h
  · have h := pq_it c11 h
    refine pv_aload_n C 0 dX2_save_8 rfl rfl ?_
    refine pv_aload_n C 0 dX2_save_9 rfl rfl ?_
    refine pv_geti (T := TX2) (N := 5) C 3 inu_X2_save_2 rfl (by decide) (by decide) (List.mem_of_getElem? (i := 2) rfl) rfl k0_ dX2_save_10 ?_
    refine pv_iconst (v := 1) C dX2_save_13 (by decide) ?_
    refine pv_iadd C dX2_save_14 ?_
    refine pv_iconst (v := 5) C dX2_save_15 (by decide) ?_
    refine pv_irem C dX2_save_16 (by decide) ?_
    refine pv_put (T := TX2) (N := 5) (ty := .int) C 3 inu_X2_save_2 rfl (by decide) tyX2 tyX2_ok nmX2 (by decide) (List.mem_of_getElem? (i := 2) rfl) rfl k0_ rfl (by decide +kernel) rfl rfl dX2_save_17 ?_
    refine pv_nm (fun S12 e13 => ?_)
    have h := pq_ls e13 h
    refine pv_aload_n C 0 dX2_save_20 rfl rfl ?_
    refine pv_dup C dX2_save_21 rfl ?_
    refine pv_geti (T := TX2) (N := 5) C 4 inu_X2_save_2 rfl (by decide) (by decide) (List.mem_of_getElem? (i := 1) rfl) rfl k0_ dX2_save_22 ?_
    refine pv_iconst (v := 1) C dX2_save_25 (by decide) ?_
    refine pv_isub C dX2_save_26 ?_
    refine pv_put (T := TX2) (N := 5) (ty := .int) C 4 inu_X2_save_2 rfl (by decide) tyX2 tyX2_ok nmX2 (by decide) (List.mem_of_getElem? (i := 1) rfl) rfl k0_ rfl (by decide +kernel) rfl rfl dX2_save_27 ?_
    refine pv_nm (fun S14 e15 => ?_)
    have h := pq_ls e15 h
    refine pv_sub [0, 1] rfl ?_
    exact r_X2_save_b30 W0 C hr hlk _ _ _ k0_ k1_ h
def F_X2_takeBack (G : pq_G) (S : pq_N) (a0 : Nat) (a1 : Nat) : Option (Unit × pq_N) := (pq_bd (F_X2_slot G S a0 ((S.1 a0 4) - (1 : Int32))) fun v11 S12 => (pq_bd (F_X9_copy G S12 a1 v11) fun _ S16 => (pq_lt (pq_wi S16 a0 4 ((S16.1 a0 4) - (1 : Int32))) fun S18 => some ((), S18))))
theorem inu_X2_takeBack_2 : ∀ w ∈ u_ws RX2 TX2 5, w ∈ wsX2_takeBack := pq_inu 45 rfl
set_option maxHeartbeats 4000000 in
set_option maxRecDepth 100000 in
theorem r_X2_takeBack {l : Launch} {D : va_G} {y : pq_Y} {G : pq_G} (W0 : pq_WT G) {S : pq_N} {a0 : Nat} {a1 : Nat} (k0_ : pq_ok G 2 a0) (k1_ : pq_ok G 9 a1) {S1 : pq_N} (h : F_X2_takeBack G S a0 a1 = some ((), S1)) (sz : Nat) : Met l yX2_takeBack wsX2_takeBack ({ frames := 4, cells := 0, slots := 0, locals := 91 } : Room) (pq_P D y G S sz [.ref a0, .ref a1]) (pq_Qv D y G sz S1) 0 0 (pq_A G sz) := by
  refine pq_enter RX2 3 (by decide) rfl rfl rfl ?_
  intro p e s m below meth c C hsz hr hlk
  subst hsz
  unfold F_X2_takeBack at h
  refine pv_sub (lo1 := [(0, .ref a0), (1, .ref a1)]) [0, 1] rfl ?_
  refine pv_aload_n C 0 dX2_takeBack_0 rfl rfl ?_
  refine pv_aload_n C 0 dX2_takeBack_1 rfl rfl ?_
  refine pv_geti (T := TX2) (N := 5) C 4 inu_X2_takeBack_2 rfl (by decide) (by decide) (List.mem_of_getElem? (i := 1) rfl) rfl k0_ dX2_takeBack_2 ?_
  refine pv_iconst (v := 1) C dX2_takeBack_5 (by decide) ?_
  refine pv_isub C dX2_takeBack_6 ?_
  obtain ⟨v11, S12, e13, h⟩ := pq_bs h
  have k14 := o_X2_slot W0 k0_ e13
  refine pv_callrV C (ci := 2) rfl (by decide) k0_ [.int ((S.1 a0 4) - (1 : Int32))] (fun sz => r_X2_slot W0 k0_ e13 sz) (cwV 1 C.1.2.2.2.2 gX2_takeBack_X2_slot rfl rfl rfl (by decide +kernel) ⟨Nat.le_of_ble_eq_true rfl, Nat.le_of_ble_eq_true rfl⟩) rfl rfl (Nat.le_of_ble_eq_true rfl) dX2_takeBack_7 ⟨Nat.le_of_ble_eq_true rfl, Nat.le_of_ble_eq_true rfl⟩ ?_
  refine pv_astore_n C [(2, .ref v11), (0, .ref a0), (1, .ref a1)] dX2_takeBack_10 rfl (by decide) rfl ?_
  refine pv_aload_n C 0 dX2_takeBack_11 rfl rfl ?_
  refine pv_ifnull C dX2_takeBack_12 ?_
  refine pv_aload_n C 2 dX2_takeBack_15 rfl rfl ?_
  refine pv_aload_n C 0 dX2_takeBack_16 rfl rfl ?_
  obtain ⟨⟨⟩, S16, e17, h⟩ := pq_bs h
  refine pv_callvV C (ci := 9) rfl (by decide) k1_ [.ref v11] (fun sz => r_X9_copy W0 k1_ k14 e17 sz) (cwV 1 C.1.2.2.2.2 gX2_takeBack_X9_copy rfl rfl rfl (by decide +kernel) ⟨Nat.le_of_ble_eq_true rfl, Nat.le_of_ble_eq_true rfl⟩) rfl rfl (Nat.le_of_ble_eq_true rfl) dX2_takeBack_17 ⟨Nat.le_of_ble_eq_true rfl, Nat.le_of_ble_eq_true rfl⟩ ?_
  refine pv_aload_n C 1 dX2_takeBack_20 rfl rfl ?_
  refine pv_dup C dX2_takeBack_21 rfl ?_
  refine pv_geti (T := TX2) (N := 5) C 4 inu_X2_takeBack_2 rfl (by decide) (by decide) (List.mem_of_getElem? (i := 1) rfl) rfl k0_ dX2_takeBack_22 ?_
  refine pv_iconst (v := 1) C dX2_takeBack_25 (by decide) ?_
  refine pv_isub C dX2_takeBack_26 ?_
  refine pv_put (T := TX2) (N := 5) (ty := .int) C 4 inu_X2_takeBack_2 rfl (by decide) tyX2 tyX2_ok nmX2 (by decide) (List.mem_of_getElem? (i := 1) rfl) rfl k0_ rfl (by decide +kernel) rfl rfl dX2_takeBack_27 ?_
  refine pv_nm (fun S18 e19 => ?_)
  have h := pq_ls e19 h
  exact pv_vret C hr hlk h dX2_takeBack_30
def F_X4_quotes_b2 (G : pq_G)  : Nat → pq_N → Nat → Int32 → Int32 → Option (Int32 × pq_N)
  | 0, _, _, _, _ => none
  | n + 1, S, a0, x1, x2 => (if (S.1 a0 7) ≤ x2 then some ((0 : Int32), S) else (pq_bd (F_X7_number G S (pq_r G a0 1) x2) fun v13 S14 => (if v13 = x1 then some ((1 : Int32), S14) else (F_X4_quotes_b2 G n) S14 a0 x1 (x2 + (1 : Int32)))))
def F_X4_quotes (G : pq_G) (S : pq_N) (a0 : Nat) (x1 : Int32) : Option (Int32 × pq_N) := F_X4_quotes_b2 G pq_fuel S a0 x1 (0 : Int32)
theorem inu_X4_quotes_4 : ∀ w ∈ u_ws RX4 TX4 8, w ∈ wsX4_quotes := pq_inu 9 rfl
set_option maxHeartbeats 4000000 in
set_option maxRecDepth 100000 in
theorem r_X4_quotes_b2 {p : Program} {l : Launch} {e : Env} {s : State} {m : MethodId} {av : Array Value} {below : List Frame} {meth : Method} {c : Code} {D : va_G} {y : pq_Y} {G : pq_G} {r : Int32} {S1 : pq_N} (W0 : pq_WT G) (C : pq_C p s m av c D y RX4 wsX4_quotes cX4_quotes 3) (hr : meth.sig.returnType = (some .boolean)) (hlk : meth.locks = false) (n : Nat) : ∀ (S : pq_N) (a0 : Nat) (x1 : Int32) (x2 : Int32), pq_ok G 4 a0 → F_X4_quotes_b2 G n S a0 x1 x2 = some (r, S1) → pq_V p l e (headSpec wsX4_quotes ({ frames := 1, cells := 0, slots := 0, locals := 21 } : Room)).room s m av below meth c 0 0 (MQ below (pq_Qi D y G s.heap.size r S1) av s 0 0 (pq_A G s.heap.size)) D y 3 (pq_A G s.heap.size) (fun _ => True) G S 2 [(0, .ref a0), (1, .int x1), (2, .int x2)] [] := by
  induction n with
  | zero =>
    intro S a0 x1 x2 k0_ h
    rw [F_X4_quotes_b2.eq_1] at h; cases h
  | succ n ih =>
    intro S a0 x1 x2 k0_ h
    rw [F_X4_quotes_b2.eq_2] at h
    refine pv_iload_n C 2 dX4_quotes_2 rfl rfl ?_
    refine pv_aload_n C 0 dX4_quotes_3 rfl rfl ?_
    refine pv_geti (T := TX4) (N := 8) C 7 inu_X4_quotes_4 rfl (by decide) (by decide) (List.mem_of_getElem? (i := 1) rfl) rfl k0_ dX4_quotes_4 ?_
    refine pv_icmp_ge (tgt := 30) C dX4_quotes_7 (by decide) (fun c11 => ?_) (fun c11 => ?_)
    · have h := pq_it c11 h
      refine pv_iconst (v := 0) C dX4_quotes_30 (by decide) ?_
      exact pv_zret C hr rfl hlk h dX4_quotes_31
    · have h := pq_if c11 h
      refine pv_aload_n C 0 dX4_quotes_10 rfl rfl ?_
      have k12 := pq_wt (k := 1) W0 k0_ rfl
      refine pv_getr (T := TX4) (N := 8) C 1 inu_X4_quotes_4 rfl (by decide) (by decide) (List.mem_of_getElem? (i := 2) rfl) rfl k0_ k12.1 dX4_quotes_11 ?_
      refine pv_iload_n C 2 dX4_quotes_14 rfl rfl ?_
      obtain ⟨v13, S14, e15, h⟩ := pq_bs h
      refine pv_calliV C (ci := 7) rfl (by decide) k12.2 [.int x2] (fun sz => r_X7_number W0 k12.2 e15 sz) (cwV 1 C.1.2.2.2.2 gX4_quotes_X7_number rfl rfl rfl (by decide +kernel) ⟨Nat.le_of_ble_eq_true rfl, Nat.le_of_ble_eq_true rfl⟩) rfl rfl (Nat.le_of_ble_eq_true rfl) dX4_quotes_15 ⟨Nat.le_of_ble_eq_true rfl, Nat.le_of_ble_eq_true rfl⟩ ?_
      refine pv_iload_n C 1 dX4_quotes_18 rfl rfl ?_
      refine pv_icmp_ne (tgt := 24) C dX4_quotes_19 (by decide) (fun c16 => ?_) (fun c16 => ?_)
      · have h := pq_if c16 h
        refine pv_iinc (v := (x2 + (1 : Int32))) C 2 [(2, .int (x2 + (1 : Int32))), (0, .ref a0), (1, .int x1)] dX4_quotes_24 rfl rfl (by decide) rfl ?_
        refine pv_goto (tgt := 2) C dX4_quotes_27 (by decide) ?_
        refine pv_sub [1, 2, 0] rfl ?_
        exact ih _ _ _ _ k0_ h
      · have h := pq_it c16 h
        refine pv_iconst (v := 1) C dX4_quotes_22 (by decide) ?_
        exact pv_zret C hr rfl hlk h dX4_quotes_23
set_option maxHeartbeats 4000000 in
set_option maxRecDepth 100000 in
theorem r_X4_quotes {l : Launch} {D : va_G} {y : pq_Y} {G : pq_G} (W0 : pq_WT G) {S : pq_N} {a0 : Nat} {x1 : Int32} (k0_ : pq_ok G 4 a0) {r : Int32} {S1 : pq_N} (h : F_X4_quotes G S a0 x1 = some (r, S1)) (sz : Nat) : Met l yX4_quotes wsX4_quotes ({ frames := 1, cells := 0, slots := 0, locals := 21 } : Room) (pq_P D y G S sz [.ref a0, .int x1]) (pq_Qi D y G sz r S1) 0 0 (pq_A G sz) := by
  refine pq_enter RX4 3 (by decide) rfl rfl rfl ?_
  intro p e s m below meth c C hsz hr hlk
  subst hsz
  unfold F_X4_quotes at h
  refine pv_sub (lo1 := [(0, .ref a0), (1, .int x1)]) [0, 1] rfl ?_
  refine pv_iconst (v := 0) C dX4_quotes_0 (by decide) ?_
  refine pv_istore_n C [(2, .int (0 : Int32)), (0, .ref a0), (1, .int x1)] dX4_quotes_1 rfl (by decide) rfl ?_
  refine pv_sub [1, 2, 0] rfl ?_
  exact r_X4_quotes_b2 W0 C hr hlk pq_fuel _ _ _ _ k0_ h
def F_X3_fromTheGround_b19 (G : pq_G) (c2 : pq_N → Nat → Nat → Int32 → Int32 → Option (Int32 × pq_N)) : Nat → pq_N → Nat → Nat → Int32 → Int32 → Int32 → Int32 → Option (Int32 × pq_N)
  | 0, _, _, _, _, _, _, _ => none
  | n + 1, S, a0, a1, x2, x3, x4, x5 => (if x3 ≤ x5 then (pq_bd (F_X9_at G S a1 x3) fun v23 S24 => (if (S24.1 v23 7) = (0 : Int32) then (pq_bd (F_X7_put G S24 (pq_r G a0 0) x3 (1 : Int64)) fun _ S32 => c2 S32 a0 a1 x2 (x3 + (1 : Int32))) else (pq_bd (F_X7_put G S24 (pq_r G a0 0) x3 (Int32.toInt64 x4)) fun _ S29 => c2 S29 a0 a1 x2 (x3 + (1 : Int32))))) else (pq_bd (F_X9_at G S a1 x3) fun v34 S35 => (pq_bd (F_X4_quotes G S35 v34 x5) fun v38 S39 => (if v38 = (0 : Int32) then (F_X3_fromTheGround_b19 G c2 n) S39 a0 a1 x2 x3 x4 (x5 + (1 : Int32)) else (pq_bd (F_X7_number G S39 (pq_r G a0 0) x5) fun v43 S44 => (F_X3_fromTheGround_b19 G c2 n) S44 a0 a1 x2 x3 (x4 + v43) (x5 + (1 : Int32)))))))
def F_X3_fromTheGround_b2 (G : pq_G)  : Nat → pq_N → Nat → Nat → Int32 → Int32 → Option (Int32 × pq_N)
  | 0, _, _, _, _, _ => none
  | n + 1, S, a0, a1, x2, x3 => (if x2 < x3 then (pq_bd (F_X7_number G S (pq_r G a0 0) x2) fun v13 S14 => some (v13, S14)) else (if (20 : Int32) ≤ x3 then (pq_bd (F_X7_number G S (pq_r G a0 0) x2) fun v18 S19 => some (v18, S19)) else F_X3_fromTheGround_b19 G ((F_X3_fromTheGround_b2 G n)) pq_fuel S a0 a1 x2 x3 (0 : Int32) (0 : Int32)))
def F_X3_fromTheGround (G : pq_G) (S : pq_N) (a0 : Nat) (a1 : Nat) (x2 : Int32) : Option (Int32 × pq_N) := F_X3_fromTheGround_b2 G pq_fuel S a0 a1 x2 (0 : Int32)
theorem inu_X3_fromTheGround_3 : ∀ w ∈ u_ws RX3 TX3 1, w ∈ wsX3_fromTheGround := pq_inu 27 rfl
theorem inu_X3_fromTheGround_4 : ∀ w ∈ u_ws RX4 TX4 8, w ∈ wsX3_fromTheGround := pq_inu 28 rfl
set_option maxHeartbeats 4000000 in
set_option maxRecDepth 100000 in
theorem r_X3_fromTheGround_b19 {p : Program} {l : Launch} {e : Env} {s : State} {m : MethodId} {av : Array Value} {below : List Frame} {meth : Method} {c : Code} {D : va_G} {y : pq_Y} {G : pq_G} {r : Int32} {S1 : pq_N} (W0 : pq_WT G) (C : pq_C p s m av c D y RX3 wsX3_fromTheGround cX3_fromTheGround 6) (hr : meth.sig.returnType = (some .int)) (hlk : meth.locks = false) {c2 : pq_N → Nat → Nat → Int32 → Int32 → Option (Int32 × pq_N)} (hk2 : ∀ (S : pq_N) (a0 : Nat) (a1 : Nat) (x2 : Int32) (x3 : Int32), pq_ok G 3 a0 → pq_ok G 9 a1 → c2 S a0 a1 x2 x3 = some (r, S1) → pq_V p l e (headSpec wsX3_fromTheGround ({ frames := 2, cells := 0, slots := 0, locals := 43 } : Room)).room s m av below meth c 0 0 (MQ below (pq_Qi D y G s.heap.size r S1) av s 0 0 (pq_A G s.heap.size)) D y 6 (pq_A G s.heap.size) (fun _ => True) G S 2 [(0, .ref a0), (1, .ref a1), (2, .int x2), (3, .int x3)] []) (n : Nat) : ∀ (S : pq_N) (a0 : Nat) (a1 : Nat) (x2 : Int32) (x3 : Int32) (x4 : Int32) (x5 : Int32), pq_ok G 3 a0 → pq_ok G 9 a1 → F_X3_fromTheGround_b19 G c2 n S a0 a1 x2 x3 x4 x5 = some (r, S1) → pq_V p l e (headSpec wsX3_fromTheGround ({ frames := 2, cells := 0, slots := 0, locals := 43 } : Room)).room s m av below meth c 0 0 (MQ below (pq_Qi D y G s.heap.size r S1) av s 0 0 (pq_A G s.heap.size)) D y 6 (pq_A G s.heap.size) (fun _ => True) G S 19 [(0, .ref a0), (1, .ref a1), (2, .int x2), (3, .int x3), (4, .int x4), (5, .int x5)] [] := by
  induction n with
  | zero =>
    intro S a0 a1 x2 x3 x4 x5 k0_ k1_ h
    rw [F_X3_fromTheGround_b19.eq_1] at h; cases h
  | succ n ih =>
    intro S a0 a1 x2 x3 x4 x5 k0_ k1_ h
    rw [F_X3_fromTheGround_b19.eq_2] at h
    refine pv_iload C 5 dX3_fromTheGround_19 rfl ?_
    refine pv_iload_n C 3 dX3_fromTheGround_21 rfl rfl ?_
    refine pv_icmp_ge (tgt := 58) C dX3_fromTheGround_22 (by decide) (fun c21 => ?_) (fun c21 => ?_)
    · have h := pq_it c21 h
      refine pv_aload_n C 0 dX3_fromTheGround_58 rfl rfl ?_
      have k22 := pq_wt (k := 0) W0 k0_ rfl
      refine pv_getr (T := TX3) (N := 1) C 0 inu_X3_fromTheGround_3 rfl (by decide) (by decide) (List.mem_of_getElem? (i := 1) rfl) rfl k0_ k22.1 dX3_fromTheGround_59 ?_
      refine pv_iload_n C 3 dX3_fromTheGround_62 rfl rfl ?_
      refine pv_aload_n C 1 dX3_fromTheGround_63 rfl rfl ?_
      refine pv_iload_n C 3 dX3_fromTheGround_64 rfl rfl ?_
      obtain ⟨v23, S24, e25, h⟩ := pq_bs h
      have k26 := o_X9_at W0 k1_ e25
      refine pv_callrV C (ci := 9) rfl (by decide) k1_ [.int x3] (fun sz => r_X9_at W0 k1_ e25 sz) (cwV 1 C.1.2.2.2.2 gX3_fromTheGround_X9_at rfl rfl rfl (by decide +kernel) ⟨Nat.le_of_ble_eq_true rfl, Nat.le_of_ble_eq_true rfl⟩) rfl rfl (Nat.le_of_ble_eq_true rfl) dX3_fromTheGround_65 ⟨Nat.le_of_ble_eq_true rfl, Nat.le_of_ble_eq_true rfl⟩ ?_
      refine pv_getiN (T := TX4) (N := 8) C 7 inu_X3_fromTheGround_4 rfl (by decide) (by decide) (List.mem_of_getElem? (i := 23) rfl) rfl k26 dX3_fromTheGround_68 ?_
      refine pv_if_ne (tgt := 78) C dX3_fromTheGround_71 (by decide) (fun c27 => ?_) (fun c27 => ?_)
      · have h := pq_if c27 h
        refine pv_iload C 4 dX3_fromTheGround_78 rfl ?_
        refine pv_i2l C dX3_fromTheGround_80 ?_
        obtain ⟨⟨⟩, S29, e30, h⟩ := pq_bs h
        refine pv_callvV C (ci := 7) rfl (by decide) k22.2 [.int x3, .long (Int32.toInt64 x4)] (fun sz => r_X7_put W0 k22.2 e30 sz) (cwV 2 C.1.2.2.2.2 gX3_fromTheGround_X7_put rfl rfl rfl (by decide +kernel) ⟨Nat.le_of_ble_eq_true rfl, Nat.le_of_ble_eq_true rfl⟩) rfl rfl (Nat.le_of_ble_eq_true rfl) dX3_fromTheGround_81 ⟨Nat.le_of_ble_eq_true rfl, Nat.le_of_ble_eq_true rfl⟩ ?_
        refine pv_iinc (v := (x3 + (1 : Int32))) C 3 [(3, .int (x3 + (1 : Int32))), (0, .ref a0), (1, .ref a1), (2, .int x2), (4, .int x4), (5, .int x5)] dX3_fromTheGround_84 rfl rfl (by decide) rfl ?_
        refine pv_goto (tgt := 2) C dX3_fromTheGround_87 (by decide) ?_
        refine pv_sub [1, 2, 3, 0] rfl ?_
        exact hk2 _ _ _ _ _ k0_ k1_ h
      · have h := pq_it c27 h
        refine pv_lconst (v := 1) C dX3_fromTheGround_74 (by decide) ?_
        refine pv_goto (tgt := 81) C dX3_fromTheGround_75 (by decide) ?_
        obtain ⟨⟨⟩, S32, e33, h⟩ := pq_bs h
        refine pv_callvV C (ci := 7) rfl (by decide) k22.2 [.int x3, .long (1 : Int64)] (fun sz => r_X7_put W0 k22.2 e33 sz) (cwV 2 C.1.2.2.2.2 gX3_fromTheGround_X7_put rfl rfl rfl (by decide +kernel) ⟨Nat.le_of_ble_eq_true rfl, Nat.le_of_ble_eq_true rfl⟩) rfl rfl (Nat.le_of_ble_eq_true rfl) dX3_fromTheGround_81 ⟨Nat.le_of_ble_eq_true rfl, Nat.le_of_ble_eq_true rfl⟩ ?_
        refine pv_iinc (v := (x3 + (1 : Int32))) C 3 [(3, .int (x3 + (1 : Int32))), (0, .ref a0), (1, .ref a1), (2, .int x2), (4, .int x4), (5, .int x5)] dX3_fromTheGround_84 rfl rfl (by decide) rfl ?_
        refine pv_goto (tgt := 2) C dX3_fromTheGround_87 (by decide) ?_
        refine pv_sub [1, 2, 3, 0] rfl ?_
        exact hk2 _ _ _ _ _ k0_ k1_ h
    · have h := pq_if c21 h
      refine pv_aload_n C 1 dX3_fromTheGround_25 rfl rfl ?_
      refine pv_iload_n C 3 dX3_fromTheGround_26 rfl rfl ?_
      obtain ⟨v34, S35, e36, h⟩ := pq_bs h
      have k37 := o_X9_at W0 k1_ e36
      refine pv_callrV C (ci := 9) rfl (by decide) k1_ [.int x3] (fun sz => r_X9_at W0 k1_ e36 sz) (cwV 1 C.1.2.2.2.2 gX3_fromTheGround_X9_at rfl rfl rfl (by decide +kernel) ⟨Nat.le_of_ble_eq_true rfl, Nat.le_of_ble_eq_true rfl⟩) rfl rfl (Nat.le_of_ble_eq_true rfl) dX3_fromTheGround_27 ⟨Nat.le_of_ble_eq_true rfl, Nat.le_of_ble_eq_true rfl⟩ ?_
      refine pv_iload C 5 dX3_fromTheGround_30 rfl ?_
      obtain ⟨v38, S39, e40, h⟩ := pq_bs h
      refine pv_calliV C (ci := 4) rfl (by decide) k37 [.int x5] (fun sz => r_X4_quotes W0 k37 e40 sz) (cwV 1 C.1.2.2.2.2 gX3_fromTheGround_X4_quotes rfl rfl rfl (by decide +kernel) ⟨Nat.le_of_ble_eq_true rfl, Nat.le_of_ble_eq_true rfl⟩) rfl rfl (Nat.le_of_ble_eq_true rfl) dX3_fromTheGround_32 ⟨Nat.le_of_ble_eq_true rfl, Nat.le_of_ble_eq_true rfl⟩ ?_
      refine pv_if_eq (tgt := 52) C dX3_fromTheGround_35 (by decide) (fun c41 => ?_) (fun c41 => ?_)
      · have h := pq_it c41 h
        refine pv_iinc (v := (x5 + (1 : Int32))) C 5 [(5, .int (x5 + (1 : Int32))), (0, .ref a0), (1, .ref a1), (2, .int x2), (3, .int x3), (4, .int x4)] dX3_fromTheGround_52 rfl rfl (by decide) rfl ?_
        refine pv_goto (tgt := 19) C dX3_fromTheGround_55 (by decide) ?_
        refine pv_sub [1, 2, 3, 4, 5, 0] rfl ?_
        exact ih _ _ _ _ _ _ _ k0_ k1_ h
      · have h := pq_if c41 h
        refine pv_iload C 4 dX3_fromTheGround_38 rfl ?_
        refine pv_aload_n C 0 dX3_fromTheGround_40 rfl rfl ?_
        have k42 := pq_wt (k := 0) W0 k0_ rfl
        refine pv_getr (T := TX3) (N := 1) C 0 inu_X3_fromTheGround_3 rfl (by decide) (by decide) (List.mem_of_getElem? (i := 1) rfl) rfl k0_ k42.1 dX3_fromTheGround_41 ?_
        refine pv_iload C 5 dX3_fromTheGround_44 rfl ?_
        obtain ⟨v43, S44, e45, h⟩ := pq_bs h
        refine pv_calliV C (ci := 7) rfl (by decide) k42.2 [.int x5] (fun sz => r_X7_number W0 k42.2 e45 sz) (cwV 1 C.1.2.2.2.2 gX3_fromTheGround_X7_number rfl rfl rfl (by decide +kernel) ⟨Nat.le_of_ble_eq_true rfl, Nat.le_of_ble_eq_true rfl⟩) rfl rfl (Nat.le_of_ble_eq_true rfl) dX3_fromTheGround_46 ⟨Nat.le_of_ble_eq_true rfl, Nat.le_of_ble_eq_true rfl⟩ ?_
        refine pv_iadd C dX3_fromTheGround_49 ?_
        refine pv_istore C [(4, .int (x4 + v43)), (0, .ref a0), (1, .ref a1), (2, .int x2), (3, .int x3), (5, .int x5)] dX3_fromTheGround_50 (by decide) rfl ?_
        refine pv_iinc (v := (x5 + (1 : Int32))) C 5 [(5, .int (x5 + (1 : Int32))), (4, .int (x4 + v43)), (0, .ref a0), (1, .ref a1), (2, .int x2), (3, .int x3)] dX3_fromTheGround_52 rfl rfl (by decide) rfl ?_
        refine pv_goto (tgt := 19) C dX3_fromTheGround_55 (by decide) ?_
        refine pv_sub [2, 3, 4, 5, 1, 0] rfl ?_
        exact ih _ _ _ _ _ _ _ k0_ k1_ h
set_option maxHeartbeats 4000000 in
set_option maxRecDepth 100000 in
theorem r_X3_fromTheGround_b2 {p : Program} {l : Launch} {e : Env} {s : State} {m : MethodId} {av : Array Value} {below : List Frame} {meth : Method} {c : Code} {D : va_G} {y : pq_Y} {G : pq_G} {r : Int32} {S1 : pq_N} (W0 : pq_WT G) (C : pq_C p s m av c D y RX3 wsX3_fromTheGround cX3_fromTheGround 6) (hr : meth.sig.returnType = (some .int)) (hlk : meth.locks = false) (n : Nat) : ∀ (S : pq_N) (a0 : Nat) (a1 : Nat) (x2 : Int32) (x3 : Int32), pq_ok G 3 a0 → pq_ok G 9 a1 → F_X3_fromTheGround_b2 G n S a0 a1 x2 x3 = some (r, S1) → pq_V p l e (headSpec wsX3_fromTheGround ({ frames := 2, cells := 0, slots := 0, locals := 43 } : Room)).room s m av below meth c 0 0 (MQ below (pq_Qi D y G s.heap.size r S1) av s 0 0 (pq_A G s.heap.size)) D y 6 (pq_A G s.heap.size) (fun _ => True) G S 2 [(0, .ref a0), (1, .ref a1), (2, .int x2), (3, .int x3)] [] := by
  induction n with
  | zero =>
    intro S a0 a1 x2 x3 k0_ k1_ h
    rw [F_X3_fromTheGround_b2.eq_1] at h; cases h
  | succ n ih =>
    intro S a0 a1 x2 x3 k0_ k1_ h
    rw [F_X3_fromTheGround_b2.eq_2] at h
    refine pv_iload_n C 3 dX3_fromTheGround_2 rfl rfl ?_
    refine pv_iload_n C 2 dX3_fromTheGround_3 rfl rfl ?_
    refine pv_icmp_gt (tgt := 90) C dX3_fromTheGround_4 (by decide) (fun c11 => ?_) (fun c11 => ?_)
    · have h := pq_it c11 h
      refine pv_aload_n C 0 dX3_fromTheGround_90 rfl rfl ?_
      have k12 := pq_wt (k := 0) W0 k0_ rfl
      refine pv_getr (T := TX3) (N := 1) C 0 inu_X3_fromTheGround_3 rfl (by decide) (by decide) (List.mem_of_getElem? (i := 1) rfl) rfl k0_ k12.1 dX3_fromTheGround_91 ?_
      refine pv_iload_n C 2 dX3_fromTheGround_94 rfl rfl ?_
      obtain ⟨v13, S14, e15, h⟩ := pq_bs h
      refine pv_calliV C (ci := 7) rfl (by decide) k12.2 [.int x2] (fun sz => r_X7_number W0 k12.2 e15 sz) (cwV 1 C.1.2.2.2.2 gX3_fromTheGround_X7_number rfl rfl rfl (by decide +kernel) ⟨Nat.le_of_ble_eq_true rfl, Nat.le_of_ble_eq_true rfl⟩) rfl rfl (Nat.le_of_ble_eq_true rfl) dX3_fromTheGround_95 ⟨Nat.le_of_ble_eq_true rfl, Nat.le_of_ble_eq_true rfl⟩ ?_
      exact pv_iret C hr hlk h dX3_fromTheGround_98
    · have h := pq_if c11 h
      refine pv_iload_n C 3 dX3_fromTheGround_7 rfl rfl ?_
      refine pv_bipush (v := 20) C dX3_fromTheGround_8 (by decide) ?_
      refine pv_icmp_ge (tgt := 90) C dX3_fromTheGround_10 (by decide) (fun c16 => ?_) (fun c16 => ?_)
      · have h := pq_it c16 h
        refine pv_aload_n C 0 dX3_fromTheGround_90 rfl rfl ?_
        have k17 := pq_wt (k := 0) W0 k0_ rfl
        refine pv_getr (T := TX3) (N := 1) C 0 inu_X3_fromTheGround_3 rfl (by decide) (by decide) (List.mem_of_getElem? (i := 1) rfl) rfl k0_ k17.1 dX3_fromTheGround_91 ?_
        refine pv_iload_n C 2 dX3_fromTheGround_94 rfl rfl ?_
        obtain ⟨v18, S19, e20, h⟩ := pq_bs h
        refine pv_calliV C (ci := 7) rfl (by decide) k17.2 [.int x2] (fun sz => r_X7_number W0 k17.2 e20 sz) (cwV 1 C.1.2.2.2.2 gX3_fromTheGround_X7_number rfl rfl rfl (by decide +kernel) ⟨Nat.le_of_ble_eq_true rfl, Nat.le_of_ble_eq_true rfl⟩) rfl rfl (Nat.le_of_ble_eq_true rfl) dX3_fromTheGround_95 ⟨Nat.le_of_ble_eq_true rfl, Nat.le_of_ble_eq_true rfl⟩ ?_
        exact pv_iret C hr hlk h dX3_fromTheGround_98
      · have h := pq_if c16 h
        refine pv_iconst (v := 0) C dX3_fromTheGround_13 (by decide) ?_
        refine pv_istore C [(4, .int (0 : Int32)), (0, .ref a0), (1, .ref a1), (2, .int x2), (3, .int x3)] dX3_fromTheGround_14 (by decide) rfl ?_
        refine pv_iconst (v := 0) C dX3_fromTheGround_16 (by decide) ?_
        refine pv_istore C [(5, .int (0 : Int32)), (4, .int (0 : Int32)), (0, .ref a0), (1, .ref a1), (2, .int x2), (3, .int x3)] dX3_fromTheGround_17 (by decide) rfl ?_
        refine pv_sub [2, 3, 4, 5, 1, 0] rfl ?_
        exact r_X3_fromTheGround_b19 W0 C hr hlk ih pq_fuel _ _ _ _ _ _ _ k0_ k1_ h
set_option maxHeartbeats 4000000 in
set_option maxRecDepth 100000 in
theorem r_X3_fromTheGround {l : Launch} {D : va_G} {y : pq_Y} {G : pq_G} (W0 : pq_WT G) {S : pq_N} {a0 : Nat} {a1 : Nat} {x2 : Int32} (k0_ : pq_ok G 3 a0) (k1_ : pq_ok G 9 a1) {r : Int32} {S1 : pq_N} (h : F_X3_fromTheGround G S a0 a1 x2 = some (r, S1)) (sz : Nat) : Met l yX3_fromTheGround wsX3_fromTheGround ({ frames := 2, cells := 0, slots := 0, locals := 43 } : Room) (pq_P D y G S sz [.ref a0, .ref a1, .int x2]) (pq_Qi D y G sz r S1) 0 0 (pq_A G sz) := by
  refine pq_enter RX3 6 (by decide) rfl rfl rfl ?_
  intro p e s m below meth c C hsz hr hlk
  subst hsz
  unfold F_X3_fromTheGround at h
  refine pv_sub (lo1 := [(0, .ref a0), (1, .ref a1), (2, .int x2)]) [0, 1, 2] rfl ?_
  refine pv_iconst (v := 0) C dX3_fromTheGround_0 (by decide) ?_
  refine pv_istore_n C [(3, .int (0 : Int32)), (0, .ref a0), (1, .ref a1), (2, .int x2)] dX3_fromTheGround_1 rfl (by decide) rfl ?_
  refine pv_sub [1, 2, 3, 0] rfl ?_
  exact r_X3_fromTheGround_b2 W0 C hr hlk pq_fuel _ _ _ _ _ k0_ k1_ h
def F_X3_markSources_b2 (G : pq_G)  : Nat → pq_N → Nat → Nat → Int32 → Option (Unit × pq_N)
  | 0, _, _, _, _ => none
  | n + 1, S, a0, a1, x2 => (if (S.1 a1 7) ≤ x2 then some ((), S) else (pq_bd (F_X7_number G S (pq_r G a1 1) x2) fun v14 S15 => (pq_bd (F_X7_put G S15 (pq_r G a0 0) v14 (1 : Int64)) fun _ S18 => (F_X3_markSources_b2 G n) S18 a0 a1 (x2 + (1 : Int32)))))
def F_X3_markSources (G : pq_G) (S : pq_N) (a0 : Nat) (a1 : Nat) : Option (Unit × pq_N) := F_X3_markSources_b2 G pq_fuel S a0 a1 (0 : Int32)
theorem inu_X3_markSources_3 : ∀ w ∈ u_ws RX3 TX3 1, w ∈ wsX3_markSources := pq_inu 20 rfl
theorem inu_X3_markSources_4 : ∀ w ∈ u_ws RX4 TX4 8, w ∈ wsX3_markSources := pq_inu 12 rfl
set_option maxHeartbeats 4000000 in
set_option maxRecDepth 100000 in
theorem r_X3_markSources_b2 {p : Program} {l : Launch} {e : Env} {s : State} {m : MethodId} {av : Array Value} {below : List Frame} {meth : Method} {c : Code} {D : va_G} {y : pq_Y} {G : pq_G} {S1 : pq_N} (W0 : pq_WT G) (C : pq_C p s m av c D y RX3 wsX3_markSources cX3_markSources 3) (hr : meth.sig.returnType = none) (hlk : meth.locks = false) (n : Nat) : ∀ (S : pq_N) (a0 : Nat) (a1 : Nat) (x2 : Int32), pq_ok G 3 a0 → pq_ok G 4 a1 → F_X3_markSources_b2 G n S a0 a1 x2 = some ((), S1) → pq_V p l e (headSpec wsX3_markSources ({ frames := 1, cells := 0, slots := 0, locals := 23 } : Room)).room s m av below meth c 0 0 (MQ below (pq_Qv D y G s.heap.size S1) av s 0 0 (pq_A G s.heap.size)) D y 3 (pq_A G s.heap.size) (fun _ => True) G S 2 [(0, .ref a0), (1, .ref a1), (2, .int x2)] [] := by
  induction n with
  | zero =>
    intro S a0 a1 x2 k0_ k1_ h
    rw [F_X3_markSources_b2.eq_1] at h; cases h
  | succ n ih =>
    intro S a0 a1 x2 k0_ k1_ h
    rw [F_X3_markSources_b2.eq_2] at h
    refine pv_iload_n C 2 dX3_markSources_2 rfl rfl ?_
    refine pv_aload_n C 1 dX3_markSources_3 rfl rfl ?_
    refine pv_getiN (T := TX4) (N := 8) C 7 inu_X3_markSources_4 rfl (by decide) (by decide) (List.mem_of_getElem? (i := 23) rfl) rfl k1_ dX3_markSources_4 ?_
    refine pv_icmp_ge (tgt := 32) C dX3_markSources_7 (by decide) (fun c11 => ?_) (fun c11 => ?_)
    · have h := pq_it c11 h
      exact pv_vret C hr hlk h dX3_markSources_32
    · have h := pq_if c11 h
      refine pv_aload_n C 0 dX3_markSources_10 rfl rfl ?_
      have k12 := pq_wt (k := 0) W0 k0_ rfl
      refine pv_getr (T := TX3) (N := 1) C 0 inu_X3_markSources_3 rfl (by decide) (by decide) (List.mem_of_getElem? (i := 1) rfl) rfl k0_ k12.1 dX3_markSources_11 ?_
      refine pv_aload_n C 1 dX3_markSources_14 rfl rfl ?_
      have k13 := pq_wt (k := 1) W0 k1_ rfl
      refine pv_getrN (T := TX4) (N := 8) C 1 inu_X3_markSources_4 rfl (by decide) (by decide) (List.mem_of_getElem? (i := 5) rfl) rfl k1_ k13.1 dX3_markSources_15 ?_
      refine pv_iload_n C 2 dX3_markSources_18 rfl rfl ?_
      obtain ⟨v14, S15, e16, h⟩ := pq_bs h
      refine pv_calliV C (ci := 7) rfl (by decide) k13.2 [.int x2] (fun sz => r_X7_number W0 k13.2 e16 sz) (cwV 1 C.1.2.2.2.2 gX3_markSources_X7_number rfl rfl rfl (by decide +kernel) ⟨Nat.le_of_ble_eq_true rfl, Nat.le_of_ble_eq_true rfl⟩) rfl rfl (Nat.le_of_ble_eq_true rfl) dX3_markSources_19 ⟨Nat.le_of_ble_eq_true rfl, Nat.le_of_ble_eq_true rfl⟩ ?_
      refine pv_lconst (v := 1) C dX3_markSources_22 (by decide) ?_
      obtain ⟨⟨⟩, S18, e19, h⟩ := pq_bs h
      refine pv_callvV C (ci := 7) rfl (by decide) k12.2 [.int v14, .long (1 : Int64)] (fun sz => r_X7_put W0 k12.2 e19 sz) (cwV 2 C.1.2.2.2.2 gX3_markSources_X7_put rfl rfl rfl (by decide +kernel) ⟨Nat.le_of_ble_eq_true rfl, Nat.le_of_ble_eq_true rfl⟩) rfl rfl (Nat.le_of_ble_eq_true rfl) dX3_markSources_23 ⟨Nat.le_of_ble_eq_true rfl, Nat.le_of_ble_eq_true rfl⟩ ?_
      refine pv_iinc (v := (x2 + (1 : Int32))) C 2 [(2, .int (x2 + (1 : Int32))), (0, .ref a0), (1, .ref a1)] dX3_markSources_26 rfl rfl (by decide) rfl ?_
      refine pv_goto (tgt := 2) C dX3_markSources_29 (by decide) ?_
      refine pv_sub [1, 2, 0] rfl ?_
      exact ih _ _ _ _ k0_ k1_ h
set_option maxHeartbeats 4000000 in
set_option maxRecDepth 100000 in
theorem r_X3_markSources {l : Launch} {D : va_G} {y : pq_Y} {G : pq_G} (W0 : pq_WT G) {S : pq_N} {a0 : Nat} {a1 : Nat} (k0_ : pq_ok G 3 a0) (k1_ : pq_ok G 4 a1) {S1 : pq_N} (h : F_X3_markSources G S a0 a1 = some ((), S1)) (sz : Nat) : Met l yX3_markSources wsX3_markSources ({ frames := 1, cells := 0, slots := 0, locals := 23 } : Room) (pq_P D y G S sz [.ref a0, .ref a1]) (pq_Qv D y G sz S1) 0 0 (pq_A G sz) := by
  refine pq_enter RX3 3 (by decide) rfl rfl rfl ?_
  intro p e s m below meth c C hsz hr hlk
  subst hsz
  unfold F_X3_markSources at h
  refine pv_sub (lo1 := [(0, .ref a0), (1, .ref a1)]) [0, 1] rfl ?_
  refine pv_iconst (v := 0) C dX3_markSources_0 (by decide) ?_
  refine pv_istore_n C [(2, .int (0 : Int32)), (0, .ref a0), (1, .ref a1)] dX3_markSources_1 rfl (by decide) rfl ?_
  refine pv_sub [1, 2, 0] rfl ?_
  exact r_X3_markSources_b2 W0 C hr hlk pq_fuel _ _ _ _ k0_ k1_ h
def F_X3_gatherReading_b37 (G : pq_G)  : Nat → pq_N → Nat → Nat → Int32 → Int32 → Option (Int32 × pq_N)
  | 0, _, _, _, _, _ => none
  | n + 1, S, a0, a1, x3, x4 => (if x4 < (0 : Int32) then some (x3, S) else (pq_bd (F_X7_number G S (pq_r G a0 0) x4) fun v22 S23 => (if v22 = (1 : Int32) then (pq_bd (F_X9_at G S23 a1 x4) fun v26 S27 => (pq_bd (F_X3_markSources G S27 a0 v26) fun _ S31 => (F_X3_gatherReading_b37 G n) S31 a0 a1 (x3 + (1 : Int32)) (x4 + (-1 : Int32)))) else (F_X3_gatherReading_b37 G n) S23 a0 a1 x3 (x4 + (-1 : Int32)))))
def F_X3_gatherReading_b2 (G : pq_G)  : Nat → pq_N → Nat → Nat → Int32 → Int32 → Option (Int32 × pq_N)
  | 0, _, _, _, _, _ => none
  | n + 1, S, a0, a1, x2, x3 => (if (20 : Int32) ≤ x3 then F_X3_gatherReading_b37 G pq_fuel S a0 a1 (0 : Int32) x2 else (if x3 = x2 then (pq_bd (F_X7_put G S (pq_r G a0 0) x3 (1 : Int64)) fun _ S18 => (F_X3_gatherReading_b2 G n) S18 a0 a1 x2 (x3 + (1 : Int32))) else (pq_bd (F_X7_put G S (pq_r G a0 0) x3 (0 : Int64)) fun _ S15 => (F_X3_gatherReading_b2 G n) S15 a0 a1 x2 (x3 + (1 : Int32)))))
def F_X3_gatherReading (G : pq_G) (S : pq_N) (a0 : Nat) (a1 : Nat) (x2 : Int32) : Option (Int32 × pq_N) := F_X3_gatherReading_b2 G pq_fuel S a0 a1 x2 (0 : Int32)
theorem inu_X3_gatherReading_3 : ∀ w ∈ u_ws RX3 TX3 1, w ∈ wsX3_gatherReading := pq_inu 24 rfl
set_option maxHeartbeats 4000000 in
set_option maxRecDepth 100000 in
theorem r_X3_gatherReading_b37 {p : Program} {l : Launch} {e : Env} {s : State} {m : MethodId} {av : Array Value} {below : List Frame} {meth : Method} {c : Code} {D : va_G} {y : pq_Y} {G : pq_G} {r : Int32} {S1 : pq_N} (W0 : pq_WT G) (C : pq_C p s m av c D y RX3 wsX3_gatherReading cX3_gatherReading 5) (hr : meth.sig.returnType = (some .int)) (hlk : meth.locks = false) (n : Nat) : ∀ (S : pq_N) (a0 : Nat) (a1 : Nat) (x3 : Int32) (x4 : Int32), pq_ok G 3 a0 → pq_ok G 9 a1 → F_X3_gatherReading_b37 G n S a0 a1 x3 x4 = some (r, S1) → pq_V p l e (headSpec wsX3_gatherReading ({ frames := 2, cells := 0, slots := 0, locals := 45 } : Room)).room s m av below meth c 0 0 (MQ below (pq_Qi D y G s.heap.size r S1) av s 0 0 (pq_A G s.heap.size)) D y 5 (pq_A G s.heap.size) (fun _ => True) G S 37 [(0, .ref a0), (1, .ref a1), (3, .int x3), (4, .int x4)] [] := by
  induction n with
  | zero =>
    intro S a0 a1 x3 x4 k0_ k1_ h
    rw [F_X3_gatherReading_b37.eq_1] at h; cases h
  | succ n ih =>
    intro S a0 a1 x3 x4 k0_ k1_ h
    rw [F_X3_gatherReading_b37.eq_2] at h
    refine pv_iload C 3 dX3_gatherReading_37 rfl ?_
    refine pv_if_lt (tgt := 74) C dX3_gatherReading_39 (by decide) (fun c20 => ?_) (fun c20 => ?_)
    · have h := pq_it c20 h
      refine pv_iload_n C 2 dX3_gatherReading_74 rfl rfl ?_
      exact pv_iret C hr hlk h dX3_gatherReading_75
    · have h := pq_if c20 h
      refine pv_aload_n C 0 dX3_gatherReading_42 rfl rfl ?_
      have k21 := pq_wt (k := 0) W0 k0_ rfl
      refine pv_getr (T := TX3) (N := 1) C 0 inu_X3_gatherReading_3 rfl (by decide) (by decide) (List.mem_of_getElem? (i := 1) rfl) rfl k0_ k21.1 dX3_gatherReading_43 ?_
      refine pv_iload C 3 dX3_gatherReading_46 rfl ?_
      obtain ⟨v22, S23, e24, h⟩ := pq_bs h
      refine pv_calliV C (ci := 7) rfl (by decide) k21.2 [.int x4] (fun sz => r_X7_number W0 k21.2 e24 sz) (cwV 1 C.1.2.2.2.2 gX3_gatherReading_X7_number rfl rfl rfl (by decide +kernel) ⟨Nat.le_of_ble_eq_true rfl, Nat.le_of_ble_eq_true rfl⟩) rfl rfl (Nat.le_of_ble_eq_true rfl) dX3_gatherReading_48 ⟨Nat.le_of_ble_eq_true rfl, Nat.le_of_ble_eq_true rfl⟩ ?_
      refine pv_iconst (v := 1) C dX3_gatherReading_51 (by decide) ?_
      refine pv_icmp_ne (tgt := 68) C dX3_gatherReading_52 (by decide) (fun c25 => ?_) (fun c25 => ?_)
      · have h := pq_if c25 h
        refine pv_iinc (v := (x4 + (-1 : Int32))) C 3 [(4, .int (x4 + (-1 : Int32))), (0, .ref a0), (1, .ref a1), (3, .int x3)] dX3_gatherReading_68 rfl rfl (by decide) rfl ?_
        refine pv_goto (tgt := 37) C dX3_gatherReading_71 (by decide) ?_
        refine pv_sub [1, 2, 3, 0] rfl ?_
        exact ih _ _ _ _ _ k0_ k1_ h
      · have h := pq_it c25 h
        refine pv_aload_n C 0 dX3_gatherReading_55 rfl rfl ?_
        refine pv_aload_n C 1 dX3_gatherReading_56 rfl rfl ?_
        refine pv_iload C 3 dX3_gatherReading_57 rfl ?_
        obtain ⟨v26, S27, e28, h⟩ := pq_bs h
        have k29 := o_X9_at W0 k1_ e28
        refine pv_callrV C (ci := 9) rfl (by decide) k1_ [.int x4] (fun sz => r_X9_at W0 k1_ e28 sz) (cwV 1 C.1.2.2.2.2 gX3_gatherReading_X9_at rfl rfl rfl (by decide +kernel) ⟨Nat.le_of_ble_eq_true rfl, Nat.le_of_ble_eq_true rfl⟩) rfl rfl (Nat.le_of_ble_eq_true rfl) dX3_gatherReading_59 ⟨Nat.le_of_ble_eq_true rfl, Nat.le_of_ble_eq_true rfl⟩ ?_
        obtain ⟨⟨⟩, S31, e32, h⟩ := pq_bs h
        refine pv_callvV C (ci := 3) rfl (by decide) k0_ [.ref v26] (fun sz => r_X3_markSources W0 k0_ k29 e32 sz) (cwV 1 C.1.2.2.2.2 gX3_gatherReading_X3_markSources rfl rfl rfl (by decide +kernel) ⟨Nat.le_of_ble_eq_true rfl, Nat.le_of_ble_eq_true rfl⟩) rfl rfl (Nat.le_of_ble_eq_true rfl) dX3_gatherReading_62 ⟨Nat.le_of_ble_eq_true rfl, Nat.le_of_ble_eq_true rfl⟩ ?_
        refine pv_iinc (v := (x3 + (1 : Int32))) C 2 [(3, .int (x3 + (1 : Int32))), (0, .ref a0), (1, .ref a1), (4, .int x4)] dX3_gatherReading_65 rfl rfl (by decide) rfl ?_
        refine pv_iinc (v := (x4 + (-1 : Int32))) C 3 [(4, .int (x4 + (-1 : Int32))), (3, .int (x3 + (1 : Int32))), (0, .ref a0), (1, .ref a1)] dX3_gatherReading_68 rfl rfl (by decide) rfl ?_
        refine pv_goto (tgt := 37) C dX3_gatherReading_71 (by decide) ?_
        refine pv_sub [2, 3, 1, 0] rfl ?_
        exact ih _ _ _ _ _ k0_ k1_ h
set_option maxHeartbeats 4000000 in
set_option maxRecDepth 100000 in
theorem r_X3_gatherReading_b2 {p : Program} {l : Launch} {e : Env} {s : State} {m : MethodId} {av : Array Value} {below : List Frame} {meth : Method} {c : Code} {D : va_G} {y : pq_Y} {G : pq_G} {r : Int32} {S1 : pq_N} (W0 : pq_WT G) (C : pq_C p s m av c D y RX3 wsX3_gatherReading cX3_gatherReading 5) (hr : meth.sig.returnType = (some .int)) (hlk : meth.locks = false) (n : Nat) : ∀ (S : pq_N) (a0 : Nat) (a1 : Nat) (x2 : Int32) (x3 : Int32), pq_ok G 3 a0 → pq_ok G 9 a1 → F_X3_gatherReading_b2 G n S a0 a1 x2 x3 = some (r, S1) → pq_V p l e (headSpec wsX3_gatherReading ({ frames := 2, cells := 0, slots := 0, locals := 45 } : Room)).room s m av below meth c 0 0 (MQ below (pq_Qi D y G s.heap.size r S1) av s 0 0 (pq_A G s.heap.size)) D y 5 (pq_A G s.heap.size) (fun _ => True) G S 2 [(0, .ref a0), (1, .ref a1), (2, .int x2), (3, .int x3)] [] := by
  induction n with
  | zero =>
    intro S a0 a1 x2 x3 k0_ k1_ h
    rw [F_X3_gatherReading_b2.eq_1] at h; cases h
  | succ n ih =>
    intro S a0 a1 x2 x3 k0_ k1_ h
    rw [F_X3_gatherReading_b2.eq_2] at h
    refine pv_iload_n C 3 dX3_gatherReading_2 rfl rfl ?_
    refine pv_bipush (v := 20) C dX3_gatherReading_3 (by decide) ?_
    refine pv_icmp_ge (tgt := 32) C dX3_gatherReading_5 (by decide) (fun c11 => ?_) (fun c11 => ?_)
    · have h := pq_it c11 h
      refine pv_iconst (v := 0) C dX3_gatherReading_32 (by decide) ?_
      refine pv_istore_n C [(3, .int (0 : Int32)), (0, .ref a0), (1, .ref a1), (2, .int x2)] dX3_gatherReading_33 rfl (by decide) rfl ?_
      refine pv_iload_n C 3 dX3_gatherReading_34 rfl rfl ?_
      refine pv_istore C [(4, .int x2), (3, .int (0 : Int32)), (0, .ref a0), (1, .ref a1), (2, .int x2)] dX3_gatherReading_35 (by decide) rfl ?_
      refine pv_sub [2, 3, 1, 0] rfl ?_
      exact r_X3_gatherReading_b37 W0 C hr hlk pq_fuel _ _ _ _ _ k0_ k1_ h
    · have h := pq_if c11 h
      refine pv_aload_n C 0 dX3_gatherReading_8 rfl rfl ?_
      have k12 := pq_wt (k := 0) W0 k0_ rfl
      refine pv_getr (T := TX3) (N := 1) C 0 inu_X3_gatherReading_3 rfl (by decide) (by decide) (List.mem_of_getElem? (i := 1) rfl) rfl k0_ k12.1 dX3_gatherReading_9 ?_
      refine pv_iload_n C 3 dX3_gatherReading_12 rfl rfl ?_
      refine pv_iload_n C 3 dX3_gatherReading_13 rfl rfl ?_
      refine pv_iload_n C 2 dX3_gatherReading_14 rfl rfl ?_
      refine pv_icmp_ne (tgt := 22) C dX3_gatherReading_15 (by decide) (fun c13 => ?_) (fun c13 => ?_)
      · have h := pq_if c13 h
        refine pv_lconst (v := 0) C dX3_gatherReading_22 (by decide) ?_
        obtain ⟨⟨⟩, S15, e16, h⟩ := pq_bs h
        refine pv_callvV C (ci := 7) rfl (by decide) k12.2 [.int x3, .long (0 : Int64)] (fun sz => r_X7_put W0 k12.2 e16 sz) (cwV 2 C.1.2.2.2.2 gX3_gatherReading_X7_put rfl rfl rfl (by decide +kernel) ⟨Nat.le_of_ble_eq_true rfl, Nat.le_of_ble_eq_true rfl⟩) rfl rfl (Nat.le_of_ble_eq_true rfl) dX3_gatherReading_23 ⟨Nat.le_of_ble_eq_true rfl, Nat.le_of_ble_eq_true rfl⟩ ?_
        refine pv_iinc (v := (x3 + (1 : Int32))) C 3 [(3, .int (x3 + (1 : Int32))), (0, .ref a0), (1, .ref a1), (2, .int x2)] dX3_gatherReading_26 rfl rfl (by decide) rfl ?_
        refine pv_goto (tgt := 2) C dX3_gatherReading_29 (by decide) ?_
        refine pv_sub [1, 2, 3, 0] rfl ?_
        exact ih _ _ _ _ _ k0_ k1_ h
      · have h := pq_it c13 h
        refine pv_lconst (v := 1) C dX3_gatherReading_18 (by decide) ?_
        refine pv_goto (tgt := 23) C dX3_gatherReading_19 (by decide) ?_
        obtain ⟨⟨⟩, S18, e19, h⟩ := pq_bs h
        refine pv_callvV C (ci := 7) rfl (by decide) k12.2 [.int x3, .long (1 : Int64)] (fun sz => r_X7_put W0 k12.2 e19 sz) (cwV 2 C.1.2.2.2.2 gX3_gatherReading_X7_put rfl rfl rfl (by decide +kernel) ⟨Nat.le_of_ble_eq_true rfl, Nat.le_of_ble_eq_true rfl⟩) rfl rfl (Nat.le_of_ble_eq_true rfl) dX3_gatherReading_23 ⟨Nat.le_of_ble_eq_true rfl, Nat.le_of_ble_eq_true rfl⟩ ?_
        refine pv_iinc (v := (x3 + (1 : Int32))) C 3 [(3, .int (x3 + (1 : Int32))), (0, .ref a0), (1, .ref a1), (2, .int x2)] dX3_gatherReading_26 rfl rfl (by decide) rfl ?_
        refine pv_goto (tgt := 2) C dX3_gatherReading_29 (by decide) ?_
        refine pv_sub [1, 2, 3, 0] rfl ?_
        exact ih _ _ _ _ _ k0_ k1_ h
set_option maxHeartbeats 4000000 in
set_option maxRecDepth 100000 in
theorem r_X3_gatherReading {l : Launch} {D : va_G} {y : pq_Y} {G : pq_G} (W0 : pq_WT G) {S : pq_N} {a0 : Nat} {a1 : Nat} {x2 : Int32} (k0_ : pq_ok G 3 a0) (k1_ : pq_ok G 9 a1) {r : Int32} {S1 : pq_N} (h : F_X3_gatherReading G S a0 a1 x2 = some (r, S1)) (sz : Nat) : Met l yX3_gatherReading wsX3_gatherReading ({ frames := 2, cells := 0, slots := 0, locals := 45 } : Room) (pq_P D y G S sz [.ref a0, .ref a1, .int x2]) (pq_Qi D y G sz r S1) 0 0 (pq_A G sz) := by
  refine pq_enter RX3 5 (by decide) rfl rfl rfl ?_
  intro p e s m below meth c C hsz hr hlk
  subst hsz
  unfold F_X3_gatherReading at h
  refine pv_sub (lo1 := [(0, .ref a0), (1, .ref a1), (2, .int x2)]) [0, 1, 2] rfl ?_
  refine pv_iconst (v := 0) C dX3_gatherReading_0 (by decide) ?_
  refine pv_istore_n C [(3, .int (0 : Int32)), (0, .ref a0), (1, .ref a1), (2, .int x2)] dX3_gatherReading_1 rfl (by decide) rfl ?_
  refine pv_sub [1, 2, 3, 0] rfl ?_
  exact r_X3_gatherReading_b2 W0 C hr hlk pq_fuel _ _ _ _ _ k0_ k1_ h
def F_X3_longest_b19 (G : pq_G) (c2 : pq_N → Nat → Nat → Int32 → Int32 → Option (Int32 × pq_N)) : Nat → pq_N → Nat → Nat → Int32 → Int32 → Int32 → Int32 → Option (Int32 × pq_N)
  | 0, _, _, _, _, _, _, _ => none
  | n + 1, S, a0, a1, x2, x3, x4, x5 => (if x3 ≤ x5 then (pq_bd (F_X7_put G S (pq_r G a0 0) x3 (Int32.toInt64 (x4 + (1 : Int32)))) fun _ S24 => c2 S24 a0 a1 x2 (x3 + (1 : Int32))) else (pq_bd (F_X9_at G S a1 x3) fun v26 S27 => (pq_bd (F_X4_quotes G S27 v26 x5) fun v30 S31 => (if v30 = (0 : Int32) then (F_X3_longest_b19 G c2 n) S31 a0 a1 x2 x3 x4 (x5 + (1 : Int32)) else (pq_bd (F_X7_number G S31 (pq_r G a0 0) x5) fun v35 S36 => (pq_lt (if x4 < v35 then v35 else x4) fun i38 => (F_X3_longest_b19 G c2 n) S36 a0 a1 x2 x3 i38 (x5 + (1 : Int32))))))))
def F_X3_longest_b2 (G : pq_G)  : Nat → pq_N → Nat → Nat → Int32 → Int32 → Option (Int32 × pq_N)
  | 0, _, _, _, _, _ => none
  | n + 1, S, a0, a1, x2, x3 => (if x2 < x3 then (pq_bd (F_X7_number G S (pq_r G a0 0) x2) fun v13 S14 => some (v13, S14)) else (if (20 : Int32) ≤ x3 then (pq_bd (F_X7_number G S (pq_r G a0 0) x2) fun v18 S19 => some (v18, S19)) else F_X3_longest_b19 G ((F_X3_longest_b2 G n)) pq_fuel S a0 a1 x2 x3 (0 : Int32) (0 : Int32)))
def F_X3_longest (G : pq_G) (S : pq_N) (a0 : Nat) (a1 : Nat) (x2 : Int32) : Option (Int32 × pq_N) := F_X3_longest_b2 G pq_fuel S a0 a1 x2 (0 : Int32)
theorem inu_X3_longest_3 : ∀ w ∈ u_ws RX3 TX3 1, w ∈ wsX3_longest := pq_inu 31 rfl
set_option maxHeartbeats 4000000 in
set_option maxRecDepth 100000 in
theorem r_X3_longest_b19 {p : Program} {l : Launch} {e : Env} {s : State} {m : MethodId} {av : Array Value} {below : List Frame} {meth : Method} {c : Code} {D : va_G} {y : pq_Y} {G : pq_G} {r : Int32} {S1 : pq_N} (W0 : pq_WT G) (C : pq_C p s m av c D y RX3 wsX3_longest cX3_longest 6) (hr : meth.sig.returnType = (some .int)) (hlk : meth.locks = false) {c2 : pq_N → Nat → Nat → Int32 → Int32 → Option (Int32 × pq_N)} (hk2 : ∀ (S : pq_N) (a0 : Nat) (a1 : Nat) (x2 : Int32) (x3 : Int32), pq_ok G 3 a0 → pq_ok G 9 a1 → c2 S a0 a1 x2 x3 = some (r, S1) → pq_V p l e (headSpec wsX3_longest ({ frames := 2, cells := 0, slots := 0, locals := 43 } : Room)).room s m av below meth c 0 0 (MQ below (pq_Qi D y G s.heap.size r S1) av s 0 0 (pq_A G s.heap.size)) D y 6 (pq_A G s.heap.size) (fun _ => True) G S 2 [(0, .ref a0), (1, .ref a1), (2, .int x2), (3, .int x3)] []) (n : Nat) : ∀ (S : pq_N) (a0 : Nat) (a1 : Nat) (x2 : Int32) (x3 : Int32) (x4 : Int32) (x5 : Int32), pq_ok G 3 a0 → pq_ok G 9 a1 → F_X3_longest_b19 G c2 n S a0 a1 x2 x3 x4 x5 = some (r, S1) → pq_V p l e (headSpec wsX3_longest ({ frames := 2, cells := 0, slots := 0, locals := 43 } : Room)).room s m av below meth c 0 0 (MQ below (pq_Qi D y G s.heap.size r S1) av s 0 0 (pq_A G s.heap.size)) D y 6 (pq_A G s.heap.size) (fun _ => True) G S 19 [(0, .ref a0), (1, .ref a1), (2, .int x2), (3, .int x3), (4, .int x4), (5, .int x5)] [] := by
  induction n with
  | zero =>
    intro S a0 a1 x2 x3 x4 x5 k0_ k1_ h
    rw [F_X3_longest_b19.eq_1] at h; cases h
  | succ n ih =>
    intro S a0 a1 x2 x3 x4 x5 k0_ k1_ h
    rw [F_X3_longest_b19.eq_2] at h
    refine pv_iload C 5 dX3_longest_19 rfl ?_
    refine pv_iload_n C 3 dX3_longest_21 rfl rfl ?_
    refine pv_icmp_ge (tgt := 60) C dX3_longest_22 (by decide) (fun c21 => ?_) (fun c21 => ?_)
    · have h := pq_it c21 h
      refine pv_aload_n C 0 dX3_longest_60 rfl rfl ?_
      have k22 := pq_wt (k := 0) W0 k0_ rfl
      refine pv_getr (T := TX3) (N := 1) C 0 inu_X3_longest_3 rfl (by decide) (by decide) (List.mem_of_getElem? (i := 1) rfl) rfl k0_ k22.1 dX3_longest_61 ?_
      refine pv_iload_n C 3 dX3_longest_64 rfl rfl ?_
      refine pv_iload C 4 dX3_longest_65 rfl ?_
      refine pv_iconst (v := 1) C dX3_longest_67 (by decide) ?_
      refine pv_iadd C dX3_longest_68 ?_
      refine pv_i2l C dX3_longest_69 ?_
      obtain ⟨⟨⟩, S24, e25, h⟩ := pq_bs h
      refine pv_callvV C (ci := 7) rfl (by decide) k22.2 [.int x3, .long (Int32.toInt64 (x4 + (1 : Int32)))] (fun sz => r_X7_put W0 k22.2 e25 sz) (cwV 2 C.1.2.2.2.2 gX3_longest_X7_put rfl rfl rfl (by decide +kernel) ⟨Nat.le_of_ble_eq_true rfl, Nat.le_of_ble_eq_true rfl⟩) rfl rfl (Nat.le_of_ble_eq_true rfl) dX3_longest_70 ⟨Nat.le_of_ble_eq_true rfl, Nat.le_of_ble_eq_true rfl⟩ ?_
      refine pv_iinc (v := (x3 + (1 : Int32))) C 3 [(3, .int (x3 + (1 : Int32))), (0, .ref a0), (1, .ref a1), (2, .int x2), (4, .int x4), (5, .int x5)] dX3_longest_73 rfl rfl (by decide) rfl ?_
      refine pv_goto (tgt := 2) C dX3_longest_76 (by decide) ?_
      refine pv_sub [1, 2, 3, 0] rfl ?_
      exact hk2 _ _ _ _ _ k0_ k1_ h
    · have h := pq_if c21 h
      refine pv_aload_n C 1 dX3_longest_25 rfl rfl ?_
      refine pv_iload_n C 3 dX3_longest_26 rfl rfl ?_
      obtain ⟨v26, S27, e28, h⟩ := pq_bs h
      have k29 := o_X9_at W0 k1_ e28
      refine pv_callrV C (ci := 9) rfl (by decide) k1_ [.int x3] (fun sz => r_X9_at W0 k1_ e28 sz) (cwV 1 C.1.2.2.2.2 gX3_longest_X9_at rfl rfl rfl (by decide +kernel) ⟨Nat.le_of_ble_eq_true rfl, Nat.le_of_ble_eq_true rfl⟩) rfl rfl (Nat.le_of_ble_eq_true rfl) dX3_longest_27 ⟨Nat.le_of_ble_eq_true rfl, Nat.le_of_ble_eq_true rfl⟩ ?_
      refine pv_iload C 5 dX3_longest_30 rfl ?_
      obtain ⟨v30, S31, e32, h⟩ := pq_bs h
      refine pv_calliV C (ci := 4) rfl (by decide) k29 [.int x5] (fun sz => r_X4_quotes W0 k29 e32 sz) (cwV 1 C.1.2.2.2.2 gX3_longest_X4_quotes rfl rfl rfl (by decide +kernel) ⟨Nat.le_of_ble_eq_true rfl, Nat.le_of_ble_eq_true rfl⟩) rfl rfl (Nat.le_of_ble_eq_true rfl) dX3_longest_32 ⟨Nat.le_of_ble_eq_true rfl, Nat.le_of_ble_eq_true rfl⟩ ?_
      refine pv_if_eq (tgt := 54) C dX3_longest_35 (by decide) (fun c33 => ?_) (fun c33 => ?_)
      · have h := pq_it c33 h
        refine pv_iinc (v := (x5 + (1 : Int32))) C 5 [(5, .int (x5 + (1 : Int32))), (0, .ref a0), (1, .ref a1), (2, .int x2), (3, .int x3), (4, .int x4)] dX3_longest_54 rfl rfl (by decide) rfl ?_
        refine pv_goto (tgt := 19) C dX3_longest_57 (by decide) ?_
        refine pv_sub [1, 2, 3, 4, 5, 0] rfl ?_
        exact ih _ _ _ _ _ _ _ k0_ k1_ h
      · have h := pq_if c33 h
        refine pv_iload C 4 dX3_longest_38 rfl ?_
        refine pv_aload_n C 0 dX3_longest_40 rfl rfl ?_
        have k34 := pq_wt (k := 0) W0 k0_ rfl
        refine pv_getr (T := TX3) (N := 1) C 0 inu_X3_longest_3 rfl (by decide) (by decide) (List.mem_of_getElem? (i := 1) rfl) rfl k0_ k34.1 dX3_longest_41 ?_
        refine pv_iload C 5 dX3_longest_44 rfl ?_
        obtain ⟨v35, S36, e37, h⟩ := pq_bs h
        refine pv_calliV C (ci := 7) rfl (by decide) k34.2 [.int x5] (fun sz => r_X7_number W0 k34.2 e37 sz) (cwV 1 C.1.2.2.2.2 gX3_longest_X7_number rfl rfl rfl (by decide +kernel) ⟨Nat.le_of_ble_eq_true rfl, Nat.le_of_ble_eq_true rfl⟩) rfl rfl (Nat.le_of_ble_eq_true rfl) dX3_longest_46 ⟨Nat.le_of_ble_eq_true rfl, Nat.le_of_ble_eq_true rfl⟩ ?_
        refine pv_mmax C (List.mem_of_getElem? (i := 2) rfl) (List.mem_of_getElem? (i := 3) rfl) (List.mem_of_getElem? (i := 4) rfl) (List.mem_of_getElem? (i := 5) rfl) (Nat.le_of_ble_eq_true rfl) (Nat.le_of_ble_eq_true rfl) (Nat.le_of_ble_eq_true rfl) (Nat.le_of_ble_eq_true rfl) dX3_longest_49 ?_
        refine pv_nmi (fun i38 e39 => ?_)
        have h := pq_ls e39 h
        refine pv_istore C [(4, .int i38), (0, .ref a0), (1, .ref a1), (2, .int x2), (3, .int x3), (5, .int x5)] dX3_longest_52 (by decide) rfl ?_
        refine pv_iinc (v := (x5 + (1 : Int32))) C 5 [(5, .int (x5 + (1 : Int32))), (4, .int i38), (0, .ref a0), (1, .ref a1), (2, .int x2), (3, .int x3)] dX3_longest_54 rfl rfl (by decide) rfl ?_
        refine pv_goto (tgt := 19) C dX3_longest_57 (by decide) ?_
        refine pv_sub [2, 3, 4, 5, 1, 0] rfl ?_
        exact ih _ _ _ _ _ _ _ k0_ k1_ h
set_option maxHeartbeats 4000000 in
set_option maxRecDepth 100000 in
theorem r_X3_longest_b2 {p : Program} {l : Launch} {e : Env} {s : State} {m : MethodId} {av : Array Value} {below : List Frame} {meth : Method} {c : Code} {D : va_G} {y : pq_Y} {G : pq_G} {r : Int32} {S1 : pq_N} (W0 : pq_WT G) (C : pq_C p s m av c D y RX3 wsX3_longest cX3_longest 6) (hr : meth.sig.returnType = (some .int)) (hlk : meth.locks = false) (n : Nat) : ∀ (S : pq_N) (a0 : Nat) (a1 : Nat) (x2 : Int32) (x3 : Int32), pq_ok G 3 a0 → pq_ok G 9 a1 → F_X3_longest_b2 G n S a0 a1 x2 x3 = some (r, S1) → pq_V p l e (headSpec wsX3_longest ({ frames := 2, cells := 0, slots := 0, locals := 43 } : Room)).room s m av below meth c 0 0 (MQ below (pq_Qi D y G s.heap.size r S1) av s 0 0 (pq_A G s.heap.size)) D y 6 (pq_A G s.heap.size) (fun _ => True) G S 2 [(0, .ref a0), (1, .ref a1), (2, .int x2), (3, .int x3)] [] := by
  induction n with
  | zero =>
    intro S a0 a1 x2 x3 k0_ k1_ h
    rw [F_X3_longest_b2.eq_1] at h; cases h
  | succ n ih =>
    intro S a0 a1 x2 x3 k0_ k1_ h
    rw [F_X3_longest_b2.eq_2] at h
    refine pv_iload_n C 3 dX3_longest_2 rfl rfl ?_
    refine pv_iload_n C 2 dX3_longest_3 rfl rfl ?_
    refine pv_icmp_gt (tgt := 79) C dX3_longest_4 (by decide) (fun c11 => ?_) (fun c11 => ?_)
    · have h := pq_it c11 h
      refine pv_aload_n C 0 dX3_longest_79 rfl rfl ?_
      have k12 := pq_wt (k := 0) W0 k0_ rfl
      refine pv_getr (T := TX3) (N := 1) C 0 inu_X3_longest_3 rfl (by decide) (by decide) (List.mem_of_getElem? (i := 1) rfl) rfl k0_ k12.1 dX3_longest_80 ?_
      refine pv_iload_n C 2 dX3_longest_83 rfl rfl ?_
      obtain ⟨v13, S14, e15, h⟩ := pq_bs h
      refine pv_calliV C (ci := 7) rfl (by decide) k12.2 [.int x2] (fun sz => r_X7_number W0 k12.2 e15 sz) (cwV 1 C.1.2.2.2.2 gX3_longest_X7_number rfl rfl rfl (by decide +kernel) ⟨Nat.le_of_ble_eq_true rfl, Nat.le_of_ble_eq_true rfl⟩) rfl rfl (Nat.le_of_ble_eq_true rfl) dX3_longest_84 ⟨Nat.le_of_ble_eq_true rfl, Nat.le_of_ble_eq_true rfl⟩ ?_
      exact pv_iret C hr hlk h dX3_longest_87
    · have h := pq_if c11 h
      refine pv_iload_n C 3 dX3_longest_7 rfl rfl ?_
      refine pv_bipush (v := 20) C dX3_longest_8 (by decide) ?_
      refine pv_icmp_ge (tgt := 79) C dX3_longest_10 (by decide) (fun c16 => ?_) (fun c16 => ?_)
      · have h := pq_it c16 h
        refine pv_aload_n C 0 dX3_longest_79 rfl rfl ?_
        have k17 := pq_wt (k := 0) W0 k0_ rfl
        refine pv_getr (T := TX3) (N := 1) C 0 inu_X3_longest_3 rfl (by decide) (by decide) (List.mem_of_getElem? (i := 1) rfl) rfl k0_ k17.1 dX3_longest_80 ?_
        refine pv_iload_n C 2 dX3_longest_83 rfl rfl ?_
        obtain ⟨v18, S19, e20, h⟩ := pq_bs h
        refine pv_calliV C (ci := 7) rfl (by decide) k17.2 [.int x2] (fun sz => r_X7_number W0 k17.2 e20 sz) (cwV 1 C.1.2.2.2.2 gX3_longest_X7_number rfl rfl rfl (by decide +kernel) ⟨Nat.le_of_ble_eq_true rfl, Nat.le_of_ble_eq_true rfl⟩) rfl rfl (Nat.le_of_ble_eq_true rfl) dX3_longest_84 ⟨Nat.le_of_ble_eq_true rfl, Nat.le_of_ble_eq_true rfl⟩ ?_
        exact pv_iret C hr hlk h dX3_longest_87
      · have h := pq_if c16 h
        refine pv_iconst (v := 0) C dX3_longest_13 (by decide) ?_
        refine pv_istore C [(4, .int (0 : Int32)), (0, .ref a0), (1, .ref a1), (2, .int x2), (3, .int x3)] dX3_longest_14 (by decide) rfl ?_
        refine pv_iconst (v := 0) C dX3_longest_16 (by decide) ?_
        refine pv_istore C [(5, .int (0 : Int32)), (4, .int (0 : Int32)), (0, .ref a0), (1, .ref a1), (2, .int x2), (3, .int x3)] dX3_longest_17 (by decide) rfl ?_
        refine pv_sub [2, 3, 4, 5, 1, 0] rfl ?_
        exact r_X3_longest_b19 W0 C hr hlk ih pq_fuel _ _ _ _ _ _ _ k0_ k1_ h
set_option maxHeartbeats 4000000 in
set_option maxRecDepth 100000 in
theorem r_X3_longest {l : Launch} {D : va_G} {y : pq_Y} {G : pq_G} (W0 : pq_WT G) {S : pq_N} {a0 : Nat} {a1 : Nat} {x2 : Int32} (k0_ : pq_ok G 3 a0) (k1_ : pq_ok G 9 a1) {r : Int32} {S1 : pq_N} (h : F_X3_longest G S a0 a1 x2 = some (r, S1)) (sz : Nat) : Met l yX3_longest wsX3_longest ({ frames := 2, cells := 0, slots := 0, locals := 43 } : Room) (pq_P D y G S sz [.ref a0, .ref a1, .int x2]) (pq_Qi D y G sz r S1) 0 0 (pq_A G sz) := by
  refine pq_enter RX3 6 (by decide) rfl rfl rfl ?_
  intro p e s m below meth c C hsz hr hlk
  subst hsz
  unfold F_X3_longest at h
  refine pv_sub (lo1 := [(0, .ref a0), (1, .ref a1), (2, .int x2)]) [0, 1, 2] rfl ?_
  refine pv_iconst (v := 0) C dX3_longest_0 (by decide) ?_
  refine pv_istore_n C [(3, .int (0 : Int32)), (0, .ref a0), (1, .ref a1), (2, .int x2)] dX3_longest_1 rfl (by decide) rfl ?_
  refine pv_sub [1, 2, 3, 0] rfl ?_
  exact r_X3_longest_b2 W0 C hr hlk pq_fuel _ _ _ _ _ k0_ k1_ h
def F_X3_readIn_b4 (G : pq_G)  : Nat → pq_N → Nat → Int32 → Int32 → Option (Int32 × pq_N)
  | 0, _, _, _, _ => none
  | n + 1, S, a0, x2, x3 => (if (20 : Int32) ≤ x3 then some ((-1 : Int32), S) else (pq_bd (F_X7_number G S (pq_r G a0 0) x3) fun v13 S14 => (if v13 = (1 : Int32) then (if x2 = (0 : Int32) then some (x3, S14) else (F_X3_readIn_b4 G n) S14 a0 (x2 + (-1 : Int32)) (x3 + (1 : Int32))) else (F_X3_readIn_b4 G n) S14 a0 x2 (x3 + (1 : Int32)))))
def F_X3_readIn (G : pq_G) (S : pq_N) (a0 : Nat) (x1 : Int32) : Option (Int32 × pq_N) := F_X3_readIn_b4 G pq_fuel S a0 x1 (0 : Int32)
theorem inu_X3_readIn_3 : ∀ w ∈ u_ws RX3 TX3 1, w ∈ wsX3_readIn := pq_inu 8 rfl
set_option maxHeartbeats 4000000 in
set_option maxRecDepth 100000 in
theorem r_X3_readIn_b4 {p : Program} {l : Launch} {e : Env} {s : State} {m : MethodId} {av : Array Value} {below : List Frame} {meth : Method} {c : Code} {D : va_G} {y : pq_Y} {G : pq_G} {r : Int32} {S1 : pq_N} (W0 : pq_WT G) (C : pq_C p s m av c D y RX3 wsX3_readIn cX3_readIn 4) (hr : meth.sig.returnType = (some .int)) (hlk : meth.locks = false) (n : Nat) : ∀ (S : pq_N) (a0 : Nat) (x2 : Int32) (x3 : Int32), pq_ok G 3 a0 → F_X3_readIn_b4 G n S a0 x2 x3 = some (r, S1) → pq_V p l e (headSpec wsX3_readIn ({ frames := 1, cells := 0, slots := 0, locals := 21 } : Room)).room s m av below meth c 0 0 (MQ below (pq_Qi D y G s.heap.size r S1) av s 0 0 (pq_A G s.heap.size)) D y 4 (pq_A G s.heap.size) (fun _ => True) G S 4 [(0, .ref a0), (2, .int x2), (3, .int x3)] [] := by
  induction n with
  | zero =>
    intro S a0 x2 x3 k0_ h
    rw [F_X3_readIn_b4.eq_1] at h; cases h
  | succ n ih =>
    intro S a0 x2 x3 k0_ h
    rw [F_X3_readIn_b4.eq_2] at h
    refine pv_iload_n C 2 dX3_readIn_4 rfl rfl ?_
    refine pv_bipush (v := 20) C dX3_readIn_5 (by decide) ?_
    refine pv_icmp_ge (tgt := 37) C dX3_readIn_7 (by decide) (fun c11 => ?_) (fun c11 => ?_)
    · have h := pq_it c11 h
      refine pv_iconst (v := -1) C dX3_readIn_37 (by decide) ?_
      exact pv_iret C hr hlk h dX3_readIn_38
    · have h := pq_if c11 h
      refine pv_aload_n C 0 dX3_readIn_10 rfl rfl ?_
      have k12 := pq_wt (k := 0) W0 k0_ rfl
      refine pv_getr (T := TX3) (N := 1) C 0 inu_X3_readIn_3 rfl (by decide) (by decide) (List.mem_of_getElem? (i := 1) rfl) rfl k0_ k12.1 dX3_readIn_11 ?_
      refine pv_iload_n C 2 dX3_readIn_14 rfl rfl ?_
      obtain ⟨v13, S14, e15, h⟩ := pq_bs h
      refine pv_calliV C (ci := 7) rfl (by decide) k12.2 [.int x3] (fun sz => r_X7_number W0 k12.2 e15 sz) (cwV 1 C.1.2.2.2.2 gX3_readIn_X7_number rfl rfl rfl (by decide +kernel) ⟨Nat.le_of_ble_eq_true rfl, Nat.le_of_ble_eq_true rfl⟩) rfl rfl (Nat.le_of_ble_eq_true rfl) dX3_readIn_15 ⟨Nat.le_of_ble_eq_true rfl, Nat.le_of_ble_eq_true rfl⟩ ?_
      refine pv_iconst (v := 1) C dX3_readIn_18 (by decide) ?_
      refine pv_icmp_ne (tgt := 31) C dX3_readIn_19 (by decide) (fun c16 => ?_) (fun c16 => ?_)
      · have h := pq_if c16 h
        refine pv_iinc (v := (x3 + (1 : Int32))) C 2 [(3, .int (x3 + (1 : Int32))), (0, .ref a0), (2, .int x2)] dX3_readIn_31 rfl rfl (by decide) rfl ?_
        refine pv_goto (tgt := 4) C dX3_readIn_34 (by decide) ?_
        refine pv_sub [1, 2, 0] rfl ?_
        exact ih _ _ _ _ k0_ h
      · have h := pq_it c16 h
        refine pv_iload_n C 1 dX3_readIn_22 rfl rfl ?_
        refine pv_if_ne (tgt := 28) C dX3_readIn_23 (by decide) (fun c17 => ?_) (fun c17 => ?_)
        · have h := pq_if c17 h
          refine pv_iinc (v := (x2 + (-1 : Int32))) C 1 [(2, .int (x2 + (-1 : Int32))), (0, .ref a0), (3, .int x3)] dX3_readIn_28 rfl rfl (by decide) rfl ?_
          refine pv_iinc (v := (x3 + (1 : Int32))) C 2 [(3, .int (x3 + (1 : Int32))), (2, .int (x2 + (-1 : Int32))), (0, .ref a0)] dX3_readIn_31 rfl rfl (by decide) rfl ?_
          refine pv_goto (tgt := 4) C dX3_readIn_34 (by decide) ?_
          refine pv_sub [2, 1, 0] rfl ?_
          exact ih _ _ _ _ k0_ h
        · have h := pq_it c17 h
          refine pv_iload_n C 2 dX3_readIn_26 rfl rfl ?_
          exact pv_iret C hr hlk h dX3_readIn_27
set_option maxHeartbeats 4000000 in
set_option maxRecDepth 100000 in
theorem r_X3_readIn {l : Launch} {D : va_G} {y : pq_Y} {G : pq_G} (W0 : pq_WT G) {S : pq_N} {a0 : Nat} {x1 : Int32} (k0_ : pq_ok G 3 a0) {r : Int32} {S1 : pq_N} (h : F_X3_readIn G S a0 x1 = some (r, S1)) (sz : Nat) : Met l yX3_readIn wsX3_readIn ({ frames := 1, cells := 0, slots := 0, locals := 21 } : Room) (pq_P D y G S sz [.ref a0, .int x1]) (pq_Qi D y G sz r S1) 0 0 (pq_A G sz) := by
  refine pq_enter RX3 4 (by decide) rfl rfl rfl ?_
  intro p e s m below meth c C hsz hr hlk
  subst hsz
  unfold F_X3_readIn at h
  refine pv_sub (lo1 := [(0, .ref a0), (1, .int x1)]) [0, 1] rfl ?_
  refine pv_iload_n C 1 dX3_readIn_0 rfl rfl ?_
  refine pv_istore_n C [(2, .int x1), (0, .ref a0), (1, .int x1)] dX3_readIn_1 rfl (by decide) rfl ?_
  refine pv_iconst (v := 0) C dX3_readIn_2 (by decide) ?_
  refine pv_istore_n C [(3, .int (0 : Int32)), (2, .int x1), (0, .ref a0), (1, .int x1)] dX3_readIn_3 rfl (by decide) rfl ?_
  refine pv_sub [2, 1, 0] rfl ?_
  exact r_X3_readIn_b4 W0 C hr hlk pq_fuel _ _ _ _ k0_ h
def F_X4_addQuotation (G : pq_G) (S : pq_N) (a0 : Nat) (x1 : Int32) (x2 : Int32) : Option (Unit × pq_N) := (pq_bd (F_X7_put G S (pq_r G a0 1) (S.1 a0 7) (Int32.toInt64 x1)) fun _ S13 => (pq_bd (F_X7_put G S13 (pq_r G a0 2) (S13.1 a0 7) (Int32.toInt64 x2)) fun _ S17 => (pq_bd (F_X7_put G S17 (pq_r G a0 3) (S17.1 a0 7) (Int32.toInt64 ((S17.1 a0 6) - x2))) fun _ S21 => (pq_lt (pq_wi S21 a0 7 ((S21.1 a0 7) + (1 : Int32))) fun S23 => some ((), S23)))))
theorem inu_X4_addQuotation_4 : ∀ w ∈ u_ws RX4 TX4 8, w ∈ wsX4_addQuotation := pq_inu 12 rfl
set_option maxHeartbeats 4000000 in
set_option maxRecDepth 100000 in
theorem r_X4_addQuotation {l : Launch} {D : va_G} {y : pq_Y} {G : pq_G} (W0 : pq_WT G) {S : pq_N} {a0 : Nat} {x1 : Int32} {x2 : Int32} (k0_ : pq_ok G 4 a0) {S1 : pq_N} (h : F_X4_addQuotation G S a0 x1 x2 = some ((), S1)) (sz : Nat) : Met l yX4_addQuotation wsX4_addQuotation ({ frames := 1, cells := 0, slots := 0, locals := 23 } : Room) (pq_P D y G S sz [.ref a0, .int x1, .int x2]) (pq_Qv D y G sz S1) 0 0 (pq_A G sz) := by
  refine pq_enter RX4 3 (by decide) rfl rfl rfl ?_
  intro p e s m below meth c C hsz hr hlk
  subst hsz
  unfold F_X4_addQuotation at h
  refine pv_sub (lo1 := [(0, .ref a0), (1, .int x1), (2, .int x2)]) [0, 1, 2] rfl ?_
  refine pv_aload_n C 0 dX4_addQuotation_0 rfl rfl ?_
  have k11 := pq_wt (k := 1) W0 k0_ rfl
  refine pv_getr (T := TX4) (N := 8) C 1 inu_X4_addQuotation_4 rfl (by decide) (by decide) (List.mem_of_getElem? (i := 1) rfl) rfl k0_ k11.1 dX4_addQuotation_1 ?_
  refine pv_aload_n C 0 dX4_addQuotation_4 rfl rfl ?_
  refine pv_geti (T := TX4) (N := 8) C 7 inu_X4_addQuotation_4 rfl (by decide) (by decide) (List.mem_of_getElem? (i := 2) rfl) rfl k0_ dX4_addQuotation_5 ?_
  refine pv_iload_n C 1 dX4_addQuotation_8 rfl rfl ?_
  refine pv_i2l C dX4_addQuotation_9 ?_
  obtain ⟨⟨⟩, S13, e14, h⟩ := pq_bs h
  refine pv_callvV C (ci := 7) rfl (by decide) k11.2 [.int (S.1 a0 7), .long (Int32.toInt64 x1)] (fun sz => r_X7_put W0 k11.2 e14 sz) (cwV 2 C.1.2.2.2.2 gX4_addQuotation_X7_put rfl rfl rfl (by decide +kernel) ⟨Nat.le_of_ble_eq_true rfl, Nat.le_of_ble_eq_true rfl⟩) rfl rfl (Nat.le_of_ble_eq_true rfl) dX4_addQuotation_10 ⟨Nat.le_of_ble_eq_true rfl, Nat.le_of_ble_eq_true rfl⟩ ?_
  refine pv_aload_n C 0 dX4_addQuotation_13 rfl rfl ?_
  have k15 := pq_wt (k := 2) W0 k0_ rfl
  refine pv_getr (T := TX4) (N := 8) C 2 inu_X4_addQuotation_4 rfl (by decide) (by decide) (List.mem_of_getElem? (i := 3) rfl) rfl k0_ k15.1 dX4_addQuotation_14 ?_
  refine pv_aload_n C 0 dX4_addQuotation_17 rfl rfl ?_
  refine pv_geti (T := TX4) (N := 8) C 7 inu_X4_addQuotation_4 rfl (by decide) (by decide) (List.mem_of_getElem? (i := 2) rfl) rfl k0_ dX4_addQuotation_18 ?_
  refine pv_iload_n C 2 dX4_addQuotation_21 rfl rfl ?_
  refine pv_i2l C dX4_addQuotation_22 ?_
  obtain ⟨⟨⟩, S17, e18, h⟩ := pq_bs h
  refine pv_callvV C (ci := 7) rfl (by decide) k15.2 [.int (S13.1 a0 7), .long (Int32.toInt64 x2)] (fun sz => r_X7_put W0 k15.2 e18 sz) (cwV 2 C.1.2.2.2.2 gX4_addQuotation_X7_put rfl rfl rfl (by decide +kernel) ⟨Nat.le_of_ble_eq_true rfl, Nat.le_of_ble_eq_true rfl⟩) rfl rfl (Nat.le_of_ble_eq_true rfl) dX4_addQuotation_23 ⟨Nat.le_of_ble_eq_true rfl, Nat.le_of_ble_eq_true rfl⟩ ?_
  refine pv_aload_n C 0 dX4_addQuotation_26 rfl rfl ?_
  have k19 := pq_wt (k := 3) W0 k0_ rfl
  refine pv_getr (T := TX4) (N := 8) C 3 inu_X4_addQuotation_4 rfl (by decide) (by decide) (List.mem_of_getElem? (i := 4) rfl) rfl k0_ k19.1 dX4_addQuotation_27 ?_
  refine pv_aload_n C 0 dX4_addQuotation_30 rfl rfl ?_
  refine pv_geti (T := TX4) (N := 8) C 7 inu_X4_addQuotation_4 rfl (by decide) (by decide) (List.mem_of_getElem? (i := 2) rfl) rfl k0_ dX4_addQuotation_31 ?_
  refine pv_aload_n C 0 dX4_addQuotation_34 rfl rfl ?_
  refine pv_geti (T := TX4) (N := 8) C 6 inu_X4_addQuotation_4 rfl (by decide) (by decide) (List.mem_of_getElem? (i := 5) rfl) rfl k0_ dX4_addQuotation_35 ?_
  refine pv_iload_n C 2 dX4_addQuotation_38 rfl rfl ?_
  refine pv_isub C dX4_addQuotation_39 ?_
  refine pv_i2l C dX4_addQuotation_40 ?_
  obtain ⟨⟨⟩, S21, e22, h⟩ := pq_bs h
  refine pv_callvV C (ci := 7) rfl (by decide) k19.2 [.int (S17.1 a0 7), .long (Int32.toInt64 ((S17.1 a0 6) - x2))] (fun sz => r_X7_put W0 k19.2 e22 sz) (cwV 2 C.1.2.2.2.2 gX4_addQuotation_X7_put rfl rfl rfl (by decide +kernel) ⟨Nat.le_of_ble_eq_true rfl, Nat.le_of_ble_eq_true rfl⟩) rfl rfl (Nat.le_of_ble_eq_true rfl) dX4_addQuotation_41 ⟨Nat.le_of_ble_eq_true rfl, Nat.le_of_ble_eq_true rfl⟩ ?_
  refine pv_aload_n C 0 dX4_addQuotation_44 rfl rfl ?_
  refine pv_dup C dX4_addQuotation_45 rfl ?_
  refine pv_geti (T := TX4) (N := 8) C 7 inu_X4_addQuotation_4 rfl (by decide) (by decide) (List.mem_of_getElem? (i := 2) rfl) rfl k0_ dX4_addQuotation_46 ?_
  refine pv_iconst (v := 1) C dX4_addQuotation_49 (by decide) ?_
  refine pv_iadd C dX4_addQuotation_50 ?_
  refine pv_put (T := TX4) (N := 8) (ty := .int) C 7 inu_X4_addQuotation_4 rfl (by decide) tyX4 tyX4_ok nmX4 (by decide) (List.mem_of_getElem? (i := 2) rfl) rfl k0_ rfl (by decide +kernel) rfl rfl dX4_addQuotation_51 ?_
  refine pv_nm (fun S23 e24 => ?_)
  have h := pq_ls e24 h
  exact pv_vret C hr hlk h dX4_addQuotation_54
def F_X4_addWord (G : pq_G) (S : pq_N) (a0 : Nat) (x1 : Int64) : Option (Unit × pq_N) := (pq_bd (F_X7_put G S (pq_r G a0 0) (S.1 a0 6) x1) fun _ S13 => (pq_lt (pq_wi S13 a0 6 ((S13.1 a0 6) + (1 : Int32))) fun S15 => some ((), S15)))
theorem inu_X4_addWord_4 : ∀ w ∈ u_ws RX4 TX4 8, w ∈ wsX4_addWord := pq_inu 9 rfl
set_option maxHeartbeats 4000000 in
set_option maxRecDepth 100000 in
theorem r_X4_addWord {l : Launch} {D : va_G} {y : pq_Y} {G : pq_G} (W0 : pq_WT G) {S : pq_N} {a0 : Nat} {x1 : Int64} (k0_ : pq_ok G 4 a0) {S1 : pq_N} (h : F_X4_addWord G S a0 x1 = some ((), S1)) (sz : Nat) : Met l yX4_addWord wsX4_addWord ({ frames := 1, cells := 0, slots := 0, locals := 23 } : Room) (pq_P D y G S sz [.ref a0, .long x1]) (pq_Qv D y G sz S1) 0 0 (pq_A G sz) := by
  refine pq_enter RX4 3 (by decide) rfl rfl rfl ?_
  intro p e s m below meth c C hsz hr hlk
  subst hsz
  unfold F_X4_addWord at h
  refine pv_sub (lo1 := [(0, .ref a0), (1, .long x1)]) [0, 1] rfl ?_
  refine pv_aload_n C 0 dX4_addWord_0 rfl rfl ?_
  have k11 := pq_wt (k := 0) W0 k0_ rfl
  refine pv_getr (T := TX4) (N := 8) C 0 inu_X4_addWord_4 rfl (by decide) (by decide) (List.mem_of_getElem? (i := 1) rfl) rfl k0_ k11.1 dX4_addWord_1 ?_
  refine pv_aload_n C 0 dX4_addWord_4 rfl rfl ?_
  refine pv_geti (T := TX4) (N := 8) C 6 inu_X4_addWord_4 rfl (by decide) (by decide) (List.mem_of_getElem? (i := 2) rfl) rfl k0_ dX4_addWord_5 ?_
  refine pv_lload_n C 1 dX4_addWord_8 rfl rfl ?_
  obtain ⟨⟨⟩, S13, e14, h⟩ := pq_bs h
  refine pv_callvV C (ci := 7) rfl (by decide) k11.2 [.int (S.1 a0 6), .long x1] (fun sz => r_X7_put W0 k11.2 e14 sz) (cwV 2 C.1.2.2.2.2 gX4_addWord_X7_put rfl rfl rfl (by decide +kernel) ⟨Nat.le_of_ble_eq_true rfl, Nat.le_of_ble_eq_true rfl⟩) rfl rfl (Nat.le_of_ble_eq_true rfl) dX4_addWord_9 ⟨Nat.le_of_ble_eq_true rfl, Nat.le_of_ble_eq_true rfl⟩ ?_
  refine pv_aload_n C 0 dX4_addWord_12 rfl rfl ?_
  refine pv_dup C dX4_addWord_13 rfl ?_
  refine pv_geti (T := TX4) (N := 8) C 6 inu_X4_addWord_4 rfl (by decide) (by decide) (List.mem_of_getElem? (i := 2) rfl) rfl k0_ dX4_addWord_14 ?_
  refine pv_iconst (v := 1) C dX4_addWord_17 (by decide) ?_
  refine pv_iadd C dX4_addWord_18 ?_
  refine pv_put (T := TX4) (N := 8) (ty := .int) C 6 inu_X4_addWord_4 rfl (by decide) tyX4 tyX4_ok nmX4 (by decide) (List.mem_of_getElem? (i := 2) rfl) rfl k0_ rfl (by decide +kernel) rfl rfl dX4_addWord_19 ?_
  refine pv_nm (fun S15 e16 => ?_)
  have h := pq_ls e16 h
  exact pv_vret C hr hlk h dX4_addWord_22
def F_X4_empty (G : pq_G) (S : pq_N) (a0 : Nat) : Option (Unit × pq_N) := (pq_lt (pq_wi S a0 6 (0 : Int32)) fun S11 => (pq_lt (pq_wi S11 a0 7 (0 : Int32)) fun S13 => some ((), S13)))
theorem inu_X4_empty_4 : ∀ w ∈ u_ws RX4 TX4 8, w ∈ wsX4_empty := pq_inu 3 rfl
set_option maxHeartbeats 4000000 in
set_option maxRecDepth 100000 in
theorem r_X4_empty {l : Launch} {D : va_G} {y : pq_Y} {G : pq_G} (W0 : pq_WT G) {S : pq_N} {a0 : Nat} (k0_ : pq_ok G 4 a0) {S1 : pq_N} (h : F_X4_empty G S a0 = some ((), S1)) (sz : Nat) : Met l yX4_empty wsX4_empty ({ frames := 0, cells := 0, slots := 0, locals := 0 } : Room) (pq_P D y G S sz [.ref a0]) (pq_Qv D y G sz S1) 0 0 (pq_A G sz) := by
  refine pq_enter RX4 1 (by decide) rfl rfl rfl ?_
  intro p e s m below meth c C hsz hr hlk
  subst hsz
  unfold F_X4_empty at h
  refine pv_sub (lo1 := [(0, .ref a0)]) [0] rfl ?_
  refine pv_aload_n C 0 dX4_empty_0 rfl rfl ?_
  refine pv_iconst (v := 0) C dX4_empty_1 (by decide) ?_
  refine pv_put (T := TX4) (N := 8) (ty := .int) C 6 inu_X4_empty_4 rfl (by decide) tyX4 tyX4_ok nmX4 (by decide) (List.mem_of_getElem? (i := 1) rfl) rfl k0_ rfl (by decide +kernel) rfl rfl dX4_empty_2 ?_
  refine pv_nm (fun S11 e12 => ?_)
  have h := pq_ls e12 h
  refine pv_aload_n C 0 dX4_empty_5 rfl rfl ?_
  refine pv_iconst (v := 0) C dX4_empty_6 (by decide) ?_
  refine pv_put (T := TX4) (N := 8) (ty := .int) C 7 inu_X4_empty_4 rfl (by decide) tyX4 tyX4_ok nmX4 (by decide) (List.mem_of_getElem? (i := 2) rfl) rfl k0_ rfl (by decide +kernel) rfl rfl dX4_empty_7 ?_
  refine pv_nm (fun S13 e14 => ?_)
  have h := pq_ls e14 h
  exact pv_vret C hr hlk h dX4_empty_10
def F_X4_growth (G : pq_G) (S : pq_N) (a0 : Nat) (x1 : Int32) (x2 : Int32) : Option (Int32 × pq_N) := (pq_bd (F_X7_number G S (pq_r G a0 3) x1) fun v12 S13 => some ((x2 - v12), S13))
theorem inu_X4_growth_4 : ∀ w ∈ u_ws RX4 TX4 8, w ∈ wsX4_growth := pq_inu 8 rfl
set_option maxHeartbeats 4000000 in
set_option maxRecDepth 100000 in
theorem r_X4_growth {l : Launch} {D : va_G} {y : pq_Y} {G : pq_G} (W0 : pq_WT G) {S : pq_N} {a0 : Nat} {x1 : Int32} {x2 : Int32} (k0_ : pq_ok G 4 a0) {r : Int32} {S1 : pq_N} (h : F_X4_growth G S a0 x1 x2 = some (r, S1)) (sz : Nat) : Met l yX4_growth wsX4_growth ({ frames := 1, cells := 0, slots := 0, locals := 21 } : Room) (pq_P D y G S sz [.ref a0, .int x1, .int x2]) (pq_Qi D y G sz r S1) 0 0 (pq_A G sz) := by
  refine pq_enter RX4 3 (by decide) rfl rfl rfl ?_
  intro p e s m below meth c C hsz hr hlk
  subst hsz
  unfold F_X4_growth at h
  refine pv_sub (lo1 := [(0, .ref a0), (1, .int x1), (2, .int x2)]) [0, 1, 2] rfl ?_
  refine pv_iload_n C 2 dX4_growth_0 rfl rfl ?_
  refine pv_aload_n C 0 dX4_growth_1 rfl rfl ?_
  have k11 := pq_wt (k := 3) W0 k0_ rfl
  refine pv_getr (T := TX4) (N := 8) C 3 inu_X4_growth_4 rfl (by decide) (by decide) (List.mem_of_getElem? (i := 1) rfl) rfl k0_ k11.1 dX4_growth_2 ?_
  refine pv_iload_n C 1 dX4_growth_5 rfl rfl ?_
  obtain ⟨v12, S13, e14, h⟩ := pq_bs h
  refine pv_calliV C (ci := 7) rfl (by decide) k11.2 [.int x1] (fun sz => r_X7_number W0 k11.2 e14 sz) (cwV 1 C.1.2.2.2.2 gX4_growth_X7_number rfl rfl rfl (by decide +kernel) ⟨Nat.le_of_ble_eq_true rfl, Nat.le_of_ble_eq_true rfl⟩) rfl rfl (Nat.le_of_ble_eq_true rfl) dX4_growth_6 ⟨Nat.le_of_ble_eq_true rfl, Nat.le_of_ble_eq_true rfl⟩ ?_
  refine pv_isub C dX4_growth_9 ?_
  exact pv_iret C hr hlk h dX4_growth_10
def F_X4_isWithin (G : pq_G) (S : pq_N) (a0 : Nat) (x1 : Int32) (x2 : Int32) (x3 : Int32) : Option (Int32 × pq_N) := (pq_bd (F_X7_number G S (pq_r G a0 2) x1) fun v12 S13 => (if x2 < v12 then some ((0 : Int32), S13) else (pq_bd (F_X7_number G S13 (pq_r G a0 3) x1) fun v17 S18 => (if (v12 + v17) < (x2 + x3) then some ((0 : Int32), S18) else some ((1 : Int32), S18)))))
theorem inu_X4_isWithin_4 : ∀ w ∈ u_ws RX4 TX4 8, w ∈ wsX4_isWithin := pq_inu 9 rfl
set_option maxHeartbeats 4000000 in
set_option maxRecDepth 100000 in
theorem r_X4_isWithin {l : Launch} {D : va_G} {y : pq_Y} {G : pq_G} (W0 : pq_WT G) {S : pq_N} {a0 : Nat} {x1 : Int32} {x2 : Int32} {x3 : Int32} (k0_ : pq_ok G 4 a0) {r : Int32} {S1 : pq_N} (h : F_X4_isWithin G S a0 x1 x2 x3 = some (r, S1)) (sz : Nat) : Met l yX4_isWithin wsX4_isWithin ({ frames := 1, cells := 0, slots := 0, locals := 21 } : Room) (pq_P D y G S sz [.ref a0, .int x1, .int x2, .int x3]) (pq_Qi D y G sz r S1) 0 0 (pq_A G sz) := by
  refine pq_enter RX4 5 (by decide) rfl rfl rfl ?_
  intro p e s m below meth c C hsz hr hlk
  subst hsz
  unfold F_X4_isWithin at h
  refine pv_sub (lo1 := [(0, .ref a0), (1, .int x1), (2, .int x2), (3, .int x3)]) [0, 1, 2, 3] rfl ?_
  refine pv_aload_n C 0 dX4_isWithin_0 rfl rfl ?_
  have k11 := pq_wt (k := 2) W0 k0_ rfl
  refine pv_getr (T := TX4) (N := 8) C 2 inu_X4_isWithin_4 rfl (by decide) (by decide) (List.mem_of_getElem? (i := 1) rfl) rfl k0_ k11.1 dX4_isWithin_1 ?_
  refine pv_iload_n C 1 dX4_isWithin_4 rfl rfl ?_
  obtain ⟨v12, S13, e14, h⟩ := pq_bs h
  refine pv_calliV C (ci := 7) rfl (by decide) k11.2 [.int x1] (fun sz => r_X7_number W0 k11.2 e14 sz) (cwV 1 C.1.2.2.2.2 gX4_isWithin_X7_number rfl rfl rfl (by decide +kernel) ⟨Nat.le_of_ble_eq_true rfl, Nat.le_of_ble_eq_true rfl⟩) rfl rfl (Nat.le_of_ble_eq_true rfl) dX4_isWithin_5 ⟨Nat.le_of_ble_eq_true rfl, Nat.le_of_ble_eq_true rfl⟩ ?_
  refine pv_istore C [(4, .int v12), (0, .ref a0), (1, .int x1), (2, .int x2), (3, .int x3)] dX4_isWithin_8 (by decide) rfl ?_
  refine pv_iload_n C 3 dX4_isWithin_10 rfl rfl ?_
  refine pv_iload C 0 dX4_isWithin_11 rfl ?_
  refine pv_icmp_lt (tgt := 37) C dX4_isWithin_13 (by decide) (fun c15 => ?_) (fun c15 => ?_)
  · have h := pq_it c15 h
    refine pv_iconst (v := 0) C dX4_isWithin_37 (by decide) ?_
    exact pv_zret C hr rfl hlk h dX4_isWithin_38
  · have h := pq_if c15 h
    refine pv_iload_n C 3 dX4_isWithin_16 rfl rfl ?_
    refine pv_iload_n C 4 dX4_isWithin_17 rfl rfl ?_
    refine pv_iadd C dX4_isWithin_18 ?_
    refine pv_iload C 0 dX4_isWithin_19 rfl ?_
    refine pv_aload_n C 1 dX4_isWithin_21 rfl rfl ?_
    have k16 := pq_wt (k := 3) W0 k0_ rfl
    refine pv_getr (T := TX4) (N := 8) C 3 inu_X4_isWithin_4 rfl (by decide) (by decide) (List.mem_of_getElem? (i := 2) rfl) rfl k0_ k16.1 dX4_isWithin_22 ?_
    refine pv_iload_n C 2 dX4_isWithin_25 rfl rfl ?_
    obtain ⟨v17, S18, e19, h⟩ := pq_bs h
    refine pv_calliV C (ci := 7) rfl (by decide) k16.2 [.int x1] (fun sz => r_X7_number W0 k16.2 e19 sz) (cwV 1 C.1.2.2.2.2 gX4_isWithin_X7_number rfl rfl rfl (by decide +kernel) ⟨Nat.le_of_ble_eq_true rfl, Nat.le_of_ble_eq_true rfl⟩) rfl rfl (Nat.le_of_ble_eq_true rfl) dX4_isWithin_26 ⟨Nat.le_of_ble_eq_true rfl, Nat.le_of_ble_eq_true rfl⟩ ?_
    refine pv_iadd C dX4_isWithin_29 ?_
    refine pv_icmp_gt (tgt := 37) C dX4_isWithin_30 (by decide) (fun c20 => ?_) (fun c20 => ?_)
    · have h := pq_it c20 h
      refine pv_iconst (v := 0) C dX4_isWithin_37 (by decide) ?_
      exact pv_zret C hr rfl hlk h dX4_isWithin_38
    · have h := pq_if c20 h
      refine pv_iconst (v := 1) C dX4_isWithin_33 (by decide) ?_
      refine pv_goto (tgt := 38) C dX4_isWithin_34 (by decide) ?_
      exact pv_zret C hr rfl hlk h dX4_isWithin_38
def F_X4_pageCount (G : pq_G) (S : pq_N) (a0 : Nat) : Option (Int32 × pq_N) := some (((((S.1 a0 6) + (8 : Int32)) - (1 : Int32)) / (8 : Int32)), S)
theorem inu_X4_pageCount_4 : ∀ w ∈ u_ws RX4 TX4 8, w ∈ wsX4_pageCount := pq_inu 2 rfl
set_option maxHeartbeats 4000000 in
set_option maxRecDepth 100000 in
theorem r_X4_pageCount {l : Launch} {D : va_G} {y : pq_Y} {G : pq_G} (W0 : pq_WT G) {S : pq_N} {a0 : Nat} (k0_ : pq_ok G 4 a0) {r : Int32} {S1 : pq_N} (h : F_X4_pageCount G S a0 = some (r, S1)) (sz : Nat) : Met l yX4_pageCount wsX4_pageCount ({ frames := 0, cells := 0, slots := 0, locals := 0 } : Room) (pq_P D y G S sz [.ref a0]) (pq_Qi D y G sz r S1) 0 0 (pq_A G sz) := by
  refine pq_enter RX4 1 (by decide) rfl rfl rfl ?_
  intro p e s m below meth c C hsz hr hlk
  subst hsz
  unfold F_X4_pageCount at h
  refine pv_sub (lo1 := [(0, .ref a0)]) [0] rfl ?_
  refine pv_aload_n C 0 dX4_pageCount_0 rfl rfl ?_
  refine pv_geti (T := TX4) (N := 8) C 6 inu_X4_pageCount_4 rfl (by decide) (by decide) (List.mem_of_getElem? (i := 1) rfl) rfl k0_ dX4_pageCount_1 ?_
  refine pv_bipush (v := 8) C dX4_pageCount_4 (by decide) ?_
  refine pv_iadd C dX4_pageCount_6 ?_
  refine pv_iconst (v := 1) C dX4_pageCount_7 (by decide) ?_
  refine pv_isub C dX4_pageCount_8 ?_
  refine pv_bipush (v := 8) C dX4_pageCount_9 (by decide) ?_
  refine pv_idiv C dX4_pageCount_11 (by decide) ?_
  exact pv_iret C hr hlk h dX4_pageCount_12
def F_X4_quotationAround_b2 (G : pq_G)  : Nat → pq_N → Nat → Int32 → Int32 → Int32 → Option (Int32 × pq_N)
  | 0, _, _, _, _, _ => none
  | n + 1, S, a0, x1, x2, x3 => (if (S.1 a0 7) ≤ x3 then some ((-1 : Int32), S) else (pq_bd (F_X4_isWithin G S a0 x3 x1 x2) fun v12 S13 => (if v12 = (0 : Int32) then (F_X4_quotationAround_b2 G n) S13 a0 x1 x2 (x3 + (1 : Int32)) else some (x3, S13))))
def F_X4_quotationAround (G : pq_G) (S : pq_N) (a0 : Nat) (x1 : Int32) (x2 : Int32) : Option (Int32 × pq_N) := F_X4_quotationAround_b2 G pq_fuel S a0 x1 x2 (0 : Int32)
theorem inu_X4_quotationAround_4 : ∀ w ∈ u_ws RX4 TX4 8, w ∈ wsX4_quotationAround := pq_inu 15 rfl
set_option maxHeartbeats 4000000 in
set_option maxRecDepth 100000 in
theorem r_X4_quotationAround_b2 {p : Program} {l : Launch} {e : Env} {s : State} {m : MethodId} {av : Array Value} {below : List Frame} {meth : Method} {c : Code} {D : va_G} {y : pq_Y} {G : pq_G} {r : Int32} {S1 : pq_N} (W0 : pq_WT G) (C : pq_C p s m av c D y RX4 wsX4_quotationAround cX4_quotationAround 4) (hr : meth.sig.returnType = (some .int)) (hlk : meth.locks = false) (n : Nat) : ∀ (S : pq_N) (a0 : Nat) (x1 : Int32) (x2 : Int32) (x3 : Int32), pq_ok G 4 a0 → F_X4_quotationAround_b2 G n S a0 x1 x2 x3 = some (r, S1) → pq_V p l e (headSpec wsX4_quotationAround ({ frames := 2, cells := 0, slots := 0, locals := 45 } : Room)).room s m av below meth c 0 0 (MQ below (pq_Qi D y G s.heap.size r S1) av s 0 0 (pq_A G s.heap.size)) D y 4 (pq_A G s.heap.size) (fun _ => True) G S 2 [(0, .ref a0), (1, .int x1), (2, .int x2), (3, .int x3)] [] := by
  induction n with
  | zero =>
    intro S a0 x1 x2 x3 k0_ h
    rw [F_X4_quotationAround_b2.eq_1] at h; cases h
  | succ n ih =>
    intro S a0 x1 x2 x3 k0_ h
    rw [F_X4_quotationAround_b2.eq_2] at h
    refine pv_iload_n C 3 dX4_quotationAround_2 rfl rfl ?_
    refine pv_aload_n C 0 dX4_quotationAround_3 rfl rfl ?_
    refine pv_geti (T := TX4) (N := 8) C 7 inu_X4_quotationAround_4 rfl (by decide) (by decide) (List.mem_of_getElem? (i := 1) rfl) rfl k0_ dX4_quotationAround_4 ?_
    refine pv_icmp_ge (tgt := 28) C dX4_quotationAround_7 (by decide) (fun c11 => ?_) (fun c11 => ?_)
    · have h := pq_it c11 h
      refine pv_iconst (v := -1) C dX4_quotationAround_28 (by decide) ?_
      exact pv_iret C hr hlk h dX4_quotationAround_29
    · have h := pq_if c11 h
      refine pv_aload_n C 0 dX4_quotationAround_10 rfl rfl ?_
      refine pv_iload_n C 3 dX4_quotationAround_11 rfl rfl ?_
      refine pv_iload_n C 1 dX4_quotationAround_12 rfl rfl ?_
      refine pv_iload_n C 2 dX4_quotationAround_13 rfl rfl ?_
      obtain ⟨v12, S13, e14, h⟩ := pq_bs h
      refine pv_calliV C (ci := 4) rfl (by decide) k0_ [.int x3, .int x1, .int x2] (fun sz => r_X4_isWithin W0 k0_ e14 sz) (cwV 3 C.1.2.2.2.2 gX4_quotationAround_X4_isWithin rfl rfl rfl (by decide +kernel) ⟨Nat.le_of_ble_eq_true rfl, Nat.le_of_ble_eq_true rfl⟩) rfl rfl (Nat.le_of_ble_eq_true rfl) dX4_quotationAround_14 ⟨Nat.le_of_ble_eq_true rfl, Nat.le_of_ble_eq_true rfl⟩ ?_
      refine pv_if_eq (tgt := 22) C dX4_quotationAround_17 (by decide) (fun c15 => ?_) (fun c15 => ?_)
      · have h := pq_it c15 h
        refine pv_iinc (v := (x3 + (1 : Int32))) C 3 [(3, .int (x3 + (1 : Int32))), (0, .ref a0), (1, .int x1), (2, .int x2)] dX4_quotationAround_22 rfl rfl (by decide) rfl ?_
        refine pv_goto (tgt := 2) C dX4_quotationAround_25 (by decide) ?_
        refine pv_sub [1, 2, 3, 0] rfl ?_
        exact ih _ _ _ _ _ k0_ h
      · have h := pq_if c15 h
        refine pv_iload_n C 3 dX4_quotationAround_20 rfl rfl ?_
        exact pv_iret C hr hlk h dX4_quotationAround_21
set_option maxHeartbeats 4000000 in
set_option maxRecDepth 100000 in
theorem r_X4_quotationAround {l : Launch} {D : va_G} {y : pq_Y} {G : pq_G} (W0 : pq_WT G) {S : pq_N} {a0 : Nat} {x1 : Int32} {x2 : Int32} (k0_ : pq_ok G 4 a0) {r : Int32} {S1 : pq_N} (h : F_X4_quotationAround G S a0 x1 x2 = some (r, S1)) (sz : Nat) : Met l yX4_quotationAround wsX4_quotationAround ({ frames := 2, cells := 0, slots := 0, locals := 45 } : Room) (pq_P D y G S sz [.ref a0, .int x1, .int x2]) (pq_Qi D y G sz r S1) 0 0 (pq_A G sz) := by
  refine pq_enter RX4 4 (by decide) rfl rfl rfl ?_
  intro p e s m below meth c C hsz hr hlk
  subst hsz
  unfold F_X4_quotationAround at h
  refine pv_sub (lo1 := [(0, .ref a0), (1, .int x1), (2, .int x2)]) [0, 1, 2] rfl ?_
  refine pv_iconst (v := 0) C dX4_quotationAround_0 (by decide) ?_
  refine pv_istore_n C [(3, .int (0 : Int32)), (0, .ref a0), (1, .int x1), (2, .int x2)] dX4_quotationAround_1 rfl (by decide) rfl ?_
  refine pv_sub [1, 2, 3, 0] rfl ?_
  exact r_X4_quotationAround_b2 W0 C hr hlk pq_fuel _ _ _ _ _ k0_ h
def F_X7_move (G : pq_G) (S : pq_N) (a0 : Nat) (x1 : Int32) (x2 : Int32) (x3 : Int32) : Option (Unit × pq_N) := (if x1 < (0 : Int32) then some ((), S) else (if x2 < (0 : Int32) then some ((), S) else (if x3 ≤ (0 : Int32) then some ((), S) else (if ((nI (pq_n G (pq_r G a0 0))) - x1) < x3 then some ((), S) else (if ((nI (pq_n G (pq_r G a0 0))) - x2) < x3 then some ((), S) else (if x1 < 0 then none else (if x2 < 0 then none else (if x3 < 0 then none else (if pq_n G (pq_r G a0 0) < (Int32.toNatClampNeg x1) + (Int32.toNatClampNeg x3) then none else (if pq_n G (pq_r G a0 0) < (Int32.toNatClampNeg x2) + (Int32.toNatClampNeg x3) then none else (pq_lt (pq_wr S (pq_r G a0 0) (va_cpy (S.2 (pq_r G a0 0)) (S.2 (pq_r G a0 0)) (Int32.toNatClampNeg x1) (Int32.toNatClampNeg x2) (Int32.toNatClampNeg x3))) fun S25 => some ((), S25))))))))))))
theorem inu_X7_move_7 : ∀ w ∈ u_ws RX7 TX7 1, w ∈ wsX7_move := pq_inu 6 rfl
set_option maxHeartbeats 4000000 in
set_option maxRecDepth 100000 in
theorem r_X7_move {l : Launch} {D : va_G} {y : pq_Y} {G : pq_G} (W0 : pq_WT G) {S : pq_N} {a0 : Nat} {x1 : Int32} {x2 : Int32} {x3 : Int32} (k0_ : pq_ok G 7 a0) {S1 : pq_N} (h : F_X7_move G S a0 x1 x2 x3 = some ((), S1)) (sz : Nat) : Met l yX7_move wsX7_move ({ frames := 1, cells := 0, slots := 0, locals := 26 } : Room) (pq_P D y G S sz [.ref a0, .int x1, .int x2, .int x3]) (pq_Qv D y G sz S1) 0 0 (pq_A G sz) := by
  refine pq_enter RX7 4 (by decide) rfl rfl rfl ?_
  intro p e s m below meth c C hsz hr hlk
  subst hsz
  unfold F_X7_move at h
  refine pv_sub (lo1 := [(0, .ref a0), (1, .int x1), (2, .int x2), (3, .int x3)]) [0, 1, 2, 3] rfl ?_
  refine pv_iload_n C 1 dX7_move_0 rfl rfl ?_
  refine pv_if_lt (tgt := 48) C dX7_move_1 (by decide) (fun c11 => ?_) (fun c11 => ?_)
  · have h := pq_it c11 h
    exact pv_vret C hr hlk h dX7_move_48
  · have h := pq_if c11 h
    refine pv_iload_n C 2 dX7_move_4 rfl rfl ?_
    refine pv_if_lt (tgt := 48) C dX7_move_5 (by decide) (fun c12 => ?_) (fun c12 => ?_)
    · have h := pq_it c12 h
      exact pv_vret C hr hlk h dX7_move_48
    · have h := pq_if c12 h
      refine pv_iload_n C 3 dX7_move_8 rfl rfl ?_
      refine pv_if_le (tgt := 48) C dX7_move_9 (by decide) (fun c13 => ?_) (fun c13 => ?_)
      · have h := pq_it c13 h
        exact pv_vret C hr hlk h dX7_move_48
      · have h := pq_if c13 h
        refine pv_iload_n C 3 dX7_move_12 rfl rfl ?_
        refine pv_aload_n C 0 dX7_move_13 rfl rfl ?_
        have k14 := pq_wt (k := 0) W0 k0_ rfl
        refine pv_getr (T := TX7) (N := 1) C 0 inu_X7_move_7 rfl (by decide) (by decide) (List.mem_of_getElem? (i := 1) rfl) rfl k0_ k14.1 dX7_move_14 ?_
        refine pv_alen13 C k14.2 dX7_move_17 ?_
        refine pv_iload_n C 1 dX7_move_18 rfl rfl ?_
        refine pv_isub C dX7_move_19 ?_
        refine pv_icmp_gt (tgt := 48) C dX7_move_20 (by decide) (fun c15 => ?_) (fun c15 => ?_)
        · have h := pq_it c15 h
          exact pv_vret C hr hlk h dX7_move_48
        · have h := pq_if c15 h
          refine pv_iload_n C 3 dX7_move_23 rfl rfl ?_
          refine pv_aload_n C 0 dX7_move_24 rfl rfl ?_
          have k16 := pq_wt (k := 0) W0 k0_ rfl
          refine pv_getr (T := TX7) (N := 1) C 0 inu_X7_move_7 rfl (by decide) (by decide) (List.mem_of_getElem? (i := 1) rfl) rfl k0_ k16.1 dX7_move_25 ?_
          refine pv_alen13 C k16.2 dX7_move_28 ?_
          refine pv_iload_n C 2 dX7_move_29 rfl rfl ?_
          refine pv_isub C dX7_move_30 ?_
          refine pv_icmp_gt (tgt := 48) C dX7_move_31 (by decide) (fun c17 => ?_) (fun c17 => ?_)
          · have h := pq_it c17 h
            exact pv_vret C hr hlk h dX7_move_48
          · have h := pq_if c17 h
            refine pv_aload_n C 0 dX7_move_34 rfl rfl ?_
            have k18 := pq_wt (k := 0) W0 k0_ rfl
            refine pv_getr (T := TX7) (N := 1) C 0 inu_X7_move_7 rfl (by decide) (by decide) (List.mem_of_getElem? (i := 1) rfl) rfl k0_ k18.1 dX7_move_35 ?_
            refine pv_iload_n C 1 dX7_move_38 rfl rfl ?_
            refine pv_aload_n C 0 dX7_move_39 rfl rfl ?_
            have k19 := pq_wt (k := 0) W0 k0_ rfl
            refine pv_getr (T := TX7) (N := 1) C 0 inu_X7_move_7 rfl (by decide) (by decide) (List.mem_of_getElem? (i := 1) rfl) rfl k0_ k19.1 dX7_move_40 ?_
            refine pv_iload_n C 2 dX7_move_43 rfl rfl ?_
            refine pv_iload_n C 3 dX7_move_44 rfl rfl ?_
            obtain ⟨g20, h⟩ := pq_gd h
            obtain ⟨g21, h⟩ := pq_gd h
            obtain ⟨g22, h⟩ := pq_gd h
            obtain ⟨g23, h⟩ := pq_gd h
            obtain ⟨g24, h⟩ := pq_gd h
            refine pv_acopy C (List.mem_of_getElem? (i := 2) rfl) (List.mem_of_getElem? (i := 3) rfl) (List.mem_of_getElem? (i := 4) rfl) (List.mem_of_getElem? (i := 5) rfl) k18.2 k19.2 g20 g21 g22 (Nat.le_of_not_lt g23) (Nat.le_of_not_lt g24) (Nat.le_of_ble_eq_true rfl) (Nat.le_of_ble_eq_true rfl) dX7_move_45 ?_
            refine pv_nm (fun S25 e26 => ?_)
            have h := pq_ls e26 h
            exact pv_vret C hr hlk h dX7_move_48
def F_X4_replace_b119 (G : pq_G)  : Nat → pq_N → Nat → Int32 → Int32 → Option (Unit × pq_N)
  | 0, _, _, _, _ => none
  | n + 1, S, a0, x7, x8 => (if (S.1 a0 7) ≤ x8 then some ((), S) else (pq_bd (F_X7_number G S (pq_r G a0 2) x8) fun v44 S45 => (pq_bd (F_X7_put G S45 (pq_r G a0 2) x8 (Int32.toInt64 (v44 + x7))) fun _ S48 => (F_X4_replace_b119 G n) S48 a0 x7 (x8 + (1 : Int32)))))
def F_X4_replace_b56 (G : pq_G)  : Nat → pq_N → Nat → Int32 → Nat → Int32 → Int32 → Int32 → Int32 → Int32 → Option (Unit × pq_N)
  | 0, _, _, _, _, _, _, _, _, _ => none
  | n + 1, S, a0, x1, a2, x3, x4, x5, x7, x8 => (if x4 ≤ x8 then (pq_lt (pq_wi S a0 6 ((S.1 a0 6) + x7)) fun S27 => (pq_bd (F_X7_put G S27 (pq_r G a0 3) x1 (Int32.toInt64 x4)) fun _ S31 => F_X4_replace_b119 G pq_fuel S31 a0 x7 (x1 + (1 : Int32)))) else (pq_bd (F_X7_at G S (pq_r G a2 0) (x3 + x8)) fun v35 S36 => (pq_bd (F_X7_put G S36 (pq_r G a0 0) (x5 + x8) v35) fun _ S39 => (F_X4_replace_b56 G n) S39 a0 x1 a2 x3 x4 x5 x7 (x8 + (1 : Int32)))))
def F_X4_replace (G : pq_G) (S : pq_N) (a0 : Nat) (x1 : Int32) (a2 : Nat) (x3 : Int32) (x4 : Int32) : Option (Unit × pq_N) := (pq_bd (F_X7_number G S (pq_r G a0 2) x1) fun v12 S13 => (pq_bd (F_X7_number G S13 (pq_r G a0 3) x1) fun v16 S17 => (pq_bd (F_X4_growth G S17 a0 x1 x4) fun v19 S20 => (pq_bd (F_X7_move G S20 (pq_r G a0 0) (v12 + v16) ((v12 + v16) + v19) ((S20.1 a0 6) - (v12 + v16))) fun _ S24 => F_X4_replace_b56 G pq_fuel S24 a0 x1 a2 x3 x4 v12 v19 (0 : Int32)))))
theorem inu_X4_replace_4 : ∀ w ∈ u_ws RX4 TX4 8, w ∈ wsX4_replace := pq_inu 33 rfl
set_option maxHeartbeats 4000000 in
set_option maxRecDepth 100000 in
theorem r_X4_replace_b119 {p : Program} {l : Launch} {e : Env} {s : State} {m : MethodId} {av : Array Value} {below : List Frame} {meth : Method} {c : Code} {D : va_G} {y : pq_Y} {G : pq_G} {S1 : pq_N} (W0 : pq_WT G) (C : pq_C p s m av c D y RX4 wsX4_replace cX4_replace 9) (hr : meth.sig.returnType = none) (hlk : meth.locks = false) (n : Nat) : ∀ (S : pq_N) (a0 : Nat) (x7 : Int32) (x8 : Int32), pq_ok G 4 a0 → F_X4_replace_b119 G n S a0 x7 x8 = some ((), S1) → pq_V p l e (headSpec wsX4_replace ({ frames := 2, cells := 0, slots := 0, locals := 49 } : Room)).room s m av below meth c 0 0 (MQ below (pq_Qv D y G s.heap.size S1) av s 0 0 (pq_A G s.heap.size)) D y 9 (pq_A G s.heap.size) (fun _ => True) G S 119 [(0, .ref a0), (7, .int x7), (8, .int x8)] [] := by
  induction n with
  | zero =>
    intro S a0 x7 x8 k0_ h
    rw [F_X4_replace_b119.eq_1] at h; cases h
  | succ n ih =>
    intro S a0 x7 x8 k0_ h
    rw [F_X4_replace_b119.eq_2] at h
    refine pv_iload C 2 dX4_replace_119 rfl ?_
    refine pv_aload_n C 0 dX4_replace_121 rfl rfl ?_
    refine pv_geti (T := TX4) (N := 8) C 7 inu_X4_replace_4 rfl (by decide) (by decide) (List.mem_of_getElem? (i := 5) rfl) rfl k0_ dX4_replace_122 ?_
    refine pv_icmp_ge (tgt := 156) C dX4_replace_125 (by decide) (fun c41 => ?_) (fun c41 => ?_)
    · have h := pq_it c41 h
      exact pv_vret C hr hlk h dX4_replace_156
    · have h := pq_if c41 h
      refine pv_aload_n C 0 dX4_replace_128 rfl rfl ?_
      have k42 := pq_wt (k := 2) W0 k0_ rfl
      refine pv_getr (T := TX4) (N := 8) C 2 inu_X4_replace_4 rfl (by decide) (by decide) (List.mem_of_getElem? (i := 1) rfl) rfl k0_ k42.1 dX4_replace_129 ?_
      refine pv_iload C 2 dX4_replace_132 rfl ?_
      refine pv_aload_n C 0 dX4_replace_134 rfl rfl ?_
      have k43 := pq_wt (k := 2) W0 k0_ rfl
      refine pv_getr (T := TX4) (N := 8) C 2 inu_X4_replace_4 rfl (by decide) (by decide) (List.mem_of_getElem? (i := 1) rfl) rfl k0_ k43.1 dX4_replace_135 ?_
      refine pv_iload C 2 dX4_replace_138 rfl ?_
      obtain ⟨v44, S45, e46, h⟩ := pq_bs h
      refine pv_calliV C (ci := 7) rfl (by decide) k43.2 [.int x8] (fun sz => r_X7_number W0 k43.2 e46 sz) (cwV 1 C.1.2.2.2.2 gX4_replace_X7_number rfl rfl rfl (by decide +kernel) ⟨Nat.le_of_ble_eq_true rfl, Nat.le_of_ble_eq_true rfl⟩) rfl rfl (Nat.le_of_ble_eq_true rfl) dX4_replace_140 ⟨Nat.le_of_ble_eq_true rfl, Nat.le_of_ble_eq_true rfl⟩ ?_
      refine pv_iload C 1 dX4_replace_143 rfl ?_
      refine pv_iadd C dX4_replace_145 ?_
      refine pv_i2l C dX4_replace_146 ?_
      obtain ⟨⟨⟩, S48, e49, h⟩ := pq_bs h
      refine pv_callvV C (ci := 7) rfl (by decide) k42.2 [.int x8, .long (Int32.toInt64 (v44 + x7))] (fun sz => r_X7_put W0 k42.2 e49 sz) (cwV 2 C.1.2.2.2.2 gX4_replace_X7_put rfl rfl rfl (by decide +kernel) ⟨Nat.le_of_ble_eq_true rfl, Nat.le_of_ble_eq_true rfl⟩) rfl rfl (Nat.le_of_ble_eq_true rfl) dX4_replace_147 ⟨Nat.le_of_ble_eq_true rfl, Nat.le_of_ble_eq_true rfl⟩ ?_
      refine pv_iinc (v := (x8 + (1 : Int32))) C 2 [(8, .int (x8 + (1 : Int32))), (0, .ref a0), (7, .int x7)] dX4_replace_150 rfl rfl (by decide) rfl ?_
      refine pv_goto (tgt := 119) C dX4_replace_153 (by decide) ?_
      refine pv_sub [1, 2, 0] rfl ?_
      exact ih _ _ _ _ k0_ h
set_option maxHeartbeats 4000000 in
set_option maxRecDepth 100000 in
theorem r_X4_replace_b56 {p : Program} {l : Launch} {e : Env} {s : State} {m : MethodId} {av : Array Value} {below : List Frame} {meth : Method} {c : Code} {D : va_G} {y : pq_Y} {G : pq_G} {S1 : pq_N} (W0 : pq_WT G) (C : pq_C p s m av c D y RX4 wsX4_replace cX4_replace 9) (hr : meth.sig.returnType = none) (hlk : meth.locks = false) (n : Nat) : ∀ (S : pq_N) (a0 : Nat) (x1 : Int32) (a2 : Nat) (x3 : Int32) (x4 : Int32) (x5 : Int32) (x7 : Int32) (x8 : Int32), pq_ok G 4 a0 → pq_ok G 4 a2 → F_X4_replace_b56 G n S a0 x1 a2 x3 x4 x5 x7 x8 = some ((), S1) → pq_V p l e (headSpec wsX4_replace ({ frames := 2, cells := 0, slots := 0, locals := 49 } : Room)).room s m av below meth c 0 0 (MQ below (pq_Qv D y G s.heap.size S1) av s 0 0 (pq_A G s.heap.size)) D y 9 (pq_A G s.heap.size) (fun _ => True) G S 56 [(0, .ref a0), (1, .int x1), (2, .ref a2), (3, .int x3), (4, .int x4), (5, .int x5), (7, .int x7), (8, .int x8)] [] := by
  induction n with
  | zero =>
    intro S a0 x1 a2 x3 x4 x5 x7 x8 k0_ k2_ h
    rw [F_X4_replace_b56.eq_1] at h; cases h
  | succ n ih =>
    intro S a0 x1 a2 x3 x4 x5 x7 x8 k0_ k2_ h
    rw [F_X4_replace_b56.eq_2] at h
    refine pv_iload C 7 dX4_replace_56 rfl ?_
    refine pv_iload C 4 dX4_replace_58 rfl ?_
    refine pv_icmp_ge (tgt := 92) C dX4_replace_60 (by decide) (fun c26 => ?_) (fun c26 => ?_)
    · have h := pq_it c26 h
      refine pv_aload_n C 0 dX4_replace_92 rfl rfl ?_
      refine pv_dup C dX4_replace_93 rfl ?_
      refine pv_geti (T := TX4) (N := 8) C 6 inu_X4_replace_4 rfl (by decide) (by decide) (List.mem_of_getElem? (i := 4) rfl) rfl k0_ dX4_replace_94 ?_
      refine pv_iload C 6 dX4_replace_97 rfl ?_
      refine pv_iadd C dX4_replace_99 ?_
      refine pv_put (T := TX4) (N := 8) (ty := .int) C 6 inu_X4_replace_4 rfl (by decide) tyX4 tyX4_ok nmX4 (by decide) (List.mem_of_getElem? (i := 4) rfl) rfl k0_ rfl (by decide +kernel) rfl rfl dX4_replace_100 ?_
      refine pv_nm (fun S27 e28 => ?_)
      have h := pq_ls e28 h
      refine pv_aload_n C 0 dX4_replace_103 rfl rfl ?_
      have k29 := pq_wt (k := 3) W0 k0_ rfl
      refine pv_getr (T := TX4) (N := 8) C 3 inu_X4_replace_4 rfl (by decide) (by decide) (List.mem_of_getElem? (i := 2) rfl) rfl k0_ k29.1 dX4_replace_104 ?_
      refine pv_iload_n C 1 dX4_replace_107 rfl rfl ?_
      refine pv_iload C 4 dX4_replace_108 rfl ?_
      refine pv_i2l C dX4_replace_110 ?_
      obtain ⟨⟨⟩, S31, e32, h⟩ := pq_bs h
      refine pv_callvV C (ci := 7) rfl (by decide) k29.2 [.int x1, .long (Int32.toInt64 x4)] (fun sz => r_X7_put W0 k29.2 e32 sz) (cwV 2 C.1.2.2.2.2 gX4_replace_X7_put rfl rfl rfl (by decide +kernel) ⟨Nat.le_of_ble_eq_true rfl, Nat.le_of_ble_eq_true rfl⟩) rfl rfl (Nat.le_of_ble_eq_true rfl) dX4_replace_111 ⟨Nat.le_of_ble_eq_true rfl, Nat.le_of_ble_eq_true rfl⟩ ?_
      refine pv_iload_n C 1 dX4_replace_114 rfl rfl ?_
      refine pv_iconst (v := 1) C dX4_replace_115 (by decide) ?_
      refine pv_iadd C dX4_replace_116 ?_
      refine pv_istore C [(8, .int (x1 + (1 : Int32))), (0, .ref a0), (1, .int x1), (2, .ref a2), (3, .int x3), (4, .int x4), (5, .int x5), (7, .int x7)] dX4_replace_117 (by decide) rfl ?_
      refine pv_sub [1, 7, 0] rfl ?_
      exact r_X4_replace_b119 W0 C hr hlk pq_fuel _ _ _ _ k0_ h
    · have h := pq_if c26 h
      refine pv_aload_n C 0 dX4_replace_63 rfl rfl ?_
      have k33 := pq_wt (k := 0) W0 k0_ rfl
      refine pv_getr (T := TX4) (N := 8) C 0 inu_X4_replace_4 rfl (by decide) (by decide) (List.mem_of_getElem? (i := 3) rfl) rfl k0_ k33.1 dX4_replace_64 ?_
      refine pv_iload C 5 dX4_replace_67 rfl ?_
      refine pv_iload C 7 dX4_replace_69 rfl ?_
      refine pv_iadd C dX4_replace_71 ?_
      refine pv_aload_n C 2 dX4_replace_72 rfl rfl ?_
      have k34 := pq_wt (k := 0) W0 k2_ rfl
      refine pv_getr (T := TX4) (N := 8) C 0 inu_X4_replace_4 rfl (by decide) (by decide) (List.mem_of_getElem? (i := 3) rfl) rfl k2_ k34.1 dX4_replace_73 ?_
      refine pv_iload_n C 3 dX4_replace_76 rfl rfl ?_
      refine pv_iload C 7 dX4_replace_77 rfl ?_
      refine pv_iadd C dX4_replace_79 ?_
      obtain ⟨v35, S36, e37, h⟩ := pq_bs h
      refine pv_calllV C (ci := 7) rfl (by decide) k34.2 [.int (x3 + x8)] (fun sz => r_X7_at W0 k34.2 e37 sz) (cwV 1 C.1.2.2.2.2 gX4_replace_X7_at rfl rfl rfl (by decide +kernel) ⟨Nat.le_of_ble_eq_true rfl, Nat.le_of_ble_eq_true rfl⟩) rfl rfl (Nat.le_of_ble_eq_true rfl) dX4_replace_80 ⟨Nat.le_of_ble_eq_true rfl, Nat.le_of_ble_eq_true rfl⟩ ?_
      obtain ⟨⟨⟩, S39, e40, h⟩ := pq_bs h
      refine pv_callvV C (ci := 7) rfl (by decide) k33.2 [.int (x5 + x8), .long v35] (fun sz => r_X7_put W0 k33.2 e40 sz) (cwV 2 C.1.2.2.2.2 gX4_replace_X7_put rfl rfl rfl (by decide +kernel) ⟨Nat.le_of_ble_eq_true rfl, Nat.le_of_ble_eq_true rfl⟩) rfl rfl (Nat.le_of_ble_eq_true rfl) dX4_replace_83 ⟨Nat.le_of_ble_eq_true rfl, Nat.le_of_ble_eq_true rfl⟩ ?_
      refine pv_iinc (v := (x8 + (1 : Int32))) C 7 [(8, .int (x8 + (1 : Int32))), (0, .ref a0), (1, .int x1), (2, .ref a2), (3, .int x3), (4, .int x4), (5, .int x5), (7, .int x7)] dX4_replace_86 rfl rfl (by decide) rfl ?_
      refine pv_goto (tgt := 56) C dX4_replace_89 (by decide) ?_
      refine pv_sub [1, 2, 3, 4, 5, 6, 7, 0] rfl ?_
      exact ih _ _ _ _ _ _ _ _ _ k0_ k2_ h
set_option maxHeartbeats 4000000 in
set_option maxRecDepth 100000 in
theorem r_X4_replace {l : Launch} {D : va_G} {y : pq_Y} {G : pq_G} (W0 : pq_WT G) {S : pq_N} {a0 : Nat} {x1 : Int32} {a2 : Nat} {x3 : Int32} {x4 : Int32} (k0_ : pq_ok G 4 a0) (k2_ : pq_ok G 4 a2) {S1 : pq_N} (h : F_X4_replace G S a0 x1 a2 x3 x4 = some ((), S1)) (sz : Nat) : Met l yX4_replace wsX4_replace ({ frames := 2, cells := 0, slots := 0, locals := 49 } : Room) (pq_P D y G S sz [.ref a0, .int x1, .ref a2, .int x3, .int x4]) (pq_Qv D y G sz S1) 0 0 (pq_A G sz) := by
  refine pq_enter RX4 9 (by decide) rfl rfl rfl ?_
  intro p e s m below meth c C hsz hr hlk
  subst hsz
  unfold F_X4_replace at h
  refine pv_sub (lo1 := [(0, .ref a0), (1, .int x1), (2, .ref a2), (3, .int x3), (4, .int x4)]) [0, 1, 2, 3, 4] rfl ?_
  refine pv_aload_n C 0 dX4_replace_0 rfl rfl ?_
  have k11 := pq_wt (k := 2) W0 k0_ rfl
  refine pv_getr (T := TX4) (N := 8) C 2 inu_X4_replace_4 rfl (by decide) (by decide) (List.mem_of_getElem? (i := 1) rfl) rfl k0_ k11.1 dX4_replace_1 ?_
  refine pv_iload_n C 1 dX4_replace_4 rfl rfl ?_
  obtain ⟨v12, S13, e14, h⟩ := pq_bs h
  refine pv_calliV C (ci := 7) rfl (by decide) k11.2 [.int x1] (fun sz => r_X7_number W0 k11.2 e14 sz) (cwV 1 C.1.2.2.2.2 gX4_replace_X7_number rfl rfl rfl (by decide +kernel) ⟨Nat.le_of_ble_eq_true rfl, Nat.le_of_ble_eq_true rfl⟩) rfl rfl (Nat.le_of_ble_eq_true rfl) dX4_replace_5 ⟨Nat.le_of_ble_eq_true rfl, Nat.le_of_ble_eq_true rfl⟩ ?_
  refine pv_istore C [(5, .int v12), (0, .ref a0), (1, .int x1), (2, .ref a2), (3, .int x3), (4, .int x4)] dX4_replace_8 (by decide) rfl ?_
  refine pv_iload C 0 dX4_replace_10 rfl ?_
  refine pv_aload_n C 1 dX4_replace_12 rfl rfl ?_
  have k15 := pq_wt (k := 3) W0 k0_ rfl
  refine pv_getr (T := TX4) (N := 8) C 3 inu_X4_replace_4 rfl (by decide) (by decide) (List.mem_of_getElem? (i := 2) rfl) rfl k0_ k15.1 dX4_replace_13 ?_
  refine pv_iload_n C 2 dX4_replace_16 rfl rfl ?_
  obtain ⟨v16, S17, e18, h⟩ := pq_bs h
  refine pv_calliV C (ci := 7) rfl (by decide) k15.2 [.int x1] (fun sz => r_X7_number W0 k15.2 e18 sz) (cwV 1 C.1.2.2.2.2 gX4_replace_X7_number rfl rfl rfl (by decide +kernel) ⟨Nat.le_of_ble_eq_true rfl, Nat.le_of_ble_eq_true rfl⟩) rfl rfl (Nat.le_of_ble_eq_true rfl) dX4_replace_17 ⟨Nat.le_of_ble_eq_true rfl, Nat.le_of_ble_eq_true rfl⟩ ?_
  refine pv_iadd C dX4_replace_20 ?_
  refine pv_istore C [(6, .int (v12 + v16)), (5, .int v12), (0, .ref a0), (1, .int x1), (2, .ref a2), (3, .int x3), (4, .int x4)] dX4_replace_21 (by decide) rfl ?_
  refine pv_aload_n C 2 dX4_replace_23 rfl rfl ?_
  refine pv_iload_n C 3 dX4_replace_24 rfl rfl ?_
  refine pv_iload C 6 dX4_replace_25 rfl ?_
  obtain ⟨v19, S20, e21, h⟩ := pq_bs h
  refine pv_calliV C (ci := 4) rfl (by decide) k0_ [.int x1, .int x4] (fun sz => r_X4_growth W0 k0_ e21 sz) (cwV 2 C.1.2.2.2.2 gX4_replace_X4_growth rfl rfl rfl (by decide +kernel) ⟨Nat.le_of_ble_eq_true rfl, Nat.le_of_ble_eq_true rfl⟩) rfl rfl (Nat.le_of_ble_eq_true rfl) dX4_replace_27 ⟨Nat.le_of_ble_eq_true rfl, Nat.le_of_ble_eq_true rfl⟩ ?_
  refine pv_istore C [(7, .int v19), (6, .int (v12 + v16)), (5, .int v12), (0, .ref a0), (1, .int x1), (2, .ref a2), (3, .int x3), (4, .int x4)] dX4_replace_30 (by decide) rfl ?_
  refine pv_aload_n C 3 dX4_replace_32 rfl rfl ?_
  have k22 := pq_wt (k := 0) W0 k0_ rfl
  refine pv_getr (T := TX4) (N := 8) C 0 inu_X4_replace_4 rfl (by decide) (by decide) (List.mem_of_getElem? (i := 3) rfl) rfl k0_ k22.1 dX4_replace_33 ?_
  refine pv_iload C 1 dX4_replace_36 rfl ?_
  refine pv_iload C 1 dX4_replace_38 rfl ?_
  refine pv_iload C 0 dX4_replace_40 rfl ?_
  refine pv_iadd C dX4_replace_42 ?_
  refine pv_aload_n C 3 dX4_replace_43 rfl rfl ?_
  refine pv_geti (T := TX4) (N := 8) C 6 inu_X4_replace_4 rfl (by decide) (by decide) (List.mem_of_getElem? (i := 4) rfl) rfl k0_ dX4_replace_44 ?_
  refine pv_iload C 1 dX4_replace_47 rfl ?_
  refine pv_isub C dX4_replace_49 ?_
  obtain ⟨⟨⟩, S24, e25, h⟩ := pq_bs h
  refine pv_callvV C (ci := 7) rfl (by decide) k22.2 [.int (v12 + v16), .int ((v12 + v16) + v19), .int ((S20.1 a0 6) - (v12 + v16))] (fun sz => r_X7_move W0 k22.2 e25 sz) (cwV 3 C.1.2.2.2.2 gX4_replace_X7_move rfl rfl rfl (by decide +kernel) ⟨Nat.le_of_ble_eq_true rfl, Nat.le_of_ble_eq_true rfl⟩) rfl rfl (Nat.le_of_ble_eq_true rfl) dX4_replace_50 ⟨Nat.le_of_ble_eq_true rfl, Nat.le_of_ble_eq_true rfl⟩ ?_
  refine pv_iconst (v := 0) C dX4_replace_53 (by decide) ?_
  refine pv_istore C [(8, .int (0 : Int32)), (7, .int v19), (6, .int (v12 + v16)), (5, .int v12), (0, .ref a0), (1, .int x1), (2, .ref a2), (3, .int x3), (4, .int x4)] dX4_replace_54 (by decide) rfl ?_
  refine pv_sub [4, 5, 6, 7, 8, 3, 1, 0] rfl ?_
  exact r_X4_replace_b56 W0 C hr hlk pq_fuel _ _ _ _ _ _ _ _ _ k0_ k2_ h
def F_X8_chooseEnd_b4 (G : pq_G)  : Nat → pq_N → Nat → Int32 → Int32 → Int32 → Option (Unit × pq_N)
  | 0, _, _, _, _, _ => none
  | n + 1, S, a0, x1, x2, x3 => (if x1 < x3 then (pq_bd (F_X7_number G S (pq_r G a0 0) x2) fun v13 S14 => (pq_lt (pq_wi S14 a0 1 (v13 / (64 : Int32))) fun S16 => (pq_lt (pq_wi S16 a0 2 (v13 - v13 / (64 : Int32) * (64 : Int32))) fun S18 => (pq_lt (pq_wi S18 a0 3 (x2 - (S18.1 a0 2))) fun S20 => some ((), S20))))) else (pq_bd (F_X7_number G S (pq_r G a0 0) x3) fun v23 S24 => (pq_bd (F_X7_number G S24 (pq_r G a0 0) x2) fun v27 S28 => (if v27 ≤ v23 then (F_X8_chooseEnd_b4 G n) S28 a0 x1 x2 (x3 + (1 : Int32)) else (F_X8_chooseEnd_b4 G n) S28 a0 x1 x3 (x3 + (1 : Int32))))))
def F_X8_chooseEnd (G : pq_G) (S : pq_N) (a0 : Nat) (x1 : Int32) : Option (Unit × pq_N) := F_X8_chooseEnd_b4 G pq_fuel S a0 x1 (1 : Int32) (2 : Int32)
theorem inu_X8_chooseEnd_8 : ∀ w ∈ u_ws RX8 TX8 4, w ∈ wsX8_chooseEnd := pq_inu 11 rfl
set_option maxHeartbeats 4000000 in
set_option maxRecDepth 100000 in
theorem r_X8_chooseEnd_b4 {p : Program} {l : Launch} {e : Env} {s : State} {m : MethodId} {av : Array Value} {below : List Frame} {meth : Method} {c : Code} {D : va_G} {y : pq_Y} {G : pq_G} {S1 : pq_N} (W0 : pq_WT G) (C : pq_C p s m av c D y RX8 wsX8_chooseEnd cX8_chooseEnd 4) (hr : meth.sig.returnType = none) (hlk : meth.locks = false) (n : Nat) : ∀ (S : pq_N) (a0 : Nat) (x1 : Int32) (x2 : Int32) (x3 : Int32), pq_ok G 8 a0 → F_X8_chooseEnd_b4 G n S a0 x1 x2 x3 = some ((), S1) → pq_V p l e (headSpec wsX8_chooseEnd ({ frames := 1, cells := 0, slots := 0, locals := 21 } : Room)).room s m av below meth c 0 0 (MQ below (pq_Qv D y G s.heap.size S1) av s 0 0 (pq_A G s.heap.size)) D y 4 (pq_A G s.heap.size) (fun _ => True) G S 4 [(0, .ref a0), (1, .int x1), (2, .int x2), (3, .int x3)] [] := by
  induction n with
  | zero =>
    intro S a0 x1 x2 x3 k0_ h
    rw [F_X8_chooseEnd_b4.eq_1] at h; cases h
  | succ n ih =>
    intro S a0 x1 x2 x3 k0_ h
    rw [F_X8_chooseEnd_b4.eq_2] at h
    refine pv_iload_n C 3 dX8_chooseEnd_4 rfl rfl ?_
    refine pv_iload_n C 1 dX8_chooseEnd_5 rfl rfl ?_
    refine pv_icmp_gt (tgt := 36) C dX8_chooseEnd_6 (by decide) (fun c11 => ?_) (fun c11 => ?_)
    · have h := pq_it c11 h
      refine pv_aload_n C 0 dX8_chooseEnd_36 rfl rfl ?_
      have k12 := pq_wt (k := 0) W0 k0_ rfl
      refine pv_getr (T := TX8) (N := 4) C 0 inu_X8_chooseEnd_8 rfl (by decide) (by decide) (List.mem_of_getElem? (i := 1) rfl) rfl k0_ k12.1 dX8_chooseEnd_37 ?_
      refine pv_iload_n C 2 dX8_chooseEnd_40 rfl rfl ?_
      obtain ⟨v13, S14, e15, h⟩ := pq_bs h
      refine pv_calliV C (ci := 7) rfl (by decide) k12.2 [.int x2] (fun sz => r_X7_number W0 k12.2 e15 sz) (cwV 1 C.1.2.2.2.2 gX8_chooseEnd_X7_number rfl rfl rfl (by decide +kernel) ⟨Nat.le_of_ble_eq_true rfl, Nat.le_of_ble_eq_true rfl⟩) rfl rfl (Nat.le_of_ble_eq_true rfl) dX8_chooseEnd_41 ⟨Nat.le_of_ble_eq_true rfl, Nat.le_of_ble_eq_true rfl⟩ ?_
      refine pv_istore_n C [(3, .int v13), (0, .ref a0), (1, .int x1), (2, .int x2)] dX8_chooseEnd_44 rfl (by decide) rfl ?_
      refine pv_aload_n C 1 dX8_chooseEnd_45 rfl rfl ?_
      refine pv_iload_n C 0 dX8_chooseEnd_46 rfl rfl ?_
      refine pv_bipush (v := 64) C dX8_chooseEnd_47 (by decide) ?_
      refine pv_idiv C dX8_chooseEnd_49 (by decide) ?_
      refine pv_put (T := TX8) (N := 4) (ty := .int) C 1 inu_X8_chooseEnd_8 rfl (by decide) tyX8 tyX8_ok nmX8 (by decide) (List.mem_of_getElem? (i := 2) rfl) rfl k0_ rfl (by decide +kernel) rfl rfl dX8_chooseEnd_50 ?_
      refine pv_nm (fun S16 e17 => ?_)
      have h := pq_ls e17 h
      refine pv_aload_n C 1 dX8_chooseEnd_53 rfl rfl ?_
      refine pv_iload_n C 0 dX8_chooseEnd_54 rfl rfl ?_
      refine pv_bipush (v := 64) C dX8_chooseEnd_55 (by decide) ?_
      refine pv_irem C dX8_chooseEnd_57 (by decide) ?_
      refine pv_put (T := TX8) (N := 4) (ty := .int) C 2 inu_X8_chooseEnd_8 rfl (by decide) tyX8 tyX8_ok nmX8 (by decide) (List.mem_of_getElem? (i := 3) rfl) rfl k0_ rfl (by decide +kernel) rfl rfl dX8_chooseEnd_58 ?_
      refine pv_nm (fun S18 e19 => ?_)
      have h := pq_ls e19 h
      refine pv_aload_n C 1 dX8_chooseEnd_61 rfl rfl ?_
      refine pv_iload_n C 3 dX8_chooseEnd_62 rfl rfl ?_
      refine pv_aload_n C 1 dX8_chooseEnd_63 rfl rfl ?_
      refine pv_geti (T := TX8) (N := 4) C 2 inu_X8_chooseEnd_8 rfl (by decide) (by decide) (List.mem_of_getElem? (i := 3) rfl) rfl k0_ dX8_chooseEnd_64 ?_
      refine pv_isub C dX8_chooseEnd_67 ?_
      refine pv_put (T := TX8) (N := 4) (ty := .int) C 3 inu_X8_chooseEnd_8 rfl (by decide) tyX8 tyX8_ok nmX8 (by decide) (List.mem_of_getElem? (i := 4) rfl) rfl k0_ rfl (by decide +kernel) rfl rfl dX8_chooseEnd_68 ?_
      refine pv_nm (fun S20 e21 => ?_)
      have h := pq_ls e21 h
      exact pv_vret C hr hlk h dX8_chooseEnd_71
    · have h := pq_if c11 h
      refine pv_aload_n C 0 dX8_chooseEnd_9 rfl rfl ?_
      have k22 := pq_wt (k := 0) W0 k0_ rfl
      refine pv_getr (T := TX8) (N := 4) C 0 inu_X8_chooseEnd_8 rfl (by decide) (by decide) (List.mem_of_getElem? (i := 1) rfl) rfl k0_ k22.1 dX8_chooseEnd_10 ?_
      refine pv_iload_n C 3 dX8_chooseEnd_13 rfl rfl ?_
      obtain ⟨v23, S24, e25, h⟩ := pq_bs h
      refine pv_calliV C (ci := 7) rfl (by decide) k22.2 [.int x3] (fun sz => r_X7_number W0 k22.2 e25 sz) (cwV 1 C.1.2.2.2.2 gX8_chooseEnd_X7_number rfl rfl rfl (by decide +kernel) ⟨Nat.le_of_ble_eq_true rfl, Nat.le_of_ble_eq_true rfl⟩) rfl rfl (Nat.le_of_ble_eq_true rfl) dX8_chooseEnd_14 ⟨Nat.le_of_ble_eq_true rfl, Nat.le_of_ble_eq_true rfl⟩ ?_
      refine pv_aload_n C 0 dX8_chooseEnd_17 rfl rfl ?_
      have k26 := pq_wt (k := 0) W0 k0_ rfl
      refine pv_getr (T := TX8) (N := 4) C 0 inu_X8_chooseEnd_8 rfl (by decide) (by decide) (List.mem_of_getElem? (i := 1) rfl) rfl k0_ k26.1 dX8_chooseEnd_18 ?_
      refine pv_iload_n C 2 dX8_chooseEnd_21 rfl rfl ?_
      obtain ⟨v27, S28, e29, h⟩ := pq_bs h
      refine pv_calliV C (ci := 7) rfl (by decide) k26.2 [.int x2] (fun sz => r_X7_number W0 k26.2 e29 sz) (cwV 1 C.1.2.2.2.2 gX8_chooseEnd_X7_number rfl rfl rfl (by decide +kernel) ⟨Nat.le_of_ble_eq_true rfl, Nat.le_of_ble_eq_true rfl⟩) rfl rfl (Nat.le_of_ble_eq_true rfl) dX8_chooseEnd_22 ⟨Nat.le_of_ble_eq_true rfl, Nat.le_of_ble_eq_true rfl⟩ ?_
      refine pv_icmp_ge (tgt := 30) C dX8_chooseEnd_25 (by decide) (fun c30 => ?_) (fun c30 => ?_)
      · have h := pq_it c30 h
        refine pv_iinc (v := (x3 + (1 : Int32))) C 3 [(3, .int (x3 + (1 : Int32))), (0, .ref a0), (1, .int x1), (2, .int x2)] dX8_chooseEnd_30 rfl rfl (by decide) rfl ?_
        refine pv_goto (tgt := 4) C dX8_chooseEnd_33 (by decide) ?_
        refine pv_sub [1, 2, 3, 0] rfl ?_
        exact ih _ _ _ _ _ k0_ h
      · have h := pq_if c30 h
        refine pv_iload_n C 3 dX8_chooseEnd_28 rfl rfl ?_
        refine pv_istore_n C [(2, .int x3), (0, .ref a0), (1, .int x1), (3, .int x3)] dX8_chooseEnd_29 rfl (by decide) rfl ?_
        refine pv_iinc (v := (x3 + (1 : Int32))) C 3 [(3, .int (x3 + (1 : Int32))), (2, .int x3), (0, .ref a0), (1, .int x1)] dX8_chooseEnd_30 rfl rfl (by decide) rfl ?_
        refine pv_goto (tgt := 4) C dX8_chooseEnd_33 (by decide) ?_
        refine pv_sub [2, 3, 1, 0] rfl ?_
        exact ih _ _ _ _ _ k0_ h
set_option maxHeartbeats 4000000 in
set_option maxRecDepth 100000 in
theorem r_X8_chooseEnd {l : Launch} {D : va_G} {y : pq_Y} {G : pq_G} (W0 : pq_WT G) {S : pq_N} {a0 : Nat} {x1 : Int32} (k0_ : pq_ok G 8 a0) {S1 : pq_N} (h : F_X8_chooseEnd G S a0 x1 = some ((), S1)) (sz : Nat) : Met l yX8_chooseEnd wsX8_chooseEnd ({ frames := 1, cells := 0, slots := 0, locals := 21 } : Room) (pq_P D y G S sz [.ref a0, .int x1]) (pq_Qv D y G sz S1) 0 0 (pq_A G sz) := by
  refine pq_enter RX8 4 (by decide) rfl rfl rfl ?_
  intro p e s m below meth c C hsz hr hlk
  subst hsz
  unfold F_X8_chooseEnd at h
  refine pv_sub (lo1 := [(0, .ref a0), (1, .int x1)]) [0, 1] rfl ?_
  refine pv_iconst (v := 1) C dX8_chooseEnd_0 (by decide) ?_
  refine pv_istore_n C [(2, .int (1 : Int32)), (0, .ref a0), (1, .int x1)] dX8_chooseEnd_1 rfl (by decide) rfl ?_
  refine pv_iconst (v := 2) C dX8_chooseEnd_2 (by decide) ?_
  refine pv_istore_n C [(3, .int (2 : Int32)), (2, .int (1 : Int32)), (0, .ref a0), (1, .int x1)] dX8_chooseEnd_3 rfl (by decide) rfl ?_
  refine pv_sub [2, 3, 1, 0] rfl ?_
  exact r_X8_chooseEnd_b4 W0 C hr hlk pq_fuel _ _ _ _ _ k0_ h
def F_X8_takeWord_b78 (G : pq_G) (c31 : pq_N → Nat → Int64 → Nat → Int32 → Int32 → Int32 → Int32 → Int32 → Option (Unit × pq_N)) (S : pq_N) (a0 : Nat) (x1 : Int64) (a3 : Nat) (x4 : Int32) (x5 : Int32) (x7 : Int32) (x8 : Int32) (x9 : Int32) (t0 : Int32) : Option (Unit × pq_N) := (pq_lt (if ((if x7 < x9 then x7 else x9) + (64 : Int32)) < t0 then ((if x7 < x9 then x7 else x9) + (64 : Int32)) else t0) fun i29 => (pq_bd (F_X7_put G S (pq_r G a0 0) x8 (Int32.toInt64 i29)) fun _ S33 => c31 S33 a0 x1 a3 x4 x5 x9 i29 (x8 + (1 : Int32))))
def F_X8_takeWord_b31 (G : pq_G)  : Nat → pq_N → Nat → Int64 → Nat → Int32 → Int32 → Int32 → Int32 → Int32 → Option (Unit × pq_N)
  | 0, _, _, _, _, _, _, _, _, _ => none
  | n + 1, S, a0, x1, a3, x4, x5, x6, x7, x8 => (if x5 < x8 then some ((), S) else (pq_bd (F_X7_number G S (pq_r G a0 0) x8) fun v21 S22 => (pq_bd (F_X7_at G S22 (pq_r G a3 0) ((x4 + x8) - (1 : Int32))) fun v25 S26 => (if (lg_cmp v25 x1) = (0 : Int32) then F_X8_takeWord_b78 G ((F_X8_takeWord_b31 G n)) S26 a0 x1 a3 x4 x5 x7 x8 v21 x6 else F_X8_takeWord_b78 G ((F_X8_takeWord_b31 G n)) S26 a0 x1 a3 x4 x5 x7 x8 v21 (x6 + (64 : Int32))))))
def F_X8_takeWord (G : pq_G) (S : pq_N) (a0 : Nat) (x1 : Int64) (a3 : Nat) (x4 : Int32) (x5 : Int32) : Option (Unit × pq_N) := (pq_bd (F_X7_number G S (pq_r G a0 0) (0 : Int32)) fun v12 S13 => (pq_bd (F_X7_put G S13 (pq_r G a0 0) (0 : Int32) (Int32.toInt64 (v12 + (64 : Int32)))) fun _ S17 => F_X8_takeWord_b31 G pq_fuel S17 a0 x1 a3 x4 x5 v12 (v12 + (64 : Int32)) (1 : Int32)))
theorem inu_X8_takeWord_4 : ∀ w ∈ u_ws RX4 TX4 8, w ∈ wsX8_takeWord := pq_inu 24 rfl
theorem inu_X8_takeWord_8 : ∀ w ∈ u_ws RX8 TX8 4, w ∈ wsX8_takeWord := pq_inu 20 rfl
set_option maxHeartbeats 4000000 in
set_option maxRecDepth 100000 in
theorem r_X8_takeWord_b78 {p : Program} {l : Launch} {e : Env} {s : State} {m : MethodId} {av : Array Value} {below : List Frame} {meth : Method} {c : Code} {D : va_G} {y : pq_Y} {G : pq_G} {S1 : pq_N} (W0 : pq_WT G) (C : pq_C p s m av c D y RX8 wsX8_takeWord cX8_takeWord 11) (hr : meth.sig.returnType = none) (hlk : meth.locks = false) {c31 : pq_N → Nat → Int64 → Nat → Int32 → Int32 → Int32 → Int32 → Int32 → Option (Unit × pq_N)} (hk31 : ∀ (S : pq_N) (a0 : Nat) (x1 : Int64) (a3 : Nat) (x4 : Int32) (x5 : Int32) (x6 : Int32) (x7 : Int32) (x8 : Int32), pq_ok G 8 a0 → pq_ok G 4 a3 → c31 S a0 x1 a3 x4 x5 x6 x7 x8 = some ((), S1) → pq_V p l e (headSpec wsX8_takeWord ({ frames := 1, cells := 0, slots := 0, locals := 23 } : Room)).room s m av below meth c 0 0 (MQ below (pq_Qv D y G s.heap.size S1) av s 0 0 (pq_A G s.heap.size)) D y 11 (pq_A G s.heap.size) (fun _ => True) G S 31 [(0, .ref a0), (1, .long x1), (3, .ref a3), (4, .int x4), (5, .int x5), (6, .int x6), (7, .int x7), (8, .int x8)] []) : ∀ (S : pq_N) (a0 : Nat) (x1 : Int64) (a3 : Nat) (x4 : Int32) (x5 : Int32) (x7 : Int32) (x8 : Int32) (x9 : Int32) (t0 : Int32), pq_ok G 8 a0 → pq_ok G 4 a3 → F_X8_takeWord_b78 G c31 S a0 x1 a3 x4 x5 x7 x8 x9 t0 = some ((), S1) → pq_V p l e (headSpec wsX8_takeWord ({ frames := 1, cells := 0, slots := 0, locals := 23 } : Room)).room s m av below meth c 0 0 (MQ below (pq_Qv D y G s.heap.size S1) av s 0 0 (pq_A G s.heap.size)) D y 11 (pq_A G s.heap.size) (fun _ => True) G S 78 [(0, .ref a0), (1, .long x1), (3, .ref a3), (4, .int x4), (5, .int x5), (7, .int x7), (8, .int x8), (9, .int x9)] [.int t0] := by
  intro S a0 x1 a3 x4 x5 x7 x8 x9 t0 k0_ k3_ h
  unfold F_X8_takeWord_b78 at h
  refine pv_istore C [(10, .int t0), (0, .ref a0), (1, .long x1), (3, .ref a3), (4, .int x4), (5, .int x5), (7, .int x7), (8, .int x8), (9, .int x9)] dX8_takeWord_78 (by decide) rfl ?_
  refine pv_iload C 0 dX8_takeWord_80 rfl ?_
  refine pv_iload C 8 dX8_takeWord_82 rfl ?_
  refine pv_iload C 6 dX8_takeWord_84 rfl ?_
  refine pv_mmin C (List.mem_of_getElem? (i := 2) rfl) (List.mem_of_getElem? (i := 3) rfl) (List.mem_of_getElem? (i := 4) rfl) (List.mem_of_getElem? (i := 5) rfl) (Nat.le_of_ble_eq_true rfl) (Nat.le_of_ble_eq_true rfl) (Nat.le_of_ble_eq_true rfl) (Nat.le_of_ble_eq_true rfl) dX8_takeWord_86 ?_
  refine pv_bipush (v := 64) C dX8_takeWord_89 (by decide) ?_
  refine pv_iadd C dX8_takeWord_91 ?_
  refine pv_mmin C (List.mem_of_getElem? (i := 2) rfl) (List.mem_of_getElem? (i := 3) rfl) (List.mem_of_getElem? (i := 4) rfl) (List.mem_of_getElem? (i := 5) rfl) (Nat.le_of_ble_eq_true rfl) (Nat.le_of_ble_eq_true rfl) (Nat.le_of_ble_eq_true rfl) (Nat.le_of_ble_eq_true rfl) dX8_takeWord_92 ?_
  refine pv_nmi (fun i29 e30 => ?_)
  have h := pq_ls e30 h
  refine pv_istore C [(7, .int i29), (10, .int t0), (0, .ref a0), (1, .long x1), (3, .ref a3), (4, .int x4), (5, .int x5), (8, .int x8), (9, .int x9)] dX8_takeWord_95 (by decide) rfl ?_
  refine pv_aload_n C 2 dX8_takeWord_97 rfl rfl ?_
  have k31 := pq_wt (k := 0) W0 k0_ rfl
  refine pv_getr (T := TX8) (N := 4) C 0 inu_X8_takeWord_8 rfl (by decide) (by decide) (List.mem_of_getElem? (i := 1) rfl) rfl k0_ k31.1 dX8_takeWord_98 ?_
  refine pv_iload C 7 dX8_takeWord_101 rfl ?_
  refine pv_iload C 0 dX8_takeWord_103 rfl ?_
  refine pv_i2l C dX8_takeWord_105 ?_
  obtain ⟨⟨⟩, S33, e34, h⟩ := pq_bs h
  refine pv_callvV C (ci := 7) rfl (by decide) k31.2 [.int x8, .long (Int32.toInt64 i29)] (fun sz => r_X7_put W0 k31.2 e34 sz) (cwV 2 C.1.2.2.2.2 gX8_takeWord_X7_put rfl rfl rfl (by decide +kernel) ⟨Nat.le_of_ble_eq_true rfl, Nat.le_of_ble_eq_true rfl⟩) rfl rfl (Nat.le_of_ble_eq_true rfl) dX8_takeWord_106 ⟨Nat.le_of_ble_eq_true rfl, Nat.le_of_ble_eq_true rfl⟩ ?_
  refine pv_iload C 8 dX8_takeWord_109 rfl ?_
  refine pv_istore C [(6, .int x9), (7, .int i29), (10, .int t0), (0, .ref a0), (1, .long x1), (3, .ref a3), (4, .int x4), (5, .int x5), (8, .int x8), (9, .int x9)] dX8_takeWord_111 (by decide) rfl ?_
  refine pv_iinc (v := (x8 + (1 : Int32))) C 8 [(8, .int (x8 + (1 : Int32))), (6, .int x9), (7, .int i29), (10, .int t0), (0, .ref a0), (1, .long x1), (3, .ref a3), (4, .int x4), (5, .int x5), (9, .int x9)] dX8_takeWord_113 rfl rfl (by decide) rfl ?_
  refine pv_goto (tgt := 31) C dX8_takeWord_116 (by decide) ?_
  refine pv_sub [4, 5, 6, 7, 8, 1, 2, 0] rfl ?_
  exact hk31 _ _ _ _ _ _ _ _ _ k0_ k3_ h
set_option maxHeartbeats 4000000 in
set_option maxRecDepth 100000 in
theorem r_X8_takeWord_b31 {p : Program} {l : Launch} {e : Env} {s : State} {m : MethodId} {av : Array Value} {below : List Frame} {meth : Method} {c : Code} {D : va_G} {y : pq_Y} {G : pq_G} {S1 : pq_N} (W0 : pq_WT G) (C : pq_C p s m av c D y RX8 wsX8_takeWord cX8_takeWord 11) (hr : meth.sig.returnType = none) (hlk : meth.locks = false) (n : Nat) : ∀ (S : pq_N) (a0 : Nat) (x1 : Int64) (a3 : Nat) (x4 : Int32) (x5 : Int32) (x6 : Int32) (x7 : Int32) (x8 : Int32), pq_ok G 8 a0 → pq_ok G 4 a3 → F_X8_takeWord_b31 G n S a0 x1 a3 x4 x5 x6 x7 x8 = some ((), S1) → pq_V p l e (headSpec wsX8_takeWord ({ frames := 1, cells := 0, slots := 0, locals := 23 } : Room)).room s m av below meth c 0 0 (MQ below (pq_Qv D y G s.heap.size S1) av s 0 0 (pq_A G s.heap.size)) D y 11 (pq_A G s.heap.size) (fun _ => True) G S 31 [(0, .ref a0), (1, .long x1), (3, .ref a3), (4, .int x4), (5, .int x5), (6, .int x6), (7, .int x7), (8, .int x8)] [] := by
  induction n with
  | zero =>
    intro S a0 x1 a3 x4 x5 x6 x7 x8 k0_ k3_ h
    rw [F_X8_takeWord_b31.eq_1] at h; cases h
  | succ n ih =>
    intro S a0 x1 a3 x4 x5 x6 x7 x8 k0_ k3_ h
    rw [F_X8_takeWord_b31.eq_2] at h
    refine pv_iload C 7 dX8_takeWord_31 rfl ?_
    refine pv_iload C 4 dX8_takeWord_33 rfl ?_
    refine pv_icmp_gt (tgt := 119) C dX8_takeWord_35 (by decide) (fun c19 => ?_) (fun c19 => ?_)
    · have h := pq_it c19 h
      exact pv_vret C hr hlk h dX8_takeWord_119
    · have h := pq_if c19 h
      refine pv_aload_n C 0 dX8_takeWord_38 rfl rfl ?_
      have k20 := pq_wt (k := 0) W0 k0_ rfl
      refine pv_getr (T := TX8) (N := 4) C 0 inu_X8_takeWord_8 rfl (by decide) (by decide) (List.mem_of_getElem? (i := 1) rfl) rfl k0_ k20.1 dX8_takeWord_39 ?_
      refine pv_iload C 7 dX8_takeWord_42 rfl ?_
      obtain ⟨v21, S22, e23, h⟩ := pq_bs h
      refine pv_calliV C (ci := 7) rfl (by decide) k20.2 [.int x8] (fun sz => r_X7_number W0 k20.2 e23 sz) (cwV 1 C.1.2.2.2.2 gX8_takeWord_X7_number rfl rfl rfl (by decide +kernel) ⟨Nat.le_of_ble_eq_true rfl, Nat.le_of_ble_eq_true rfl⟩) rfl rfl (Nat.le_of_ble_eq_true rfl) dX8_takeWord_44 ⟨Nat.le_of_ble_eq_true rfl, Nat.le_of_ble_eq_true rfl⟩ ?_
      refine pv_istore C [(9, .int v21), (0, .ref a0), (1, .long x1), (3, .ref a3), (4, .int x4), (5, .int x5), (6, .int x6), (7, .int x7), (8, .int x8)] dX8_takeWord_47 (by decide) rfl ?_
      refine pv_aload_n C 3 dX8_takeWord_49 rfl rfl ?_
      have k24 := pq_wt (k := 0) W0 k3_ rfl
      refine pv_getrN (T := TX4) (N := 8) C 0 inu_X8_takeWord_4 rfl (by decide) (by decide) (List.mem_of_getElem? (i := 1) rfl) rfl k3_ k24.1 dX8_takeWord_50 ?_
      refine pv_iload C 4 dX8_takeWord_53 rfl ?_
      refine pv_iload C 8 dX8_takeWord_55 rfl ?_
      refine pv_iadd C dX8_takeWord_57 ?_
      refine pv_iconst (v := 1) C dX8_takeWord_58 (by decide) ?_
      refine pv_isub C dX8_takeWord_59 ?_
      obtain ⟨v25, S26, e27, h⟩ := pq_bs h
      refine pv_calllV C (ci := 7) rfl (by decide) k24.2 [.int ((x4 + x8) - (1 : Int32))] (fun sz => r_X7_at W0 k24.2 e27 sz) (cwV 1 C.1.2.2.2.2 gX8_takeWord_X7_at rfl rfl rfl (by decide +kernel) ⟨Nat.le_of_ble_eq_true rfl, Nat.le_of_ble_eq_true rfl⟩) rfl rfl (Nat.le_of_ble_eq_true rfl) dX8_takeWord_60 ⟨Nat.le_of_ble_eq_true rfl, Nat.le_of_ble_eq_true rfl⟩ ?_
      refine pv_lload_n C 2 dX8_takeWord_63 rfl rfl ?_
      refine pv_lcmp C dX8_takeWord_64 ?_
      refine pv_if_ne (tgt := 73) C dX8_takeWord_65 (by decide) (fun c28 => ?_) (fun c28 => ?_)
      · have h := pq_if c28 h
        refine pv_iload C 6 dX8_takeWord_73 rfl ?_
        refine pv_bipush (v := 64) C dX8_takeWord_75 (by decide) ?_
        refine pv_iadd C dX8_takeWord_77 ?_
        refine pv_sub [1, 2, 3, 4, 5, 7, 8, 0] rfl ?_
        exact r_X8_takeWord_b78 W0 C hr hlk ih _ _ _ _ _ _ _ _ _ _ k0_ k3_ h
      · have h := pq_it c28 h
        refine pv_iload C 6 dX8_takeWord_68 rfl ?_
        refine pv_goto (tgt := 78) C dX8_takeWord_70 (by decide) ?_
        refine pv_sub [1, 2, 3, 4, 5, 7, 8, 0] rfl ?_
        exact r_X8_takeWord_b78 W0 C hr hlk ih _ _ _ _ _ _ _ _ _ _ k0_ k3_ h
set_option maxHeartbeats 4000000 in
set_option maxRecDepth 100000 in
theorem r_X8_takeWord {l : Launch} {D : va_G} {y : pq_Y} {G : pq_G} (W0 : pq_WT G) {S : pq_N} {a0 : Nat} {x1 : Int64} {a3 : Nat} {x4 : Int32} {x5 : Int32} (k0_ : pq_ok G 8 a0) (k3_ : pq_ok G 4 a3) {S1 : pq_N} (h : F_X8_takeWord G S a0 x1 a3 x4 x5 = some ((), S1)) (sz : Nat) : Met l yX8_takeWord wsX8_takeWord ({ frames := 1, cells := 0, slots := 0, locals := 23 } : Room) (pq_P D y G S sz [.ref a0, .long x1, .ref a3, .int x4, .int x5]) (pq_Qv D y G sz S1) 0 0 (pq_A G sz) := by
  refine pq_enter RX8 11 (by decide) rfl rfl rfl ?_
  intro p e s m below meth c C hsz hr hlk
  subst hsz
  unfold F_X8_takeWord at h
  refine pv_sub (lo1 := [(0, .ref a0), (1, .long x1), (3, .ref a3), (4, .int x4), (5, .int x5)]) [0, 1, 2, 3, 4] rfl ?_
  refine pv_aload_n C 0 dX8_takeWord_0 rfl rfl ?_
  have k11 := pq_wt (k := 0) W0 k0_ rfl
  refine pv_getr (T := TX8) (N := 4) C 0 inu_X8_takeWord_8 rfl (by decide) (by decide) (List.mem_of_getElem? (i := 1) rfl) rfl k0_ k11.1 dX8_takeWord_1 ?_
  refine pv_iconst (v := 0) C dX8_takeWord_4 (by decide) ?_
  obtain ⟨v12, S13, e14, h⟩ := pq_bs h
  refine pv_calliV C (ci := 7) rfl (by decide) k11.2 [.int (0 : Int32)] (fun sz => r_X7_number W0 k11.2 e14 sz) (cwV 1 C.1.2.2.2.2 gX8_takeWord_X7_number rfl rfl rfl (by decide +kernel) ⟨Nat.le_of_ble_eq_true rfl, Nat.le_of_ble_eq_true rfl⟩) rfl rfl (Nat.le_of_ble_eq_true rfl) dX8_takeWord_5 ⟨Nat.le_of_ble_eq_true rfl, Nat.le_of_ble_eq_true rfl⟩ ?_
  refine pv_istore C [(6, .int v12), (0, .ref a0), (1, .long x1), (3, .ref a3), (4, .int x4), (5, .int x5)] dX8_takeWord_8 (by decide) rfl ?_
  refine pv_iload C 0 dX8_takeWord_10 rfl ?_
  refine pv_bipush (v := 64) C dX8_takeWord_12 (by decide) ?_
  refine pv_iadd C dX8_takeWord_14 ?_
  refine pv_istore C [(7, .int (v12 + (64 : Int32))), (6, .int v12), (0, .ref a0), (1, .long x1), (3, .ref a3), (4, .int x4), (5, .int x5)] dX8_takeWord_15 (by decide) rfl ?_
  refine pv_aload_n C 2 dX8_takeWord_17 rfl rfl ?_
  have k15 := pq_wt (k := 0) W0 k0_ rfl
  refine pv_getr (T := TX8) (N := 4) C 0 inu_X8_takeWord_8 rfl (by decide) (by decide) (List.mem_of_getElem? (i := 1) rfl) rfl k0_ k15.1 dX8_takeWord_18 ?_
  refine pv_iconst (v := 0) C dX8_takeWord_21 (by decide) ?_
  refine pv_iload C 0 dX8_takeWord_22 rfl ?_
  refine pv_i2l C dX8_takeWord_24 ?_
  obtain ⟨⟨⟩, S17, e18, h⟩ := pq_bs h
  refine pv_callvV C (ci := 7) rfl (by decide) k15.2 [.int (0 : Int32), .long (Int32.toInt64 (v12 + (64 : Int32)))] (fun sz => r_X7_put W0 k15.2 e18 sz) (cwV 2 C.1.2.2.2.2 gX8_takeWord_X7_put rfl rfl rfl (by decide +kernel) ⟨Nat.le_of_ble_eq_true rfl, Nat.le_of_ble_eq_true rfl⟩) rfl rfl (Nat.le_of_ble_eq_true rfl) dX8_takeWord_25 ⟨Nat.le_of_ble_eq_true rfl, Nat.le_of_ble_eq_true rfl⟩ ?_
  refine pv_iconst (v := 1) C dX8_takeWord_28 (by decide) ?_
  refine pv_istore C [(8, .int (1 : Int32)), (7, .int (v12 + (64 : Int32))), (6, .int v12), (0, .ref a0), (1, .long x1), (3, .ref a3), (4, .int x4), (5, .int x5)] dX8_takeWord_29 (by decide) rfl ?_
  refine pv_sub [3, 4, 5, 6, 7, 2, 1, 0] rfl ?_
  exact r_X8_takeWord_b31 W0 C hr hlk pq_fuel _ _ _ _ _ _ _ _ _ k0_ k3_ h
def F_X8_byTable_b57 (G : pq_G)  : Nat → pq_N → Nat → Nat → Nat → Int32 → Int32 → Option (Unit × pq_N)
  | 0, _, _, _, _, _, _ => none
  | n + 1, S, a0, a1, a3, x5, x6 => (if x5 ≤ x6 then (pq_bd (F_X8_chooseEnd G S a0 (S.1 a3 6)) fun _ S26 => some ((), S26)) else (pq_bd (F_X7_at G S (pq_r G a1 0) x6) fun v29 S30 => (pq_bd (F_X8_takeWord G S30 a0 v29 a3 (0 : Int32) (S30.1 a3 6)) fun _ S33 => (F_X8_byTable_b57 G n) S33 a0 a1 a3 x5 (x6 + (1 : Int32)))))
def F_X8_byTable_b26 (G : pq_G)  : Nat → pq_N → Nat → Nat → Nat → Int32 → Int32 → Int32 → Option (Unit × pq_N)
  | 0, _, _, _, _, _, _, _ => none
  | n + 1, S, a0, a1, a3, x4, x5, x6 => (if (S.1 a3 6) < x6 then F_X8_byTable_b57 G pq_fuel S a0 a1 a3 x5 x4 else (pq_bd (F_X7_put G S (pq_r G a0 0) x6 (Int32.toInt64 x6)) fun _ S22 => (F_X8_byTable_b26 G n) S22 a0 a1 a3 x4 x5 (x6 + (1 : Int32))))
def F_X8_byTable (G : pq_G) (S : pq_N) (a0 : Nat) (a1 : Nat) (x2 : Int32) (a3 : Nat) : Option (Unit × pq_N) := (pq_bd (F_X7_number G S (pq_r G a1 2) x2) fun v12 S13 => (pq_bd (F_X7_number G S13 (pq_r G a1 3) x2) fun v16 S17 => F_X8_byTable_b26 G pq_fuel S17 a0 a1 a3 v12 (v12 + v16) (0 : Int32)))
theorem inu_X8_byTable_4 : ∀ w ∈ u_ws RX4 TX4 8, w ∈ wsX8_byTable := pq_inu 32 rfl
theorem inu_X8_byTable_8 : ∀ w ∈ u_ws RX8 TX8 4, w ∈ wsX8_byTable := pq_inu 40 rfl
set_option maxHeartbeats 4000000 in
set_option maxRecDepth 100000 in
theorem r_X8_byTable_b57 {p : Program} {l : Launch} {e : Env} {s : State} {m : MethodId} {av : Array Value} {below : List Frame} {meth : Method} {c : Code} {D : va_G} {y : pq_Y} {G : pq_G} {S1 : pq_N} (W0 : pq_WT G) (C : pq_C p s m av c D y RX8 wsX8_byTable cX8_byTable 7) (hr : meth.sig.returnType = none) (hlk : meth.locks = false) (n : Nat) : ∀ (S : pq_N) (a0 : Nat) (a1 : Nat) (a3 : Nat) (x5 : Int32) (x6 : Int32), pq_ok G 8 a0 → pq_ok G 4 a1 → pq_ok G 4 a3 → F_X8_byTable_b57 G n S a0 a1 a3 x5 x6 = some ((), S1) → pq_V p l e (headSpec wsX8_byTable ({ frames := 2, cells := 0, slots := 0, locals := 53 } : Room)).room s m av below meth c 0 0 (MQ below (pq_Qv D y G s.heap.size S1) av s 0 0 (pq_A G s.heap.size)) D y 7 (pq_A G s.heap.size) (fun _ => True) G S 57 [(0, .ref a0), (1, .ref a1), (3, .ref a3), (5, .int x5), (6, .int x6)] [] := by
  induction n with
  | zero =>
    intro S a0 a1 a3 x5 x6 k0_ k1_ k3_ h
    rw [F_X8_byTable_b57.eq_1] at h; cases h
  | succ n ih =>
    intro S a0 a1 a3 x5 x6 k0_ k1_ k3_ h
    rw [F_X8_byTable_b57.eq_2] at h
    refine pv_iload C 4 dX8_byTable_57 rfl ?_
    refine pv_iload C 3 dX8_byTable_59 rfl ?_
    refine pv_icmp_ge (tgt := 89) C dX8_byTable_61 (by decide) (fun c24 => ?_) (fun c24 => ?_)
    · have h := pq_it c24 h
      refine pv_aload_n C 0 dX8_byTable_89 rfl rfl ?_
      refine pv_aload_n C 2 dX8_byTable_90 rfl rfl ?_
      refine pv_getiN (T := TX4) (N := 8) C 6 inu_X8_byTable_4 rfl (by decide) (by decide) (List.mem_of_getElem? (i := 19) rfl) rfl k3_ dX8_byTable_91 ?_
      obtain ⟨⟨⟩, S26, e27, h⟩ := pq_bs h
      refine pv_callvV C (ci := 8) rfl (by decide) k0_ [.int (S.1 a3 6)] (fun sz => r_X8_chooseEnd W0 k0_ e27 sz) (cwV 1 C.1.2.2.2.2 gX8_byTable_X8_chooseEnd rfl rfl rfl (by decide +kernel) ⟨Nat.le_of_ble_eq_true rfl, Nat.le_of_ble_eq_true rfl⟩) rfl rfl (Nat.le_of_ble_eq_true rfl) dX8_byTable_94 ⟨Nat.le_of_ble_eq_true rfl, Nat.le_of_ble_eq_true rfl⟩ ?_
      exact pv_vret C hr hlk h dX8_byTable_97
    · have h := pq_if c24 h
      refine pv_aload_n C 0 dX8_byTable_64 rfl rfl ?_
      refine pv_aload_n C 1 dX8_byTable_65 rfl rfl ?_
      have k28 := pq_wt (k := 0) W0 k1_ rfl
      refine pv_getrN (T := TX4) (N := 8) C 0 inu_X8_byTable_4 rfl (by decide) (by decide) (List.mem_of_getElem? (i := 1) rfl) rfl k1_ k28.1 dX8_byTable_66 ?_
      refine pv_iload C 4 dX8_byTable_69 rfl ?_
      obtain ⟨v29, S30, e31, h⟩ := pq_bs h
      refine pv_calllV C (ci := 7) rfl (by decide) k28.2 [.int x6] (fun sz => r_X7_at W0 k28.2 e31 sz) (cwV 1 C.1.2.2.2.2 gX8_byTable_X7_at rfl rfl rfl (by decide +kernel) ⟨Nat.le_of_ble_eq_true rfl, Nat.le_of_ble_eq_true rfl⟩) rfl rfl (Nat.le_of_ble_eq_true rfl) dX8_byTable_71 ⟨Nat.le_of_ble_eq_true rfl, Nat.le_of_ble_eq_true rfl⟩ ?_
      refine pv_aload_n C 2 dX8_byTable_74 rfl rfl ?_
      refine pv_iconst (v := 0) C dX8_byTable_75 (by decide) ?_
      refine pv_aload_n C 2 dX8_byTable_76 rfl rfl ?_
      refine pv_getiN (T := TX4) (N := 8) C 6 inu_X8_byTable_4 rfl (by decide) (by decide) (List.mem_of_getElem? (i := 19) rfl) rfl k3_ dX8_byTable_77 ?_
      obtain ⟨⟨⟩, S33, e34, h⟩ := pq_bs h
      refine pv_callvV C (ci := 8) rfl (by decide) k0_ [.long v29, .ref a3, .int (0 : Int32), .int (S30.1 a3 6)] (fun sz => r_X8_takeWord W0 k0_ k3_ e34 sz) (cwV 4 C.1.2.2.2.2 gX8_byTable_X8_takeWord rfl rfl rfl (by decide +kernel) ⟨Nat.le_of_ble_eq_true rfl, Nat.le_of_ble_eq_true rfl⟩) rfl rfl (Nat.le_of_ble_eq_true rfl) dX8_byTable_80 ⟨Nat.le_of_ble_eq_true rfl, Nat.le_of_ble_eq_true rfl⟩ ?_
      refine pv_iinc (v := (x6 + (1 : Int32))) C 4 [(6, .int (x6 + (1 : Int32))), (0, .ref a0), (1, .ref a1), (3, .ref a3), (5, .int x5)] dX8_byTable_83 rfl rfl (by decide) rfl ?_
      refine pv_goto (tgt := 57) C dX8_byTable_86 (by decide) ?_
      refine pv_sub [1, 2, 3, 4, 0] rfl ?_
      exact ih _ _ _ _ _ _ k0_ k1_ k3_ h
set_option maxHeartbeats 4000000 in
set_option maxRecDepth 100000 in
theorem r_X8_byTable_b26 {p : Program} {l : Launch} {e : Env} {s : State} {m : MethodId} {av : Array Value} {below : List Frame} {meth : Method} {c : Code} {D : va_G} {y : pq_Y} {G : pq_G} {S1 : pq_N} (W0 : pq_WT G) (C : pq_C p s m av c D y RX8 wsX8_byTable cX8_byTable 7) (hr : meth.sig.returnType = none) (hlk : meth.locks = false) (n : Nat) : ∀ (S : pq_N) (a0 : Nat) (a1 : Nat) (a3 : Nat) (x4 : Int32) (x5 : Int32) (x6 : Int32), pq_ok G 8 a0 → pq_ok G 4 a1 → pq_ok G 4 a3 → F_X8_byTable_b26 G n S a0 a1 a3 x4 x5 x6 = some ((), S1) → pq_V p l e (headSpec wsX8_byTable ({ frames := 2, cells := 0, slots := 0, locals := 53 } : Room)).room s m av below meth c 0 0 (MQ below (pq_Qv D y G s.heap.size S1) av s 0 0 (pq_A G s.heap.size)) D y 7 (pq_A G s.heap.size) (fun _ => True) G S 26 [(0, .ref a0), (1, .ref a1), (3, .ref a3), (4, .int x4), (5, .int x5), (6, .int x6)] [] := by
  induction n with
  | zero =>
    intro S a0 a1 a3 x4 x5 x6 k0_ k1_ k3_ h
    rw [F_X8_byTable_b26.eq_1] at h; cases h
  | succ n ih =>
    intro S a0 a1 a3 x4 x5 x6 k0_ k1_ k3_ h
    rw [F_X8_byTable_b26.eq_2] at h
    refine pv_iload C 5 dX8_byTable_26 rfl ?_
    refine pv_aload_n C 2 dX8_byTable_28 rfl rfl ?_
    refine pv_getiN (T := TX4) (N := 8) C 6 inu_X8_byTable_4 rfl (by decide) (by decide) (List.mem_of_getElem? (i := 19) rfl) rfl k3_ dX8_byTable_29 ?_
    refine pv_icmp_gt (tgt := 53) C dX8_byTable_32 (by decide) (fun c19 => ?_) (fun c19 => ?_)
    · have h := pq_it c19 h
      refine pv_iload C 3 dX8_byTable_53 rfl ?_
      refine pv_istore C [(6, .int x4), (0, .ref a0), (1, .ref a1), (3, .ref a3), (4, .int x4), (5, .int x5)] dX8_byTable_55 (by decide) rfl ?_
      refine pv_sub [1, 2, 3, 5, 0] rfl ?_
      exact r_X8_byTable_b57 W0 C hr hlk pq_fuel _ _ _ _ _ _ k0_ k1_ k3_ h
    · have h := pq_if c19 h
      refine pv_aload_n C 0 dX8_byTable_35 rfl rfl ?_
      have k20 := pq_wt (k := 0) W0 k0_ rfl
      refine pv_getr (T := TX8) (N := 4) C 0 inu_X8_byTable_8 rfl (by decide) (by decide) (List.mem_of_getElem? (i := 1) rfl) rfl k0_ k20.1 dX8_byTable_36 ?_
      refine pv_iload C 5 dX8_byTable_39 rfl ?_
      refine pv_iload C 5 dX8_byTable_41 rfl ?_
      refine pv_i2l C dX8_byTable_43 ?_
      obtain ⟨⟨⟩, S22, e23, h⟩ := pq_bs h
      refine pv_callvV C (ci := 7) rfl (by decide) k20.2 [.int x6, .long (Int32.toInt64 x6)] (fun sz => r_X7_put W0 k20.2 e23 sz) (cwV 2 C.1.2.2.2.2 gX8_byTable_X7_put rfl rfl rfl (by decide +kernel) ⟨Nat.le_of_ble_eq_true rfl, Nat.le_of_ble_eq_true rfl⟩) rfl rfl (Nat.le_of_ble_eq_true rfl) dX8_byTable_44 ⟨Nat.le_of_ble_eq_true rfl, Nat.le_of_ble_eq_true rfl⟩ ?_
      refine pv_iinc (v := (x6 + (1 : Int32))) C 5 [(6, .int (x6 + (1 : Int32))), (0, .ref a0), (1, .ref a1), (3, .ref a3), (4, .int x4), (5, .int x5)] dX8_byTable_47 rfl rfl (by decide) rfl ?_
      refine pv_goto (tgt := 26) C dX8_byTable_50 (by decide) ?_
      refine pv_sub [1, 2, 3, 4, 5, 0] rfl ?_
      exact ih _ _ _ _ _ _ _ k0_ k1_ k3_ h
set_option maxHeartbeats 4000000 in
set_option maxRecDepth 100000 in
theorem r_X8_byTable {l : Launch} {D : va_G} {y : pq_Y} {G : pq_G} (W0 : pq_WT G) {S : pq_N} {a0 : Nat} {a1 : Nat} {x2 : Int32} {a3 : Nat} (k0_ : pq_ok G 8 a0) (k1_ : pq_ok G 4 a1) (k3_ : pq_ok G 4 a3) {S1 : pq_N} (h : F_X8_byTable G S a0 a1 x2 a3 = some ((), S1)) (sz : Nat) : Met l yX8_byTable wsX8_byTable ({ frames := 2, cells := 0, slots := 0, locals := 53 } : Room) (pq_P D y G S sz [.ref a0, .ref a1, .int x2, .ref a3]) (pq_Qv D y G sz S1) 0 0 (pq_A G sz) := by
  refine pq_enter RX8 7 (by decide) rfl rfl rfl ?_
  intro p e s m below meth c C hsz hr hlk
  subst hsz
  unfold F_X8_byTable at h
  refine pv_sub (lo1 := [(0, .ref a0), (1, .ref a1), (2, .int x2), (3, .ref a3)]) [0, 1, 2, 3] rfl ?_
  refine pv_aload_n C 1 dX8_byTable_0 rfl rfl ?_
  have k11 := pq_wt (k := 2) W0 k1_ rfl
  refine pv_getrN (T := TX4) (N := 8) C 2 inu_X8_byTable_4 rfl (by decide) (by decide) (List.mem_of_getElem? (i := 9) rfl) rfl k1_ k11.1 dX8_byTable_1 ?_
  refine pv_iload_n C 2 dX8_byTable_4 rfl rfl ?_
  obtain ⟨v12, S13, e14, h⟩ := pq_bs h
  refine pv_calliV C (ci := 7) rfl (by decide) k11.2 [.int x2] (fun sz => r_X7_number W0 k11.2 e14 sz) (cwV 1 C.1.2.2.2.2 gX8_byTable_X7_number rfl rfl rfl (by decide +kernel) ⟨Nat.le_of_ble_eq_true rfl, Nat.le_of_ble_eq_true rfl⟩) rfl rfl (Nat.le_of_ble_eq_true rfl) dX8_byTable_5 ⟨Nat.le_of_ble_eq_true rfl, Nat.le_of_ble_eq_true rfl⟩ ?_
  refine pv_istore C [(4, .int v12), (0, .ref a0), (1, .ref a1), (2, .int x2), (3, .ref a3)] dX8_byTable_8 (by decide) rfl ?_
  refine pv_iload C 0 dX8_byTable_10 rfl ?_
  refine pv_aload_n C 2 dX8_byTable_12 rfl rfl ?_
  have k15 := pq_wt (k := 3) W0 k1_ rfl
  refine pv_getrN (T := TX4) (N := 8) C 3 inu_X8_byTable_4 rfl (by decide) (by decide) (List.mem_of_getElem? (i := 11) rfl) rfl k1_ k15.1 dX8_byTable_13 ?_
  refine pv_iload_n C 3 dX8_byTable_16 rfl rfl ?_
  obtain ⟨v16, S17, e18, h⟩ := pq_bs h
  refine pv_calliV C (ci := 7) rfl (by decide) k15.2 [.int x2] (fun sz => r_X7_number W0 k15.2 e18 sz) (cwV 1 C.1.2.2.2.2 gX8_byTable_X7_number rfl rfl rfl (by decide +kernel) ⟨Nat.le_of_ble_eq_true rfl, Nat.le_of_ble_eq_true rfl⟩) rfl rfl (Nat.le_of_ble_eq_true rfl) dX8_byTable_17 ⟨Nat.le_of_ble_eq_true rfl, Nat.le_of_ble_eq_true rfl⟩ ?_
  refine pv_iadd C dX8_byTable_20 ?_
  refine pv_istore C [(5, .int (v12 + v16)), (4, .int v12), (0, .ref a0), (1, .ref a1), (2, .int x2), (3, .ref a3)] dX8_byTable_21 (by decide) rfl ?_
  refine pv_iconst (v := 0) C dX8_byTable_23 (by decide) ?_
  refine pv_istore C [(6, .int (0 : Int32)), (5, .int (v12 + v16)), (4, .int v12), (0, .ref a0), (1, .ref a1), (2, .int x2), (3, .ref a3)] dX8_byTable_24 (by decide) rfl ?_
  refine pv_sub [3, 4, 6, 2, 1, 0] rfl ?_
  exact r_X8_byTable_b26 W0 C hr hlk pq_fuel _ _ _ _ _ _ _ k0_ k1_ k3_ h
def F_X5_find (G : pq_G) (S : pq_N) (a0 : Nat) (a1 : Nat) (x2 : Int32) (x3 : Int32) : Option (Int32 × pq_N) := (pq_bd (F_X9_at G S a1 x2) fun v11 S12 => (pq_bd (F_X7_number G S12 (pq_r G v11 1) x3) fun v17 S18 => (pq_bd (F_X9_at G S18 a1 v17) fun v20 S21 => (pq_bd (F_X8_byTable G S21 (pq_r G a0 0) v11 x3 v20) fun _ S25 => some ((S25.1 (pq_r G a0 0) 1), S25)))))
theorem inu_X5_find_4 : ∀ w ∈ u_ws RX4 TX4 8, w ∈ wsX5_find := pq_inu 48 rfl
theorem inu_X5_find_5 : ∀ w ∈ u_ws RX5 TX5 3, w ∈ wsX5_find := pq_inu 45 rfl
theorem inu_X5_find_8 : ∀ w ∈ u_ws RX8 TX8 4, w ∈ wsX5_find := pq_inu 56 rfl
set_option maxHeartbeats 4000000 in
set_option maxRecDepth 100000 in
theorem r_X5_find {l : Launch} {D : va_G} {y : pq_Y} {G : pq_G} (W0 : pq_WT G) {S : pq_N} {a0 : Nat} {a1 : Nat} {x2 : Int32} {x3 : Int32} (k0_ : pq_ok G 5 a0) (k1_ : pq_ok G 9 a1) {r : Int32} {S1 : pq_N} (h : F_X5_find G S a0 a1 x2 x3 = some (r, S1)) (sz : Nat) : Met l yX5_find wsX5_find ({ frames := 3, cells := 0, slots := 0, locals := 79 } : Room) (pq_P D y G S sz [.ref a0, .ref a1, .int x2, .int x3]) (pq_Qi D y G sz r S1) 0 0 (pq_A G sz) := by
  refine pq_enter RX5 5 (by decide) rfl rfl rfl ?_
  intro p e s m below meth c C hsz hr hlk
  subst hsz
  unfold F_X5_find at h
  refine pv_sub (lo1 := [(0, .ref a0), (1, .ref a1), (2, .int x2), (3, .int x3)]) [0, 1, 2, 3] rfl ?_
  refine pv_aload_n C 1 dX5_find_0 rfl rfl ?_
  refine pv_iload_n C 2 dX5_find_1 rfl rfl ?_
  obtain ⟨v11, S12, e13, h⟩ := pq_bs h
  have k14 := o_X9_at W0 k1_ e13
  refine pv_callrV C (ci := 9) rfl (by decide) k1_ [.int x2] (fun sz => r_X9_at W0 k1_ e13 sz) (cwV 1 C.1.2.2.2.2 gX5_find_X9_at rfl rfl rfl (by decide +kernel) ⟨Nat.le_of_ble_eq_true rfl, Nat.le_of_ble_eq_true rfl⟩) rfl rfl (Nat.le_of_ble_eq_true rfl) dX5_find_2 ⟨Nat.le_of_ble_eq_true rfl, Nat.le_of_ble_eq_true rfl⟩ ?_
  refine pv_astore C [(4, .ref v11), (0, .ref a0), (1, .ref a1), (2, .int x2), (3, .int x3)] dX5_find_5 (by decide) rfl ?_
  refine pv_aload_n C 1 dX5_find_7 rfl rfl ?_
  have k15 := pq_wt (k := 0) W0 k0_ rfl
  refine pv_getr (T := TX5) (N := 3) C 0 inu_X5_find_5 rfl (by decide) (by decide) (List.mem_of_getElem? (i := 1) rfl) rfl k0_ k15.1 dX5_find_8 ?_
  refine pv_aload C 0 dX5_find_11 rfl ?_
  refine pv_iload_n C 4 dX5_find_13 rfl rfl ?_
  refine pv_aload_n C 2 dX5_find_14 rfl rfl ?_
  refine pv_aload C 0 dX5_find_15 rfl ?_
  have k16 := pq_wt (k := 1) W0 k14 rfl
  refine pv_getrN (T := TX4) (N := 8) C 1 inu_X5_find_4 rfl (by decide) (by decide) (List.mem_of_getElem? (i := 4) rfl) rfl k14 k16.1 dX5_find_17 ?_
  refine pv_iload_n C 4 dX5_find_20 rfl rfl ?_
  obtain ⟨v17, S18, e19, h⟩ := pq_bs h
  refine pv_calliV C (ci := 7) rfl (by decide) k16.2 [.int x3] (fun sz => r_X7_number W0 k16.2 e19 sz) (cwV 1 C.1.2.2.2.2 gX5_find_X7_number rfl rfl rfl (by decide +kernel) ⟨Nat.le_of_ble_eq_true rfl, Nat.le_of_ble_eq_true rfl⟩) rfl rfl (Nat.le_of_ble_eq_true rfl) dX5_find_21 ⟨Nat.le_of_ble_eq_true rfl, Nat.le_of_ble_eq_true rfl⟩ ?_
  obtain ⟨v20, S21, e22, h⟩ := pq_bs h
  have k23 := o_X9_at W0 k1_ e22
  refine pv_callrV C (ci := 9) rfl (by decide) k1_ [.int v17] (fun sz => r_X9_at W0 k1_ e22 sz) (cwV 1 C.1.2.2.2.2 gX5_find_X9_at rfl rfl rfl (by decide +kernel) ⟨Nat.le_of_ble_eq_true rfl, Nat.le_of_ble_eq_true rfl⟩) rfl rfl (Nat.le_of_ble_eq_true rfl) dX5_find_24 ⟨Nat.le_of_ble_eq_true rfl, Nat.le_of_ble_eq_true rfl⟩ ?_
  obtain ⟨⟨⟩, S25, e26, h⟩ := pq_bs h
  refine pv_callvV C (ci := 8) rfl (by decide) k15.2 [.ref v11, .int x3, .ref v20] (fun sz => r_X8_byTable W0 k15.2 k14 k23 e26 sz) (cwV 3 C.1.2.2.2.2 gX5_find_X8_byTable rfl rfl rfl (by decide +kernel) ⟨Nat.le_of_ble_eq_true rfl, Nat.le_of_ble_eq_true rfl⟩) rfl rfl (Nat.le_of_ble_eq_true rfl) dX5_find_27 ⟨Nat.le_of_ble_eq_true rfl, Nat.le_of_ble_eq_true rfl⟩ ?_
  refine pv_aload_n C 1 dX5_find_30 rfl rfl ?_
  have k27 := pq_wt (k := 0) W0 k0_ rfl
  refine pv_getr (T := TX5) (N := 3) C 0 inu_X5_find_5 rfl (by decide) (by decide) (List.mem_of_getElem? (i := 1) rfl) rfl k0_ k27.1 dX5_find_31 ?_
  refine pv_getiN (T := TX8) (N := 4) C 1 inu_X5_find_8 rfl (by decide) (by decide) (List.mem_of_getElem? (i := 40) rfl) rfl k27.2 dX5_find_34 ?_
  exact pv_iret C hr hlk h dX5_find_37
def F_X5_changesIn_b53 (G : pq_G) (c13 : pq_N → Nat → Nat → Int32 → Int32 → Nat → Int32 → Int32 → Option (Int32 × pq_N)) (S : pq_N) (a0 : Nat) (a1 : Nat) (x2 : Int32) (x3 : Int32) (a4 : Nat) (x5 : Int32) (x6 : Int32) : Option (Int32 × pq_N) := (pq_bd (F_X5_find G S a0 a1 x2 x6) fun v26 S27 => c13 S27 a0 a1 x2 x3 a4 (x5 + v26) (x6 + (1 : Int32)))
def F_X5_changesIn_b13 (G : pq_G)  : Nat → pq_N → Nat → Nat → Int32 → Int32 → Nat → Int32 → Int32 → Option (Int32 × pq_N)
  | 0, _, _, _, _, _, _, _, _ => none
  | n + 1, S, a0, a1, x2, x3, a4, x5, x6 => (if (S.1 a4 7) ≤ x6 then some (x5, S) else (pq_bd (F_X7_number G S (pq_r G a4 1) x6) fun v17 S18 => (pq_bd (F_X9_at G S18 a1 v17) fun v20 S21 => (if x3 = (-1 : Int32) then F_X5_changesIn_b53 G ((F_X5_changesIn_b13 G n)) S21 a0 a1 x2 x3 a4 x5 x6 else (if x3 = (S21.1 v20 4) then F_X5_changesIn_b53 G ((F_X5_changesIn_b13 G n)) S21 a0 a1 x2 x3 a4 x5 x6 else (F_X5_changesIn_b13 G n) S21 a0 a1 x2 x3 a4 x5 (x6 + (1 : Int32)))))))
def F_X5_changesIn (G : pq_G) (S : pq_N) (a0 : Nat) (a1 : Nat) (x2 : Int32) (x3 : Int32) : Option (Int32 × pq_N) := (pq_bd (F_X9_at G S a1 x2) fun v11 S12 => F_X5_changesIn_b13 G pq_fuel S12 a0 a1 x2 x3 v11 (0 : Int32) (0 : Int32))
theorem inu_X5_changesIn_4 : ∀ w ∈ u_ws RX4 TX4 8, w ∈ wsX5_changesIn := pq_inu 50 rfl
set_option maxHeartbeats 4000000 in
set_option maxRecDepth 100000 in
theorem r_X5_changesIn_b53 {p : Program} {l : Launch} {e : Env} {s : State} {m : MethodId} {av : Array Value} {below : List Frame} {meth : Method} {c : Code} {D : va_G} {y : pq_Y} {G : pq_G} {r : Int32} {S1 : pq_N} (W0 : pq_WT G) (C : pq_C p s m av c D y RX5 wsX5_changesIn cX5_changesIn 8) (hr : meth.sig.returnType = (some .int)) (hlk : meth.locks = false) {c13 : pq_N → Nat → Nat → Int32 → Int32 → Nat → Int32 → Int32 → Option (Int32 × pq_N)} (hk13 : ∀ (S : pq_N) (a0 : Nat) (a1 : Nat) (x2 : Int32) (x3 : Int32) (a4 : Nat) (x5 : Int32) (x6 : Int32), pq_ok G 5 a0 → pq_ok G 9 a1 → pq_ok G 4 a4 → c13 S a0 a1 x2 x3 a4 x5 x6 = some (r, S1) → pq_V p l e (headSpec wsX5_changesIn ({ frames := 4, cells := 0, slots := 0, locals := 103 } : Room)).room s m av below meth c 0 0 (MQ below (pq_Qi D y G s.heap.size r S1) av s 0 0 (pq_A G s.heap.size)) D y 8 (pq_A G s.heap.size) (fun _ => True) G S 13 [(0, .ref a0), (1, .ref a1), (2, .int x2), (3, .int x3), (4, .ref a4), (5, .int x5), (6, .int x6)] []) : ∀ (S : pq_N) (a0 : Nat) (a1 : Nat) (x2 : Int32) (x3 : Int32) (a4 : Nat) (x5 : Int32) (x6 : Int32), pq_ok G 5 a0 → pq_ok G 9 a1 → pq_ok G 4 a4 → F_X5_changesIn_b53 G c13 S a0 a1 x2 x3 a4 x5 x6 = some (r, S1) → pq_V p l e (headSpec wsX5_changesIn ({ frames := 4, cells := 0, slots := 0, locals := 103 } : Room)).room s m av below meth c 0 0 (MQ below (pq_Qi D y G s.heap.size r S1) av s 0 0 (pq_A G s.heap.size)) D y 8 (pq_A G s.heap.size) (fun _ => True) G S 53 [(0, .ref a0), (1, .ref a1), (2, .int x2), (3, .int x3), (4, .ref a4), (5, .int x5), (6, .int x6)] [] := by
  intro S a0 a1 x2 x3 a4 x5 x6 k0_ k1_ k4_ h
  unfold F_X5_changesIn_b53 at h
  refine pv_iload C 5 dX5_changesIn_53 rfl ?_
  refine pv_aload_n C 0 dX5_changesIn_55 rfl rfl ?_
  refine pv_aload_n C 1 dX5_changesIn_56 rfl rfl ?_
  refine pv_iload_n C 2 dX5_changesIn_57 rfl rfl ?_
  refine pv_iload C 6 dX5_changesIn_58 rfl ?_
  obtain ⟨v26, S27, e28, h⟩ := pq_bs h
  refine pv_calliV C (ci := 5) rfl (by decide) k0_ [.ref a1, .int x2, .int x6] (fun sz => r_X5_find W0 k0_ k1_ e28 sz) (cwV 3 C.1.2.2.2.2 gX5_changesIn_X5_find rfl rfl rfl (by decide +kernel) ⟨Nat.le_of_ble_eq_true rfl, Nat.le_of_ble_eq_true rfl⟩) rfl rfl (Nat.le_of_ble_eq_true rfl) dX5_changesIn_60 ⟨Nat.le_of_ble_eq_true rfl, Nat.le_of_ble_eq_true rfl⟩ ?_
  refine pv_iadd C dX5_changesIn_63 ?_
  refine pv_istore C [(5, .int (x5 + v26)), (0, .ref a0), (1, .ref a1), (2, .int x2), (3, .int x3), (4, .ref a4), (6, .int x6)] dX5_changesIn_64 (by decide) rfl ?_
  refine pv_iinc (v := (x6 + (1 : Int32))) C 6 [(6, .int (x6 + (1 : Int32))), (5, .int (x5 + v26)), (0, .ref a0), (1, .ref a1), (2, .int x2), (3, .int x3), (4, .ref a4)] dX5_changesIn_66 rfl rfl (by decide) rfl ?_
  refine pv_goto (tgt := 13) C dX5_changesIn_69 (by decide) ?_
  refine pv_sub [2, 3, 4, 5, 6, 1, 0] rfl ?_
  exact hk13 _ _ _ _ _ _ _ _ k0_ k1_ k4_ h
set_option maxHeartbeats 4000000 in
set_option maxRecDepth 100000 in
theorem r_X5_changesIn_b13 {p : Program} {l : Launch} {e : Env} {s : State} {m : MethodId} {av : Array Value} {below : List Frame} {meth : Method} {c : Code} {D : va_G} {y : pq_Y} {G : pq_G} {r : Int32} {S1 : pq_N} (W0 : pq_WT G) (C : pq_C p s m av c D y RX5 wsX5_changesIn cX5_changesIn 8) (hr : meth.sig.returnType = (some .int)) (hlk : meth.locks = false) (n : Nat) : ∀ (S : pq_N) (a0 : Nat) (a1 : Nat) (x2 : Int32) (x3 : Int32) (a4 : Nat) (x5 : Int32) (x6 : Int32), pq_ok G 5 a0 → pq_ok G 9 a1 → pq_ok G 4 a4 → F_X5_changesIn_b13 G n S a0 a1 x2 x3 a4 x5 x6 = some (r, S1) → pq_V p l e (headSpec wsX5_changesIn ({ frames := 4, cells := 0, slots := 0, locals := 103 } : Room)).room s m av below meth c 0 0 (MQ below (pq_Qi D y G s.heap.size r S1) av s 0 0 (pq_A G s.heap.size)) D y 8 (pq_A G s.heap.size) (fun _ => True) G S 13 [(0, .ref a0), (1, .ref a1), (2, .int x2), (3, .int x3), (4, .ref a4), (5, .int x5), (6, .int x6)] [] := by
  induction n with
  | zero =>
    intro S a0 a1 x2 x3 a4 x5 x6 k0_ k1_ k4_ h
    rw [F_X5_changesIn_b13.eq_1] at h; cases h
  | succ n ih =>
    intro S a0 a1 x2 x3 a4 x5 x6 k0_ k1_ k4_ h
    rw [F_X5_changesIn_b13.eq_2] at h
    refine pv_iload C 6 dX5_changesIn_13 rfl ?_
    refine pv_aload C 4 dX5_changesIn_15 rfl ?_
    refine pv_getiN (T := TX4) (N := 8) C 7 inu_X5_changesIn_4 rfl (by decide) (by decide) (List.mem_of_getElem? (i := 25) rfl) rfl k4_ dX5_changesIn_17 ?_
    refine pv_icmp_ge (tgt := 72) C dX5_changesIn_20 (by decide) (fun c15 => ?_) (fun c15 => ?_)
    · have h := pq_it c15 h
      refine pv_iload C 5 dX5_changesIn_72 rfl ?_
      exact pv_iret C hr hlk h dX5_changesIn_74
    · have h := pq_if c15 h
      refine pv_aload_n C 1 dX5_changesIn_23 rfl rfl ?_
      refine pv_aload C 4 dX5_changesIn_24 rfl ?_
      have k16 := pq_wt (k := 1) W0 k4_ rfl
      refine pv_getrN (T := TX4) (N := 8) C 1 inu_X5_changesIn_4 rfl (by decide) (by decide) (List.mem_of_getElem? (i := 4) rfl) rfl k4_ k16.1 dX5_changesIn_26 ?_
      refine pv_iload C 6 dX5_changesIn_29 rfl ?_
      obtain ⟨v17, S18, e19, h⟩ := pq_bs h
      refine pv_calliV C (ci := 7) rfl (by decide) k16.2 [.int x6] (fun sz => r_X7_number W0 k16.2 e19 sz) (cwV 1 C.1.2.2.2.2 gX5_changesIn_X7_number rfl rfl rfl (by decide +kernel) ⟨Nat.le_of_ble_eq_true rfl, Nat.le_of_ble_eq_true rfl⟩) rfl rfl (Nat.le_of_ble_eq_true rfl) dX5_changesIn_31 ⟨Nat.le_of_ble_eq_true rfl, Nat.le_of_ble_eq_true rfl⟩ ?_
      obtain ⟨v20, S21, e22, h⟩ := pq_bs h
      have k23 := o_X9_at W0 k1_ e22
      refine pv_callrV C (ci := 9) rfl (by decide) k1_ [.int v17] (fun sz => r_X9_at W0 k1_ e22 sz) (cwV 1 C.1.2.2.2.2 gX5_changesIn_X9_at rfl rfl rfl (by decide +kernel) ⟨Nat.le_of_ble_eq_true rfl, Nat.le_of_ble_eq_true rfl⟩) rfl rfl (Nat.le_of_ble_eq_true rfl) dX5_changesIn_34 ⟨Nat.le_of_ble_eq_true rfl, Nat.le_of_ble_eq_true rfl⟩ ?_
      refine pv_getiN (T := TX4) (N := 8) C 4 inu_X5_changesIn_4 rfl (by decide) (by decide) (List.mem_of_getElem? (i := 15) rfl) rfl k23 dX5_changesIn_37 ?_
      refine pv_istore C [(7, .int (S21.1 v20 4)), (0, .ref a0), (1, .ref a1), (2, .int x2), (3, .int x3), (4, .ref a4), (5, .int x5), (6, .int x6)] dX5_changesIn_40 (by decide) rfl ?_
      refine pv_iload_n C 4 dX5_changesIn_42 rfl rfl ?_
      refine pv_iconst (v := -1) C dX5_changesIn_43 (by decide) ?_
      refine pv_icmp_eq (tgt := 53) C dX5_changesIn_44 (by decide) (fun c24 => ?_) (fun c24 => ?_)
      · have h := pq_it c24 h
        refine pv_sub [1, 2, 3, 4, 5, 6, 7] rfl ?_
        exact r_X5_changesIn_b53 W0 C hr hlk ih _ _ _ _ _ _ _ _ k0_ k1_ k4_ h
      · have h := pq_if c24 h
        refine pv_iload_n C 4 dX5_changesIn_47 rfl rfl ?_
        refine pv_iload C 0 dX5_changesIn_48 rfl ?_
        refine pv_icmp_ne (tgt := 66) C dX5_changesIn_50 (by decide) (fun c25 => ?_) (fun c25 => ?_)
        · have h := pq_if c25 h
          refine pv_iinc (v := (x6 + (1 : Int32))) C 7 [(6, .int (x6 + (1 : Int32))), (7, .int (S21.1 v20 4)), (0, .ref a0), (1, .ref a1), (2, .int x2), (3, .int x3), (4, .ref a4), (5, .int x5)] dX5_changesIn_66 rfl rfl (by decide) rfl ?_
          refine pv_goto (tgt := 13) C dX5_changesIn_69 (by decide) ?_
          refine pv_sub [2, 3, 4, 5, 6, 7, 0] rfl ?_
          exact ih _ _ _ _ _ _ _ _ k0_ k1_ k4_ h
        · have h := pq_it c25 h
          refine pv_sub [1, 2, 3, 4, 5, 6, 7] rfl ?_
          exact r_X5_changesIn_b53 W0 C hr hlk ih _ _ _ _ _ _ _ _ k0_ k1_ k4_ h
set_option maxHeartbeats 4000000 in
set_option maxRecDepth 100000 in
theorem r_X5_changesIn {l : Launch} {D : va_G} {y : pq_Y} {G : pq_G} (W0 : pq_WT G) {S : pq_N} {a0 : Nat} {a1 : Nat} {x2 : Int32} {x3 : Int32} (k0_ : pq_ok G 5 a0) (k1_ : pq_ok G 9 a1) {r : Int32} {S1 : pq_N} (h : F_X5_changesIn G S a0 a1 x2 x3 = some (r, S1)) (sz : Nat) : Met l yX5_changesIn wsX5_changesIn ({ frames := 4, cells := 0, slots := 0, locals := 103 } : Room) (pq_P D y G S sz [.ref a0, .ref a1, .int x2, .int x3]) (pq_Qi D y G sz r S1) 0 0 (pq_A G sz) := by
  refine pq_enter RX5 8 (by decide) rfl rfl rfl ?_
  intro p e s m below meth c C hsz hr hlk
  subst hsz
  unfold F_X5_changesIn at h
  refine pv_sub (lo1 := [(0, .ref a0), (1, .ref a1), (2, .int x2), (3, .int x3)]) [0, 1, 2, 3] rfl ?_
  refine pv_aload_n C 1 dX5_changesIn_0 rfl rfl ?_
  refine pv_iload_n C 2 dX5_changesIn_1 rfl rfl ?_
  obtain ⟨v11, S12, e13, h⟩ := pq_bs h
  have k14 := o_X9_at W0 k1_ e13
  refine pv_callrV C (ci := 9) rfl (by decide) k1_ [.int x2] (fun sz => r_X9_at W0 k1_ e13 sz) (cwV 1 C.1.2.2.2.2 gX5_changesIn_X9_at rfl rfl rfl (by decide +kernel) ⟨Nat.le_of_ble_eq_true rfl, Nat.le_of_ble_eq_true rfl⟩) rfl rfl (Nat.le_of_ble_eq_true rfl) dX5_changesIn_2 ⟨Nat.le_of_ble_eq_true rfl, Nat.le_of_ble_eq_true rfl⟩ ?_
  refine pv_astore C [(4, .ref v11), (0, .ref a0), (1, .ref a1), (2, .int x2), (3, .int x3)] dX5_changesIn_5 (by decide) rfl ?_
  refine pv_iconst (v := 0) C dX5_changesIn_7 (by decide) ?_
  refine pv_istore C [(5, .int (0 : Int32)), (4, .ref v11), (0, .ref a0), (1, .ref a1), (2, .int x2), (3, .int x3)] dX5_changesIn_8 (by decide) rfl ?_
  refine pv_iconst (v := 0) C dX5_changesIn_10 (by decide) ?_
  refine pv_istore C [(6, .int (0 : Int32)), (5, .int (0 : Int32)), (4, .ref v11), (0, .ref a0), (1, .ref a1), (2, .int x2), (3, .int x3)] dX5_changesIn_11 (by decide) rfl ?_
  refine pv_sub [3, 4, 5, 6, 2, 1, 0] rfl ?_
  exact r_X5_changesIn_b13 W0 C hr hlk pq_fuel _ _ _ _ _ _ _ _ k0_ k1_ k14 h
def F_X5_changesSuffered_b27 (G : pq_G) (c7 : pq_N → Nat → Nat → Int32 → Int32 → Int32 → Option (Int32 × pq_N)) : Nat → pq_N → Nat → Nat → Int32 → Int32 → Int32 → Nat → Int32 → Option (Int32 × pq_N)
  | 0, _, _, _, _, _, _, _, _ => none
  | n + 1, S, a0, a1, x2, x3, x4, a5, x6 => (if (S.1 a5 7) ≤ x6 then c7 S a0 a1 x2 x3 (x4 + (1 : Int32)) else (pq_bd (F_X7_number G S (pq_r G a5 1) x6) fun v18 S19 => (if v18 = x2 then (pq_bd (F_X5_find G S19 a0 a1 x4 x6) fun v22 S23 => (F_X5_changesSuffered_b27 G c7 n) S23 a0 a1 x2 (x3 + v22) x4 a5 (x6 + (1 : Int32))) else (F_X5_changesSuffered_b27 G c7 n) S19 a0 a1 x2 x3 x4 a5 (x6 + (1 : Int32)))))
def F_X5_changesSuffered_b7 (G : pq_G)  : Nat → pq_N → Nat → Nat → Int32 → Int32 → Int32 → Option (Int32 × pq_N)
  | 0, _, _, _, _, _, _ => none
  | n + 1, S, a0, a1, x2, x3, x4 => (if (S.1 a1 2) ≤ x4 then some (x3, S) else (pq_bd (F_X9_at G S a1 x4) fun v12 S13 => F_X5_changesSuffered_b27 G ((F_X5_changesSuffered_b7 G n)) pq_fuel S13 a0 a1 x2 x3 x4 v12 (0 : Int32)))
def F_X5_changesSuffered (G : pq_G) (S : pq_N) (a0 : Nat) (a1 : Nat) (x2 : Int32) : Option (Int32 × pq_N) := F_X5_changesSuffered_b7 G pq_fuel S a0 a1 x2 (0 : Int32) (x2 + (1 : Int32))
theorem inu_X5_changesSuffered_4 : ∀ w ∈ u_ws RX4 TX4 8, w ∈ wsX5_changesSuffered := pq_inu 54 rfl
theorem inu_X5_changesSuffered_9 : ∀ w ∈ u_ws RX9 TX9 4, w ∈ wsX5_changesSuffered := pq_inu 50 rfl
set_option maxHeartbeats 4000000 in
set_option maxRecDepth 100000 in
theorem r_X5_changesSuffered_b27 {p : Program} {l : Launch} {e : Env} {s : State} {m : MethodId} {av : Array Value} {below : List Frame} {meth : Method} {c : Code} {D : va_G} {y : pq_Y} {G : pq_G} {r : Int32} {S1 : pq_N} (W0 : pq_WT G) (C : pq_C p s m av c D y RX5 wsX5_changesSuffered cX5_changesSuffered 7) (hr : meth.sig.returnType = (some .int)) (hlk : meth.locks = false) {c7 : pq_N → Nat → Nat → Int32 → Int32 → Int32 → Option (Int32 × pq_N)} (hk7 : ∀ (S : pq_N) (a0 : Nat) (a1 : Nat) (x2 : Int32) (x3 : Int32) (x4 : Int32), pq_ok G 5 a0 → pq_ok G 9 a1 → c7 S a0 a1 x2 x3 x4 = some (r, S1) → pq_V p l e (headSpec wsX5_changesSuffered ({ frames := 4, cells := 0, slots := 0, locals := 103 } : Room)).room s m av below meth c 0 0 (MQ below (pq_Qi D y G s.heap.size r S1) av s 0 0 (pq_A G s.heap.size)) D y 7 (pq_A G s.heap.size) (fun _ => True) G S 7 [(0, .ref a0), (1, .ref a1), (2, .int x2), (3, .int x3), (4, .int x4)] []) (n : Nat) : ∀ (S : pq_N) (a0 : Nat) (a1 : Nat) (x2 : Int32) (x3 : Int32) (x4 : Int32) (a5 : Nat) (x6 : Int32), pq_ok G 5 a0 → pq_ok G 9 a1 → pq_ok G 4 a5 → F_X5_changesSuffered_b27 G c7 n S a0 a1 x2 x3 x4 a5 x6 = some (r, S1) → pq_V p l e (headSpec wsX5_changesSuffered ({ frames := 4, cells := 0, slots := 0, locals := 103 } : Room)).room s m av below meth c 0 0 (MQ below (pq_Qi D y G s.heap.size r S1) av s 0 0 (pq_A G s.heap.size)) D y 7 (pq_A G s.heap.size) (fun _ => True) G S 27 [(0, .ref a0), (1, .ref a1), (2, .int x2), (3, .int x3), (4, .int x4), (5, .ref a5), (6, .int x6)] [] := by
  induction n with
  | zero =>
    intro S a0 a1 x2 x3 x4 a5 x6 k0_ k1_ k5_ h
    rw [F_X5_changesSuffered_b27.eq_1] at h; cases h
  | succ n ih =>
    intro S a0 a1 x2 x3 x4 a5 x6 k0_ k1_ k5_ h
    rw [F_X5_changesSuffered_b27.eq_2] at h
    refine pv_iload C 6 dX5_changesSuffered_27 rfl ?_
    refine pv_aload C 5 dX5_changesSuffered_29 rfl ?_
    refine pv_getiN (T := TX4) (N := 8) C 7 inu_X5_changesSuffered_4 rfl (by decide) (by decide) (List.mem_of_getElem? (i := 25) rfl) rfl k5_ dX5_changesSuffered_31 ?_
    refine pv_icmp_ge (tgt := 69) C dX5_changesSuffered_34 (by decide) (fun c16 => ?_) (fun c16 => ?_)
    · have h := pq_it c16 h
      refine pv_iinc (v := (x4 + (1 : Int32))) C 4 [(4, .int (x4 + (1 : Int32))), (0, .ref a0), (1, .ref a1), (2, .int x2), (3, .int x3), (5, .ref a5), (6, .int x6)] dX5_changesSuffered_69 rfl rfl (by decide) rfl ?_
      refine pv_goto (tgt := 7) C dX5_changesSuffered_72 (by decide) ?_
      refine pv_sub [1, 2, 3, 4, 0] rfl ?_
      exact hk7 _ _ _ _ _ _ k0_ k1_ h
    · have h := pq_if c16 h
      refine pv_aload C 5 dX5_changesSuffered_37 rfl ?_
      have k17 := pq_wt (k := 1) W0 k5_ rfl
      refine pv_getrN (T := TX4) (N := 8) C 1 inu_X5_changesSuffered_4 rfl (by decide) (by decide) (List.mem_of_getElem? (i := 4) rfl) rfl k5_ k17.1 dX5_changesSuffered_39 ?_
      refine pv_iload C 6 dX5_changesSuffered_42 rfl ?_
      obtain ⟨v18, S19, e20, h⟩ := pq_bs h
      refine pv_calliV C (ci := 7) rfl (by decide) k17.2 [.int x6] (fun sz => r_X7_number W0 k17.2 e20 sz) (cwV 1 C.1.2.2.2.2 gX5_changesSuffered_X7_number rfl rfl rfl (by decide +kernel) ⟨Nat.le_of_ble_eq_true rfl, Nat.le_of_ble_eq_true rfl⟩) rfl rfl (Nat.le_of_ble_eq_true rfl) dX5_changesSuffered_44 ⟨Nat.le_of_ble_eq_true rfl, Nat.le_of_ble_eq_true rfl⟩ ?_
      refine pv_iload_n C 2 dX5_changesSuffered_47 rfl rfl ?_
      refine pv_icmp_ne (tgt := 63) C dX5_changesSuffered_48 (by decide) (fun c21 => ?_) (fun c21 => ?_)
      · have h := pq_if c21 h
        refine pv_iinc (v := (x6 + (1 : Int32))) C 6 [(6, .int (x6 + (1 : Int32))), (0, .ref a0), (1, .ref a1), (2, .int x2), (3, .int x3), (4, .int x4), (5, .ref a5)] dX5_changesSuffered_63 rfl rfl (by decide) rfl ?_
        refine pv_goto (tgt := 27) C dX5_changesSuffered_66 (by decide) ?_
        refine pv_sub [1, 2, 3, 4, 5, 6, 0] rfl ?_
        exact ih _ _ _ _ _ _ _ _ k0_ k1_ k5_ h
      · have h := pq_it c21 h
        refine pv_iload_n C 3 dX5_changesSuffered_51 rfl rfl ?_
        refine pv_aload_n C 0 dX5_changesSuffered_52 rfl rfl ?_
        refine pv_aload_n C 1 dX5_changesSuffered_53 rfl rfl ?_
        refine pv_iload C 4 dX5_changesSuffered_54 rfl ?_
        refine pv_iload C 6 dX5_changesSuffered_56 rfl ?_
        obtain ⟨v22, S23, e24, h⟩ := pq_bs h
        refine pv_calliV C (ci := 5) rfl (by decide) k0_ [.ref a1, .int x4, .int x6] (fun sz => r_X5_find W0 k0_ k1_ e24 sz) (cwV 3 C.1.2.2.2.2 gX5_changesSuffered_X5_find rfl rfl rfl (by decide +kernel) ⟨Nat.le_of_ble_eq_true rfl, Nat.le_of_ble_eq_true rfl⟩) rfl rfl (Nat.le_of_ble_eq_true rfl) dX5_changesSuffered_58 ⟨Nat.le_of_ble_eq_true rfl, Nat.le_of_ble_eq_true rfl⟩ ?_
        refine pv_iadd C dX5_changesSuffered_61 ?_
        refine pv_istore_n C [(3, .int (x3 + v22)), (0, .ref a0), (1, .ref a1), (2, .int x2), (4, .int x4), (5, .ref a5), (6, .int x6)] dX5_changesSuffered_62 rfl (by decide) rfl ?_
        refine pv_iinc (v := (x6 + (1 : Int32))) C 6 [(6, .int (x6 + (1 : Int32))), (3, .int (x3 + v22)), (0, .ref a0), (1, .ref a1), (2, .int x2), (4, .int x4), (5, .ref a5)] dX5_changesSuffered_63 rfl rfl (by decide) rfl ?_
        refine pv_goto (tgt := 27) C dX5_changesSuffered_66 (by decide) ?_
        refine pv_sub [2, 3, 4, 1, 5, 6, 0] rfl ?_
        exact ih _ _ _ _ _ _ _ _ k0_ k1_ k5_ h
set_option maxHeartbeats 4000000 in
set_option maxRecDepth 100000 in
theorem r_X5_changesSuffered_b7 {p : Program} {l : Launch} {e : Env} {s : State} {m : MethodId} {av : Array Value} {below : List Frame} {meth : Method} {c : Code} {D : va_G} {y : pq_Y} {G : pq_G} {r : Int32} {S1 : pq_N} (W0 : pq_WT G) (C : pq_C p s m av c D y RX5 wsX5_changesSuffered cX5_changesSuffered 7) (hr : meth.sig.returnType = (some .int)) (hlk : meth.locks = false) (n : Nat) : ∀ (S : pq_N) (a0 : Nat) (a1 : Nat) (x2 : Int32) (x3 : Int32) (x4 : Int32), pq_ok G 5 a0 → pq_ok G 9 a1 → F_X5_changesSuffered_b7 G n S a0 a1 x2 x3 x4 = some (r, S1) → pq_V p l e (headSpec wsX5_changesSuffered ({ frames := 4, cells := 0, slots := 0, locals := 103 } : Room)).room s m av below meth c 0 0 (MQ below (pq_Qi D y G s.heap.size r S1) av s 0 0 (pq_A G s.heap.size)) D y 7 (pq_A G s.heap.size) (fun _ => True) G S 7 [(0, .ref a0), (1, .ref a1), (2, .int x2), (3, .int x3), (4, .int x4)] [] := by
  induction n with
  | zero =>
    intro S a0 a1 x2 x3 x4 k0_ k1_ h
    rw [F_X5_changesSuffered_b7.eq_1] at h; cases h
  | succ n ih =>
    intro S a0 a1 x2 x3 x4 k0_ k1_ h
    rw [F_X5_changesSuffered_b7.eq_2] at h
    refine pv_iload C 4 dX5_changesSuffered_7 rfl ?_
    refine pv_aload_n C 1 dX5_changesSuffered_9 rfl rfl ?_
    refine pv_getiN (T := TX9) (N := 4) C 2 inu_X5_changesSuffered_9 rfl (by decide) (by decide) (List.mem_of_getElem? (i := 30) rfl) rfl k1_ dX5_changesSuffered_10 ?_
    refine pv_icmp_ge (tgt := 75) C dX5_changesSuffered_13 (by decide) (fun c11 => ?_) (fun c11 => ?_)
    · have h := pq_it c11 h
      refine pv_iload_n C 3 dX5_changesSuffered_75 rfl rfl ?_
      exact pv_iret C hr hlk h dX5_changesSuffered_76
    · have h := pq_if c11 h
      refine pv_aload_n C 1 dX5_changesSuffered_16 rfl rfl ?_
      refine pv_iload C 4 dX5_changesSuffered_17 rfl ?_
      obtain ⟨v12, S13, e14, h⟩ := pq_bs h
      have k15 := o_X9_at W0 k1_ e14
      refine pv_callrV C (ci := 9) rfl (by decide) k1_ [.int x4] (fun sz => r_X9_at W0 k1_ e14 sz) (cwV 1 C.1.2.2.2.2 gX5_changesSuffered_X9_at rfl rfl rfl (by decide +kernel) ⟨Nat.le_of_ble_eq_true rfl, Nat.le_of_ble_eq_true rfl⟩) rfl rfl (Nat.le_of_ble_eq_true rfl) dX5_changesSuffered_19 ⟨Nat.le_of_ble_eq_true rfl, Nat.le_of_ble_eq_true rfl⟩ ?_
      refine pv_astore C [(5, .ref v12), (0, .ref a0), (1, .ref a1), (2, .int x2), (3, .int x3), (4, .int x4)] dX5_changesSuffered_22 (by decide) rfl ?_
      refine pv_iconst (v := 0) C dX5_changesSuffered_24 (by decide) ?_
      refine pv_istore C [(6, .int (0 : Int32)), (5, .ref v12), (0, .ref a0), (1, .ref a1), (2, .int x2), (3, .int x3), (4, .int x4)] dX5_changesSuffered_25 (by decide) rfl ?_
      refine pv_sub [2, 3, 4, 5, 6, 1, 0] rfl ?_
      exact r_X5_changesSuffered_b27 W0 C hr hlk ih pq_fuel _ _ _ _ _ _ _ _ k0_ k1_ k15 h
set_option maxHeartbeats 4000000 in
set_option maxRecDepth 100000 in
theorem r_X5_changesSuffered {l : Launch} {D : va_G} {y : pq_Y} {G : pq_G} (W0 : pq_WT G) {S : pq_N} {a0 : Nat} {a1 : Nat} {x2 : Int32} (k0_ : pq_ok G 5 a0) (k1_ : pq_ok G 9 a1) {r : Int32} {S1 : pq_N} (h : F_X5_changesSuffered G S a0 a1 x2 = some (r, S1)) (sz : Nat) : Met l yX5_changesSuffered wsX5_changesSuffered ({ frames := 4, cells := 0, slots := 0, locals := 103 } : Room) (pq_P D y G S sz [.ref a0, .ref a1, .int x2]) (pq_Qi D y G sz r S1) 0 0 (pq_A G sz) := by
  refine pq_enter RX5 7 (by decide) rfl rfl rfl ?_
  intro p e s m below meth c C hsz hr hlk
  subst hsz
  unfold F_X5_changesSuffered at h
  refine pv_sub (lo1 := [(0, .ref a0), (1, .ref a1), (2, .int x2)]) [0, 1, 2] rfl ?_
  refine pv_iconst (v := 0) C dX5_changesSuffered_0 (by decide) ?_
  refine pv_istore_n C [(3, .int (0 : Int32)), (0, .ref a0), (1, .ref a1), (2, .int x2)] dX5_changesSuffered_1 rfl (by decide) rfl ?_
  refine pv_iload_n C 3 dX5_changesSuffered_2 rfl rfl ?_
  refine pv_iconst (v := 1) C dX5_changesSuffered_3 (by decide) ?_
  refine pv_iadd C dX5_changesSuffered_4 ?_
  refine pv_istore C [(4, .int (x2 + (1 : Int32))), (3, .int (0 : Int32)), (0, .ref a0), (1, .ref a1), (2, .int x2)] dX5_changesSuffered_5 (by decide) rfl ?_
  refine pv_sub [2, 3, 4, 1, 0] rfl ?_
  exact r_X5_changesSuffered_b7 W0 C hr hlk pq_fuel _ _ _ _ _ _ k0_ k1_ h
def F_X5_changesWritten_b6 (G : pq_G)  : Nat → pq_N → Nat → Nat → Int32 → Int32 → Int32 → Int32 → Option (Int32 × pq_N)
  | 0, _, _, _, _, _, _, _ => none
  | n + 1, S, a0, a1, x2, x3, x4, x5 => (if (S.1 a1 2) ≤ x5 then some (x4, S) else (pq_bd (F_X9_at G S a1 x5) fun v12 S13 => (if (S13.1 v12 4) = x2 then (pq_bd (F_X5_changesIn G S13 a0 a1 x5 x3) fun v17 S18 => (F_X5_changesWritten_b6 G n) S18 a0 a1 x2 x3 (x4 + v17) (x5 + (1 : Int32))) else (F_X5_changesWritten_b6 G n) S13 a0 a1 x2 x3 x4 (x5 + (1 : Int32)))))
def F_X5_changesWritten (G : pq_G) (S : pq_N) (a0 : Nat) (a1 : Nat) (x2 : Int32) (x3 : Int32) : Option (Int32 × pq_N) := F_X5_changesWritten_b6 G pq_fuel S a0 a1 x2 x3 (0 : Int32) (0 : Int32)
theorem inu_X5_changesWritten_4 : ∀ w ∈ u_ws RX4 TX4 8, w ∈ wsX5_changesWritten := pq_inu 58 rfl
theorem inu_X5_changesWritten_9 : ∀ w ∈ u_ws RX9 TX9 4, w ∈ wsX5_changesWritten := pq_inu 54 rfl
set_option maxHeartbeats 4000000 in
set_option maxRecDepth 100000 in
theorem r_X5_changesWritten_b6 {p : Program} {l : Launch} {e : Env} {s : State} {m : MethodId} {av : Array Value} {below : List Frame} {meth : Method} {c : Code} {D : va_G} {y : pq_Y} {G : pq_G} {r : Int32} {S1 : pq_N} (W0 : pq_WT G) (C : pq_C p s m av c D y RX5 wsX5_changesWritten cX5_changesWritten 6) (hr : meth.sig.returnType = (some .int)) (hlk : meth.locks = false) (n : Nat) : ∀ (S : pq_N) (a0 : Nat) (a1 : Nat) (x2 : Int32) (x3 : Int32) (x4 : Int32) (x5 : Int32), pq_ok G 5 a0 → pq_ok G 9 a1 → F_X5_changesWritten_b6 G n S a0 a1 x2 x3 x4 x5 = some (r, S1) → pq_V p l e (headSpec wsX5_changesWritten ({ frames := 5, cells := 0, slots := 0, locals := 130 } : Room)).room s m av below meth c 0 0 (MQ below (pq_Qi D y G s.heap.size r S1) av s 0 0 (pq_A G s.heap.size)) D y 6 (pq_A G s.heap.size) (fun _ => True) G S 6 [(0, .ref a0), (1, .ref a1), (2, .int x2), (3, .int x3), (4, .int x4), (5, .int x5)] [] := by
  induction n with
  | zero =>
    intro S a0 a1 x2 x3 x4 x5 k0_ k1_ h
    rw [F_X5_changesWritten_b6.eq_1] at h; cases h
  | succ n ih =>
    intro S a0 a1 x2 x3 x4 x5 k0_ k1_ h
    rw [F_X5_changesWritten_b6.eq_2] at h
    refine pv_iload C 5 dX5_changesWritten_6 rfl ?_
    refine pv_aload_n C 1 dX5_changesWritten_8 rfl rfl ?_
    refine pv_getiN (T := TX9) (N := 4) C 2 inu_X5_changesWritten_9 rfl (by decide) (by decide) (List.mem_of_getElem? (i := 30) rfl) rfl k1_ dX5_changesWritten_9 ?_
    refine pv_icmp_ge (tgt := 47) C dX5_changesWritten_12 (by decide) (fun c11 => ?_) (fun c11 => ?_)
    · have h := pq_it c11 h
      refine pv_iload C 4 dX5_changesWritten_47 rfl ?_
      exact pv_iret C hr hlk h dX5_changesWritten_49
    · have h := pq_if c11 h
      refine pv_aload_n C 1 dX5_changesWritten_15 rfl rfl ?_
      refine pv_iload C 5 dX5_changesWritten_16 rfl ?_
      obtain ⟨v12, S13, e14, h⟩ := pq_bs h
      have k15 := o_X9_at W0 k1_ e14
      refine pv_callrV C (ci := 9) rfl (by decide) k1_ [.int x5] (fun sz => r_X9_at W0 k1_ e14 sz) (cwV 1 C.1.2.2.2.2 gX5_changesWritten_X9_at rfl rfl rfl (by decide +kernel) ⟨Nat.le_of_ble_eq_true rfl, Nat.le_of_ble_eq_true rfl⟩) rfl rfl (Nat.le_of_ble_eq_true rfl) dX5_changesWritten_18 ⟨Nat.le_of_ble_eq_true rfl, Nat.le_of_ble_eq_true rfl⟩ ?_
      refine pv_getiN (T := TX4) (N := 8) C 4 inu_X5_changesWritten_4 rfl (by decide) (by decide) (List.mem_of_getElem? (i := 15) rfl) rfl k15 dX5_changesWritten_21 ?_
      refine pv_iload_n C 2 dX5_changesWritten_24 rfl rfl ?_
      refine pv_icmp_ne (tgt := 41) C dX5_changesWritten_25 (by decide) (fun c16 => ?_) (fun c16 => ?_)
      · have h := pq_if c16 h
        refine pv_iinc (v := (x5 + (1 : Int32))) C 5 [(5, .int (x5 + (1 : Int32))), (0, .ref a0), (1, .ref a1), (2, .int x2), (3, .int x3), (4, .int x4)] dX5_changesWritten_41 rfl rfl (by decide) rfl ?_
        refine pv_goto (tgt := 6) C dX5_changesWritten_44 (by decide) ?_
        refine pv_sub [1, 2, 3, 4, 5, 0] rfl ?_
        exact ih _ _ _ _ _ _ _ k0_ k1_ h
      · have h := pq_it c16 h
        refine pv_iload C 4 dX5_changesWritten_28 rfl ?_
        refine pv_aload_n C 0 dX5_changesWritten_30 rfl rfl ?_
        refine pv_aload_n C 1 dX5_changesWritten_31 rfl rfl ?_
        refine pv_iload C 5 dX5_changesWritten_32 rfl ?_
        refine pv_iload_n C 3 dX5_changesWritten_34 rfl rfl ?_
        obtain ⟨v17, S18, e19, h⟩ := pq_bs h
        refine pv_calliV C (ci := 5) rfl (by decide) k0_ [.ref a1, .int x5, .int x3] (fun sz => r_X5_changesIn W0 k0_ k1_ e19 sz) (cwV 3 C.1.2.2.2.2 gX5_changesWritten_X5_changesIn rfl rfl rfl (by decide +kernel) ⟨Nat.le_of_ble_eq_true rfl, Nat.le_of_ble_eq_true rfl⟩) rfl rfl (Nat.le_of_ble_eq_true rfl) dX5_changesWritten_35 ⟨Nat.le_of_ble_eq_true rfl, Nat.le_of_ble_eq_true rfl⟩ ?_
        refine pv_iadd C dX5_changesWritten_38 ?_
        refine pv_istore C [(4, .int (x4 + v17)), (0, .ref a0), (1, .ref a1), (2, .int x2), (3, .int x3), (5, .int x5)] dX5_changesWritten_39 (by decide) rfl ?_
        refine pv_iinc (v := (x5 + (1 : Int32))) C 5 [(5, .int (x5 + (1 : Int32))), (4, .int (x4 + v17)), (0, .ref a0), (1, .ref a1), (2, .int x2), (3, .int x3)] dX5_changesWritten_41 rfl rfl (by decide) rfl ?_
        refine pv_goto (tgt := 6) C dX5_changesWritten_44 (by decide) ?_
        refine pv_sub [2, 3, 4, 5, 1, 0] rfl ?_
        exact ih _ _ _ _ _ _ _ k0_ k1_ h
set_option maxHeartbeats 4000000 in
set_option maxRecDepth 100000 in
theorem r_X5_changesWritten {l : Launch} {D : va_G} {y : pq_Y} {G : pq_G} (W0 : pq_WT G) {S : pq_N} {a0 : Nat} {a1 : Nat} {x2 : Int32} {x3 : Int32} (k0_ : pq_ok G 5 a0) (k1_ : pq_ok G 9 a1) {r : Int32} {S1 : pq_N} (h : F_X5_changesWritten G S a0 a1 x2 x3 = some (r, S1)) (sz : Nat) : Met l yX5_changesWritten wsX5_changesWritten ({ frames := 5, cells := 0, slots := 0, locals := 130 } : Room) (pq_P D y G S sz [.ref a0, .ref a1, .int x2, .int x3]) (pq_Qi D y G sz r S1) 0 0 (pq_A G sz) := by
  refine pq_enter RX5 6 (by decide) rfl rfl rfl ?_
  intro p e s m below meth c C hsz hr hlk
  subst hsz
  unfold F_X5_changesWritten at h
  refine pv_sub (lo1 := [(0, .ref a0), (1, .ref a1), (2, .int x2), (3, .int x3)]) [0, 1, 2, 3] rfl ?_
  refine pv_iconst (v := 0) C dX5_changesWritten_0 (by decide) ?_
  refine pv_istore C [(4, .int (0 : Int32)), (0, .ref a0), (1, .ref a1), (2, .int x2), (3, .int x3)] dX5_changesWritten_1 (by decide) rfl ?_
  refine pv_iconst (v := 0) C dX5_changesWritten_3 (by decide) ?_
  refine pv_istore C [(5, .int (0 : Int32)), (4, .int (0 : Int32)), (0, .ref a0), (1, .ref a1), (2, .int x2), (3, .int x3)] dX5_changesWritten_4 (by decide) rfl ?_
  refine pv_sub [2, 3, 4, 5, 1, 0] rfl ?_
  exact r_X5_changesWritten_b6 W0 C hr hlk pq_fuel _ _ _ _ _ _ _ k0_ k1_ h
def F_X5_children_b35 (G : pq_G) (c15 : pq_N → Nat → Nat → Int32 → Int32 → Nat → Int32 → Int32 → Option (Int32 × pq_N)) : Nat → pq_N → Nat → Nat → Int32 → Int32 → Nat → Int32 → Int32 → Nat → Int32 → Option (Int32 × pq_N)
  | 0, _, _, _, _, _, _, _, _, _, _ => none
  | n + 1, S, a0, a1, x2, x3, a4, x5, x6, a7, x8 => (if (S.1 a7 7) ≤ x8 then c15 S a0 a1 x2 x3 a4 x5 (x6 + (1 : Int32)) else (pq_bd (F_X7_number G S (pq_r G a7 1) x8) fun v22 S23 => (if v22 = x2 then (pq_bd (F_X5_find G S23 a0 a1 x6 x8) fun v26 S27 => (pq_bd (F_X4_isWithin G S27 a4 x3 (S27.1 (pq_r G a0 0) 2) (S27.1 (pq_r G a0 0) 3)) fun v31 S32 => (if v31 = (0 : Int32) then (F_X5_children_b35 G c15 n) S32 a0 a1 x2 x3 a4 (x5 + (0 : Int32)) x6 a7 (x8 + (1 : Int32)) else (F_X5_children_b35 G c15 n) S32 a0 a1 x2 x3 a4 (x5 + (1 : Int32)) x6 a7 (x8 + (1 : Int32))))) else (F_X5_children_b35 G c15 n) S23 a0 a1 x2 x3 a4 x5 x6 a7 (x8 + (1 : Int32)))))
def F_X5_children_b15 (G : pq_G)  : Nat → pq_N → Nat → Nat → Int32 → Int32 → Nat → Int32 → Int32 → Option (Int32 × pq_N)
  | 0, _, _, _, _, _, _, _, _ => none
  | n + 1, S, a0, a1, x2, x3, a4, x5, x6 => (if (S.1 a1 2) ≤ x6 then some (x5, S) else (pq_bd (F_X9_at G S a1 x6) fun v16 S17 => F_X5_children_b35 G ((F_X5_children_b15 G n)) pq_fuel S17 a0 a1 x2 x3 a4 x5 x6 v16 (0 : Int32)))
def F_X5_children (G : pq_G) (S : pq_N) (a0 : Nat) (a1 : Nat) (x2 : Int32) (x3 : Int32) : Option (Int32 × pq_N) := (pq_bd (F_X9_at G S a1 x2) fun v11 S12 => F_X5_children_b15 G pq_fuel S12 a0 a1 x2 x3 v11 (0 : Int32) (x2 + (1 : Int32)))
theorem inu_X5_children_4 : ∀ w ∈ u_ws RX4 TX4 8, w ∈ wsX5_children := pq_inu 62 rfl
theorem inu_X5_children_5 : ∀ w ∈ u_ws RX5 TX5 3, w ∈ wsX5_children := pq_inu 70 rfl
theorem inu_X5_children_8 : ∀ w ∈ u_ws RX8 TX8 4, w ∈ wsX5_children := pq_inu 73 rfl
theorem inu_X5_children_9 : ∀ w ∈ u_ws RX9 TX9 4, w ∈ wsX5_children := pq_inu 58 rfl
set_option maxHeartbeats 4000000 in
set_option maxRecDepth 100000 in
theorem r_X5_children_b35 {p : Program} {l : Launch} {e : Env} {s : State} {m : MethodId} {av : Array Value} {below : List Frame} {meth : Method} {c : Code} {D : va_G} {y : pq_Y} {G : pq_G} {r : Int32} {S1 : pq_N} (W0 : pq_WT G) (C : pq_C p s m av c D y RX5 wsX5_children cX5_children 9) (hr : meth.sig.returnType = (some .int)) (hlk : meth.locks = false) {c15 : pq_N → Nat → Nat → Int32 → Int32 → Nat → Int32 → Int32 → Option (Int32 × pq_N)} (hk15 : ∀ (S : pq_N) (a0 : Nat) (a1 : Nat) (x2 : Int32) (x3 : Int32) (a4 : Nat) (x5 : Int32) (x6 : Int32), pq_ok G 5 a0 → pq_ok G 9 a1 → pq_ok G 4 a4 → c15 S a0 a1 x2 x3 a4 x5 x6 = some (r, S1) → pq_V p l e (headSpec wsX5_children ({ frames := 4, cells := 0, slots := 0, locals := 103 } : Room)).room s m av below meth c 0 0 (MQ below (pq_Qi D y G s.heap.size r S1) av s 0 0 (pq_A G s.heap.size)) D y 9 (pq_A G s.heap.size) (fun _ => True) G S 15 [(0, .ref a0), (1, .ref a1), (2, .int x2), (3, .int x3), (4, .ref a4), (5, .int x5), (6, .int x6)] []) (n : Nat) : ∀ (S : pq_N) (a0 : Nat) (a1 : Nat) (x2 : Int32) (x3 : Int32) (a4 : Nat) (x5 : Int32) (x6 : Int32) (a7 : Nat) (x8 : Int32), pq_ok G 5 a0 → pq_ok G 9 a1 → pq_ok G 4 a4 → pq_ok G 4 a7 → F_X5_children_b35 G c15 n S a0 a1 x2 x3 a4 x5 x6 a7 x8 = some (r, S1) → pq_V p l e (headSpec wsX5_children ({ frames := 4, cells := 0, slots := 0, locals := 103 } : Room)).room s m av below meth c 0 0 (MQ below (pq_Qi D y G s.heap.size r S1) av s 0 0 (pq_A G s.heap.size)) D y 9 (pq_A G s.heap.size) (fun _ => True) G S 35 [(0, .ref a0), (1, .ref a1), (2, .int x2), (3, .int x3), (4, .ref a4), (5, .int x5), (6, .int x6), (7, .ref a7), (8, .int x8)] [] := by
  induction n with
  | zero =>
    intro S a0 a1 x2 x3 a4 x5 x6 a7 x8 k0_ k1_ k4_ k7_ h
    rw [F_X5_children_b35.eq_1] at h; cases h
  | succ n ih =>
    intro S a0 a1 x2 x3 a4 x5 x6 a7 x8 k0_ k1_ k4_ k7_ h
    rw [F_X5_children_b35.eq_2] at h
    refine pv_iload C 8 dX5_children_35 rfl ?_
    refine pv_aload C 7 dX5_children_37 rfl ?_
    refine pv_getiN (T := TX4) (N := 8) C 7 inu_X5_children_4 rfl (by decide) (by decide) (List.mem_of_getElem? (i := 25) rfl) rfl k7_ dX5_children_39 ?_
    refine pv_icmp_ge (tgt := 108) C dX5_children_42 (by decide) (fun c20 => ?_) (fun c20 => ?_)
    · have h := pq_it c20 h
      refine pv_iinc (v := (x6 + (1 : Int32))) C 6 [(6, .int (x6 + (1 : Int32))), (0, .ref a0), (1, .ref a1), (2, .int x2), (3, .int x3), (4, .ref a4), (5, .int x5), (7, .ref a7), (8, .int x8)] dX5_children_108 rfl rfl (by decide) rfl ?_
      refine pv_goto (tgt := 15) C dX5_children_111 (by decide) ?_
      refine pv_sub [1, 2, 3, 4, 5, 6, 0] rfl ?_
      exact hk15 _ _ _ _ _ _ _ _ k0_ k1_ k4_ h
    · have h := pq_if c20 h
      refine pv_aload C 7 dX5_children_45 rfl ?_
      have k21 := pq_wt (k := 1) W0 k7_ rfl
      refine pv_getrN (T := TX4) (N := 8) C 1 inu_X5_children_4 rfl (by decide) (by decide) (List.mem_of_getElem? (i := 4) rfl) rfl k7_ k21.1 dX5_children_47 ?_
      refine pv_iload C 8 dX5_children_50 rfl ?_
      obtain ⟨v22, S23, e24, h⟩ := pq_bs h
      refine pv_calliV C (ci := 7) rfl (by decide) k21.2 [.int x8] (fun sz => r_X7_number W0 k21.2 e24 sz) (cwV 1 C.1.2.2.2.2 gX5_children_X7_number rfl rfl rfl (by decide +kernel) ⟨Nat.le_of_ble_eq_true rfl, Nat.le_of_ble_eq_true rfl⟩) rfl rfl (Nat.le_of_ble_eq_true rfl) dX5_children_52 ⟨Nat.le_of_ble_eq_true rfl, Nat.le_of_ble_eq_true rfl⟩ ?_
      refine pv_iload_n C 2 dX5_children_55 rfl rfl ?_
      refine pv_icmp_ne (tgt := 102) C dX5_children_56 (by decide) (fun c25 => ?_) (fun c25 => ?_)
      · have h := pq_if c25 h
        refine pv_iinc (v := (x8 + (1 : Int32))) C 8 [(8, .int (x8 + (1 : Int32))), (0, .ref a0), (1, .ref a1), (2, .int x2), (3, .int x3), (4, .ref a4), (5, .int x5), (6, .int x6), (7, .ref a7)] dX5_children_102 rfl rfl (by decide) rfl ?_
        refine pv_goto (tgt := 35) C dX5_children_105 (by decide) ?_
        refine pv_sub [1, 2, 3, 4, 5, 6, 7, 8, 0] rfl ?_
        exact ih _ _ _ _ _ _ _ _ _ _ k0_ k1_ k4_ k7_ h
      · have h := pq_it c25 h
        refine pv_aload_n C 0 dX5_children_59 rfl rfl ?_
        refine pv_aload_n C 1 dX5_children_60 rfl rfl ?_
        refine pv_iload C 6 dX5_children_61 rfl ?_
        refine pv_iload C 8 dX5_children_63 rfl ?_
        obtain ⟨v26, S27, e28, h⟩ := pq_bs h
        refine pv_calliV C (ci := 5) rfl (by decide) k0_ [.ref a1, .int x6, .int x8] (fun sz => r_X5_find W0 k0_ k1_ e28 sz) (cwV 3 C.1.2.2.2.2 gX5_children_X5_find rfl rfl rfl (by decide +kernel) ⟨Nat.le_of_ble_eq_true rfl, Nat.le_of_ble_eq_true rfl⟩) rfl rfl (Nat.le_of_ble_eq_true rfl) dX5_children_65 ⟨Nat.le_of_ble_eq_true rfl, Nat.le_of_ble_eq_true rfl⟩ ?_
        refine pv_pop C dX5_children_68 rfl ?_
        refine pv_iload C 5 dX5_children_69 rfl ?_
        refine pv_aload C 4 dX5_children_71 rfl ?_
        refine pv_iload_n C 3 dX5_children_73 rfl rfl ?_
        refine pv_aload_n C 0 dX5_children_74 rfl rfl ?_
        have k29 := pq_wt (k := 0) W0 k0_ rfl
        refine pv_getr (T := TX5) (N := 3) C 0 inu_X5_children_5 rfl (by decide) (by decide) (List.mem_of_getElem? (i := 1) rfl) rfl k0_ k29.1 dX5_children_75 ?_
        refine pv_getiN (T := TX8) (N := 4) C 2 inu_X5_children_8 rfl (by decide) (by decide) (List.mem_of_getElem? (i := 41) rfl) rfl k29.2 dX5_children_78 ?_
        refine pv_aload_n C 0 dX5_children_81 rfl rfl ?_
        have k30 := pq_wt (k := 0) W0 k0_ rfl
        refine pv_getr (T := TX5) (N := 3) C 0 inu_X5_children_5 rfl (by decide) (by decide) (List.mem_of_getElem? (i := 1) rfl) rfl k0_ k30.1 dX5_children_82 ?_
        refine pv_getiN (T := TX8) (N := 4) C 3 inu_X5_children_8 rfl (by decide) (by decide) (List.mem_of_getElem? (i := 43) rfl) rfl k30.2 dX5_children_85 ?_
        obtain ⟨v31, S32, e33, h⟩ := pq_bs h
        refine pv_calliV C (ci := 4) rfl (by decide) k4_ [.int x3, .int (S27.1 (pq_r G a0 0) 2), .int (S27.1 (pq_r G a0 0) 3)] (fun sz => r_X4_isWithin W0 k4_ e33 sz) (cwV 3 C.1.2.2.2.2 gX5_children_X4_isWithin rfl rfl rfl (by decide +kernel) ⟨Nat.le_of_ble_eq_true rfl, Nat.le_of_ble_eq_true rfl⟩) rfl rfl (Nat.le_of_ble_eq_true rfl) dX5_children_88 ⟨Nat.le_of_ble_eq_true rfl, Nat.le_of_ble_eq_true rfl⟩ ?_
        refine pv_if_eq (tgt := 98) C dX5_children_91 (by decide) (fun c34 => ?_) (fun c34 => ?_)
        · have h := pq_it c34 h
          refine pv_iconst (v := 0) C dX5_children_98 (by decide) ?_
          refine pv_iadd C dX5_children_99 ?_
          refine pv_istore C [(5, .int (x5 + (0 : Int32))), (0, .ref a0), (1, .ref a1), (2, .int x2), (3, .int x3), (4, .ref a4), (6, .int x6), (7, .ref a7), (8, .int x8)] dX5_children_100 (by decide) rfl ?_
          refine pv_iinc (v := (x8 + (1 : Int32))) C 8 [(8, .int (x8 + (1 : Int32))), (5, .int (x5 + (0 : Int32))), (0, .ref a0), (1, .ref a1), (2, .int x2), (3, .int x3), (4, .ref a4), (6, .int x6), (7, .ref a7)] dX5_children_102 rfl rfl (by decide) rfl ?_
          refine pv_goto (tgt := 35) C dX5_children_105 (by decide) ?_
          refine pv_sub [2, 3, 4, 5, 6, 1, 7, 8, 0] rfl ?_
          exact ih _ _ _ _ _ _ _ _ _ _ k0_ k1_ k4_ k7_ h
        · have h := pq_if c34 h
          refine pv_iconst (v := 1) C dX5_children_94 (by decide) ?_
          refine pv_goto (tgt := 99) C dX5_children_95 (by decide) ?_
          refine pv_iadd C dX5_children_99 ?_
          refine pv_istore C [(5, .int (x5 + (1 : Int32))), (0, .ref a0), (1, .ref a1), (2, .int x2), (3, .int x3), (4, .ref a4), (6, .int x6), (7, .ref a7), (8, .int x8)] dX5_children_100 (by decide) rfl ?_
          refine pv_iinc (v := (x8 + (1 : Int32))) C 8 [(8, .int (x8 + (1 : Int32))), (5, .int (x5 + (1 : Int32))), (0, .ref a0), (1, .ref a1), (2, .int x2), (3, .int x3), (4, .ref a4), (6, .int x6), (7, .ref a7)] dX5_children_102 rfl rfl (by decide) rfl ?_
          refine pv_goto (tgt := 35) C dX5_children_105 (by decide) ?_
          refine pv_sub [2, 3, 4, 5, 6, 1, 7, 8, 0] rfl ?_
          exact ih _ _ _ _ _ _ _ _ _ _ k0_ k1_ k4_ k7_ h
set_option maxHeartbeats 4000000 in
set_option maxRecDepth 100000 in
theorem r_X5_children_b15 {p : Program} {l : Launch} {e : Env} {s : State} {m : MethodId} {av : Array Value} {below : List Frame} {meth : Method} {c : Code} {D : va_G} {y : pq_Y} {G : pq_G} {r : Int32} {S1 : pq_N} (W0 : pq_WT G) (C : pq_C p s m av c D y RX5 wsX5_children cX5_children 9) (hr : meth.sig.returnType = (some .int)) (hlk : meth.locks = false) (n : Nat) : ∀ (S : pq_N) (a0 : Nat) (a1 : Nat) (x2 : Int32) (x3 : Int32) (a4 : Nat) (x5 : Int32) (x6 : Int32), pq_ok G 5 a0 → pq_ok G 9 a1 → pq_ok G 4 a4 → F_X5_children_b15 G n S a0 a1 x2 x3 a4 x5 x6 = some (r, S1) → pq_V p l e (headSpec wsX5_children ({ frames := 4, cells := 0, slots := 0, locals := 103 } : Room)).room s m av below meth c 0 0 (MQ below (pq_Qi D y G s.heap.size r S1) av s 0 0 (pq_A G s.heap.size)) D y 9 (pq_A G s.heap.size) (fun _ => True) G S 15 [(0, .ref a0), (1, .ref a1), (2, .int x2), (3, .int x3), (4, .ref a4), (5, .int x5), (6, .int x6)] [] := by
  induction n with
  | zero =>
    intro S a0 a1 x2 x3 a4 x5 x6 k0_ k1_ k4_ h
    rw [F_X5_children_b15.eq_1] at h; cases h
  | succ n ih =>
    intro S a0 a1 x2 x3 a4 x5 x6 k0_ k1_ k4_ h
    rw [F_X5_children_b15.eq_2] at h
    refine pv_iload C 6 dX5_children_15 rfl ?_
    refine pv_aload_n C 1 dX5_children_17 rfl rfl ?_
    refine pv_getiN (T := TX9) (N := 4) C 2 inu_X5_children_9 rfl (by decide) (by decide) (List.mem_of_getElem? (i := 30) rfl) rfl k1_ dX5_children_18 ?_
    refine pv_icmp_ge (tgt := 114) C dX5_children_21 (by decide) (fun c15 => ?_) (fun c15 => ?_)
    · have h := pq_it c15 h
      refine pv_iload C 5 dX5_children_114 rfl ?_
      exact pv_iret C hr hlk h dX5_children_116
    · have h := pq_if c15 h
      refine pv_aload_n C 1 dX5_children_24 rfl rfl ?_
      refine pv_iload C 6 dX5_children_25 rfl ?_
      obtain ⟨v16, S17, e18, h⟩ := pq_bs h
      have k19 := o_X9_at W0 k1_ e18
      refine pv_callrV C (ci := 9) rfl (by decide) k1_ [.int x6] (fun sz => r_X9_at W0 k1_ e18 sz) (cwV 1 C.1.2.2.2.2 gX5_children_X9_at rfl rfl rfl (by decide +kernel) ⟨Nat.le_of_ble_eq_true rfl, Nat.le_of_ble_eq_true rfl⟩) rfl rfl (Nat.le_of_ble_eq_true rfl) dX5_children_27 ⟨Nat.le_of_ble_eq_true rfl, Nat.le_of_ble_eq_true rfl⟩ ?_
      refine pv_astore C [(7, .ref v16), (0, .ref a0), (1, .ref a1), (2, .int x2), (3, .int x3), (4, .ref a4), (5, .int x5), (6, .int x6)] dX5_children_30 (by decide) rfl ?_
      refine pv_iconst (v := 0) C dX5_children_32 (by decide) ?_
      refine pv_istore C [(8, .int (0 : Int32)), (7, .ref v16), (0, .ref a0), (1, .ref a1), (2, .int x2), (3, .int x3), (4, .ref a4), (5, .int x5), (6, .int x6)] dX5_children_33 (by decide) rfl ?_
      refine pv_sub [2, 3, 4, 5, 6, 7, 8, 1, 0] rfl ?_
      exact r_X5_children_b35 W0 C hr hlk ih pq_fuel _ _ _ _ _ _ _ _ _ _ k0_ k1_ k4_ k19 h
set_option maxHeartbeats 4000000 in
set_option maxRecDepth 100000 in
theorem r_X5_children {l : Launch} {D : va_G} {y : pq_Y} {G : pq_G} (W0 : pq_WT G) {S : pq_N} {a0 : Nat} {a1 : Nat} {x2 : Int32} {x3 : Int32} (k0_ : pq_ok G 5 a0) (k1_ : pq_ok G 9 a1) {r : Int32} {S1 : pq_N} (h : F_X5_children G S a0 a1 x2 x3 = some (r, S1)) (sz : Nat) : Met l yX5_children wsX5_children ({ frames := 4, cells := 0, slots := 0, locals := 103 } : Room) (pq_P D y G S sz [.ref a0, .ref a1, .int x2, .int x3]) (pq_Qi D y G sz r S1) 0 0 (pq_A G sz) := by
  refine pq_enter RX5 9 (by decide) rfl rfl rfl ?_
  intro p e s m below meth c C hsz hr hlk
  subst hsz
  unfold F_X5_children at h
  refine pv_sub (lo1 := [(0, .ref a0), (1, .ref a1), (2, .int x2), (3, .int x3)]) [0, 1, 2, 3] rfl ?_
  refine pv_aload_n C 1 dX5_children_0 rfl rfl ?_
  refine pv_iload_n C 2 dX5_children_1 rfl rfl ?_
  obtain ⟨v11, S12, e13, h⟩ := pq_bs h
  have k14 := o_X9_at W0 k1_ e13
  refine pv_callrV C (ci := 9) rfl (by decide) k1_ [.int x2] (fun sz => r_X9_at W0 k1_ e13 sz) (cwV 1 C.1.2.2.2.2 gX5_children_X9_at rfl rfl rfl (by decide +kernel) ⟨Nat.le_of_ble_eq_true rfl, Nat.le_of_ble_eq_true rfl⟩) rfl rfl (Nat.le_of_ble_eq_true rfl) dX5_children_2 ⟨Nat.le_of_ble_eq_true rfl, Nat.le_of_ble_eq_true rfl⟩ ?_
  refine pv_astore C [(4, .ref v11), (0, .ref a0), (1, .ref a1), (2, .int x2), (3, .int x3)] dX5_children_5 (by decide) rfl ?_
  refine pv_iconst (v := 0) C dX5_children_7 (by decide) ?_
  refine pv_istore C [(5, .int (0 : Int32)), (4, .ref v11), (0, .ref a0), (1, .ref a1), (2, .int x2), (3, .int x3)] dX5_children_8 (by decide) rfl ?_
  refine pv_iload_n C 4 dX5_children_10 rfl rfl ?_
  refine pv_iconst (v := 1) C dX5_children_11 (by decide) ?_
  refine pv_iadd C dX5_children_12 ?_
  refine pv_istore C [(6, .int (x2 + (1 : Int32))), (5, .int (0 : Int32)), (4, .ref v11), (0, .ref a0), (1, .ref a1), (2, .int x2), (3, .int x3)] dX5_children_13 (by decide) rfl ?_
  refine pv_sub [3, 4, 5, 6, 2, 1, 0] rfl ?_
  exact r_X5_children_b15 W0 C hr hlk pq_fuel _ _ _ _ _ _ _ _ k0_ k1_ k14 h
def F_X5_faithfulIn_b15 (G : pq_G)  : Nat → pq_N → Nat → Nat → Int32 → Int32 → Int32 → Int32 → Option (Int32 × pq_N)
  | 0, _, _, _, _, _, _, _ => none
  | n + 1, S, a0, a1, x2, x3, x4, x5 => (if x3 ≤ x5 then some (x4, S) else (pq_bd (F_X5_find G S a0 a1 x2 x5) fun v16 S17 => (if v16 = (0 : Int32) then (F_X5_faithfulIn_b15 G n) S17 a0 a1 x2 x3 (x4 + (1 : Int32)) (x5 + (1 : Int32)) else (F_X5_faithfulIn_b15 G n) S17 a0 a1 x2 x3 (x4 + (0 : Int32)) (x5 + (1 : Int32)))))
def F_X5_faithfulIn (G : pq_G) (S : pq_N) (a0 : Nat) (a1 : Nat) (x2 : Int32) : Option (Int32 × pq_N) := (pq_bd (F_X9_at G S a1 x2) fun v11 S12 => F_X5_faithfulIn_b15 G pq_fuel S12 a0 a1 x2 (S12.1 v11 7) (0 : Int32) (0 : Int32))
theorem inu_X5_faithfulIn_4 : ∀ w ∈ u_ws RX4 TX4 8, w ∈ wsX5_faithfulIn := pq_inu 50 rfl
set_option maxHeartbeats 4000000 in
set_option maxRecDepth 100000 in
theorem r_X5_faithfulIn_b15 {p : Program} {l : Launch} {e : Env} {s : State} {m : MethodId} {av : Array Value} {below : List Frame} {meth : Method} {c : Code} {D : va_G} {y : pq_Y} {G : pq_G} {r : Int32} {S1 : pq_N} (W0 : pq_WT G) (C : pq_C p s m av c D y RX5 wsX5_faithfulIn cX5_faithfulIn 6) (hr : meth.sig.returnType = (some .int)) (hlk : meth.locks = false) (n : Nat) : ∀ (S : pq_N) (a0 : Nat) (a1 : Nat) (x2 : Int32) (x3 : Int32) (x4 : Int32) (x5 : Int32), pq_ok G 5 a0 → pq_ok G 9 a1 → F_X5_faithfulIn_b15 G n S a0 a1 x2 x3 x4 x5 = some (r, S1) → pq_V p l e (headSpec wsX5_faithfulIn ({ frames := 4, cells := 0, slots := 0, locals := 103 } : Room)).room s m av below meth c 0 0 (MQ below (pq_Qi D y G s.heap.size r S1) av s 0 0 (pq_A G s.heap.size)) D y 6 (pq_A G s.heap.size) (fun _ => True) G S 15 [(0, .ref a0), (1, .ref a1), (2, .int x2), (3, .int x3), (4, .int x4), (5, .int x5)] [] := by
  induction n with
  | zero =>
    intro S a0 a1 x2 x3 x4 x5 k0_ k1_ h
    rw [F_X5_faithfulIn_b15.eq_1] at h; cases h
  | succ n ih =>
    intro S a0 a1 x2 x3 x4 x5 k0_ k1_ h
    rw [F_X5_faithfulIn_b15.eq_2] at h
    refine pv_iload C 5 dX5_faithfulIn_15 rfl ?_
    refine pv_iload_n C 3 dX5_faithfulIn_17 rfl rfl ?_
    refine pv_icmp_ge (tgt := 48) C dX5_faithfulIn_18 (by decide) (fun c15 => ?_) (fun c15 => ?_)
    · have h := pq_it c15 h
      refine pv_iload C 4 dX5_faithfulIn_48 rfl ?_
      exact pv_iret C hr hlk h dX5_faithfulIn_50
    · have h := pq_if c15 h
      refine pv_iload C 4 dX5_faithfulIn_21 rfl ?_
      refine pv_aload_n C 0 dX5_faithfulIn_23 rfl rfl ?_
      refine pv_aload_n C 1 dX5_faithfulIn_24 rfl rfl ?_
      refine pv_iload_n C 2 dX5_faithfulIn_25 rfl rfl ?_
      refine pv_iload C 5 dX5_faithfulIn_26 rfl ?_
      obtain ⟨v16, S17, e18, h⟩ := pq_bs h
      refine pv_calliV C (ci := 5) rfl (by decide) k0_ [.ref a1, .int x2, .int x5] (fun sz => r_X5_find W0 k0_ k1_ e18 sz) (cwV 3 C.1.2.2.2.2 gX5_faithfulIn_X5_find rfl rfl rfl (by decide +kernel) ⟨Nat.le_of_ble_eq_true rfl, Nat.le_of_ble_eq_true rfl⟩) rfl rfl (Nat.le_of_ble_eq_true rfl) dX5_faithfulIn_28 ⟨Nat.le_of_ble_eq_true rfl, Nat.le_of_ble_eq_true rfl⟩ ?_
      refine pv_if_ne (tgt := 38) C dX5_faithfulIn_31 (by decide) (fun c19 => ?_) (fun c19 => ?_)
      · have h := pq_if c19 h
        refine pv_iconst (v := 0) C dX5_faithfulIn_38 (by decide) ?_
        refine pv_iadd C dX5_faithfulIn_39 ?_
        refine pv_istore C [(4, .int (x4 + (0 : Int32))), (0, .ref a0), (1, .ref a1), (2, .int x2), (3, .int x3), (5, .int x5)] dX5_faithfulIn_40 (by decide) rfl ?_
        refine pv_iinc (v := (x5 + (1 : Int32))) C 5 [(5, .int (x5 + (1 : Int32))), (4, .int (x4 + (0 : Int32))), (0, .ref a0), (1, .ref a1), (2, .int x2), (3, .int x3)] dX5_faithfulIn_42 rfl rfl (by decide) rfl ?_
        refine pv_goto (tgt := 15) C dX5_faithfulIn_45 (by decide) ?_
        refine pv_sub [2, 3, 4, 5, 1, 0] rfl ?_
        exact ih _ _ _ _ _ _ _ k0_ k1_ h
      · have h := pq_it c19 h
        refine pv_iconst (v := 1) C dX5_faithfulIn_34 (by decide) ?_
        refine pv_goto (tgt := 39) C dX5_faithfulIn_35 (by decide) ?_
        refine pv_iadd C dX5_faithfulIn_39 ?_
        refine pv_istore C [(4, .int (x4 + (1 : Int32))), (0, .ref a0), (1, .ref a1), (2, .int x2), (3, .int x3), (5, .int x5)] dX5_faithfulIn_40 (by decide) rfl ?_
        refine pv_iinc (v := (x5 + (1 : Int32))) C 5 [(5, .int (x5 + (1 : Int32))), (4, .int (x4 + (1 : Int32))), (0, .ref a0), (1, .ref a1), (2, .int x2), (3, .int x3)] dX5_faithfulIn_42 rfl rfl (by decide) rfl ?_
        refine pv_goto (tgt := 15) C dX5_faithfulIn_45 (by decide) ?_
        refine pv_sub [2, 3, 4, 5, 1, 0] rfl ?_
        exact ih _ _ _ _ _ _ _ k0_ k1_ h
set_option maxHeartbeats 4000000 in
set_option maxRecDepth 100000 in
theorem r_X5_faithfulIn {l : Launch} {D : va_G} {y : pq_Y} {G : pq_G} (W0 : pq_WT G) {S : pq_N} {a0 : Nat} {a1 : Nat} {x2 : Int32} (k0_ : pq_ok G 5 a0) (k1_ : pq_ok G 9 a1) {r : Int32} {S1 : pq_N} (h : F_X5_faithfulIn G S a0 a1 x2 = some (r, S1)) (sz : Nat) : Met l yX5_faithfulIn wsX5_faithfulIn ({ frames := 4, cells := 0, slots := 0, locals := 103 } : Room) (pq_P D y G S sz [.ref a0, .ref a1, .int x2]) (pq_Qi D y G sz r S1) 0 0 (pq_A G sz) := by
  refine pq_enter RX5 6 (by decide) rfl rfl rfl ?_
  intro p e s m below meth c C hsz hr hlk
  subst hsz
  unfold F_X5_faithfulIn at h
  refine pv_sub (lo1 := [(0, .ref a0), (1, .ref a1), (2, .int x2)]) [0, 1, 2] rfl ?_
  refine pv_aload_n C 1 dX5_faithfulIn_0 rfl rfl ?_
  refine pv_iload_n C 2 dX5_faithfulIn_1 rfl rfl ?_
  obtain ⟨v11, S12, e13, h⟩ := pq_bs h
  have k14 := o_X9_at W0 k1_ e13
  refine pv_callrV C (ci := 9) rfl (by decide) k1_ [.int x2] (fun sz => r_X9_at W0 k1_ e13 sz) (cwV 1 C.1.2.2.2.2 gX5_faithfulIn_X9_at rfl rfl rfl (by decide +kernel) ⟨Nat.le_of_ble_eq_true rfl, Nat.le_of_ble_eq_true rfl⟩) rfl rfl (Nat.le_of_ble_eq_true rfl) dX5_faithfulIn_2 ⟨Nat.le_of_ble_eq_true rfl, Nat.le_of_ble_eq_true rfl⟩ ?_
  refine pv_getiN (T := TX4) (N := 8) C 7 inu_X5_faithfulIn_4 rfl (by decide) (by decide) (List.mem_of_getElem? (i := 25) rfl) rfl k14 dX5_faithfulIn_5 ?_
  refine pv_istore_n C [(3, .int (S12.1 v11 7)), (0, .ref a0), (1, .ref a1), (2, .int x2)] dX5_faithfulIn_8 rfl (by decide) rfl ?_
  refine pv_iconst (v := 0) C dX5_faithfulIn_9 (by decide) ?_
  refine pv_istore C [(4, .int (0 : Int32)), (3, .int (S12.1 v11 7)), (0, .ref a0), (1, .ref a1), (2, .int x2)] dX5_faithfulIn_10 (by decide) rfl ?_
  refine pv_iconst (v := 0) C dX5_faithfulIn_12 (by decide) ?_
  refine pv_istore C [(5, .int (0 : Int32)), (4, .int (0 : Int32)), (3, .int (S12.1 v11 7)), (0, .ref a0), (1, .ref a1), (2, .int x2)] dX5_faithfulIn_13 (by decide) rfl ?_
  refine pv_sub [3, 4, 5, 2, 1, 0] rfl ?_
  exact r_X5_faithfulIn_b15 W0 C hr hlk pq_fuel _ _ _ _ _ _ _ k0_ k1_ h
def F_X5_findAtOrigin (G : pq_G) (S : pq_N) (a0 : Nat) (a1 : Nat) (x2 : Int32) (x3 : Int32) : Option (Int32 × pq_N) := (pq_bd (F_X9_at G S a1 x2) fun v12 S13 => (pq_bd (F_X9_at G S13 a1 (S13.1 a0 1)) fun v16 S17 => (pq_bd (F_X8_byTable G S17 (pq_r G a0 0) v12 x3 v16) fun _ S21 => some ((S21.1 (pq_r G a0 0) 1), S21))))
theorem inu_X5_findAtOrigin_5 : ∀ w ∈ u_ws RX5 TX5 3, w ∈ wsX5_findAtOrigin := pq_inu 45 rfl
theorem inu_X5_findAtOrigin_8 : ∀ w ∈ u_ws RX8 TX8 4, w ∈ wsX5_findAtOrigin := pq_inu 48 rfl
set_option maxHeartbeats 4000000 in
set_option maxRecDepth 100000 in
theorem r_X5_findAtOrigin {l : Launch} {D : va_G} {y : pq_Y} {G : pq_G} (W0 : pq_WT G) {S : pq_N} {a0 : Nat} {a1 : Nat} {x2 : Int32} {x3 : Int32} (k0_ : pq_ok G 5 a0) (k1_ : pq_ok G 9 a1) {r : Int32} {S1 : pq_N} (h : F_X5_findAtOrigin G S a0 a1 x2 x3 = some (r, S1)) (sz : Nat) : Met l yX5_findAtOrigin wsX5_findAtOrigin ({ frames := 3, cells := 0, slots := 0, locals := 79 } : Room) (pq_P D y G S sz [.ref a0, .ref a1, .int x2, .int x3]) (pq_Qi D y G sz r S1) 0 0 (pq_A G sz) := by
  refine pq_enter RX5 4 (by decide) rfl rfl rfl ?_
  intro p e s m below meth c C hsz hr hlk
  subst hsz
  unfold F_X5_findAtOrigin at h
  refine pv_sub (lo1 := [(0, .ref a0), (1, .ref a1), (2, .int x2), (3, .int x3)]) [0, 1, 2, 3] rfl ?_
  refine pv_aload_n C 0 dX5_findAtOrigin_0 rfl rfl ?_
  have k11 := pq_wt (k := 0) W0 k0_ rfl
  refine pv_getr (T := TX5) (N := 3) C 0 inu_X5_findAtOrigin_5 rfl (by decide) (by decide) (List.mem_of_getElem? (i := 1) rfl) rfl k0_ k11.1 dX5_findAtOrigin_1 ?_
  refine pv_aload_n C 1 dX5_findAtOrigin_4 rfl rfl ?_
  refine pv_iload_n C 2 dX5_findAtOrigin_5 rfl rfl ?_
  obtain ⟨v12, S13, e14, h⟩ := pq_bs h
  have k15 := o_X9_at W0 k1_ e14
  refine pv_callrV C (ci := 9) rfl (by decide) k1_ [.int x2] (fun sz => r_X9_at W0 k1_ e14 sz) (cwV 1 C.1.2.2.2.2 gX5_findAtOrigin_X9_at rfl rfl rfl (by decide +kernel) ⟨Nat.le_of_ble_eq_true rfl, Nat.le_of_ble_eq_true rfl⟩) rfl rfl (Nat.le_of_ble_eq_true rfl) dX5_findAtOrigin_6 ⟨Nat.le_of_ble_eq_true rfl, Nat.le_of_ble_eq_true rfl⟩ ?_
  refine pv_iload_n C 3 dX5_findAtOrigin_9 rfl rfl ?_
  refine pv_aload_n C 1 dX5_findAtOrigin_10 rfl rfl ?_
  refine pv_aload_n C 0 dX5_findAtOrigin_11 rfl rfl ?_
  refine pv_geti (T := TX5) (N := 3) C 1 inu_X5_findAtOrigin_5 rfl (by decide) (by decide) (List.mem_of_getElem? (i := 2) rfl) rfl k0_ dX5_findAtOrigin_12 ?_
  obtain ⟨v16, S17, e18, h⟩ := pq_bs h
  have k19 := o_X9_at W0 k1_ e18
  refine pv_callrV C (ci := 9) rfl (by decide) k1_ [.int (S13.1 a0 1)] (fun sz => r_X9_at W0 k1_ e18 sz) (cwV 1 C.1.2.2.2.2 gX5_findAtOrigin_X9_at rfl rfl rfl (by decide +kernel) ⟨Nat.le_of_ble_eq_true rfl, Nat.le_of_ble_eq_true rfl⟩) rfl rfl (Nat.le_of_ble_eq_true rfl) dX5_findAtOrigin_15 ⟨Nat.le_of_ble_eq_true rfl, Nat.le_of_ble_eq_true rfl⟩ ?_
  obtain ⟨⟨⟩, S21, e22, h⟩ := pq_bs h
  refine pv_callvV C (ci := 8) rfl (by decide) k11.2 [.ref v12, .int x3, .ref v16] (fun sz => r_X8_byTable W0 k11.2 k15 k19 e22 sz) (cwV 3 C.1.2.2.2.2 gX5_findAtOrigin_X8_byTable rfl rfl rfl (by decide +kernel) ⟨Nat.le_of_ble_eq_true rfl, Nat.le_of_ble_eq_true rfl⟩) rfl rfl (Nat.le_of_ble_eq_true rfl) dX5_findAtOrigin_18 ⟨Nat.le_of_ble_eq_true rfl, Nat.le_of_ble_eq_true rfl⟩ ?_
  refine pv_aload_n C 0 dX5_findAtOrigin_21 rfl rfl ?_
  have k23 := pq_wt (k := 0) W0 k0_ rfl
  refine pv_getr (T := TX5) (N := 3) C 0 inu_X5_findAtOrigin_5 rfl (by decide) (by decide) (List.mem_of_getElem? (i := 1) rfl) rfl k0_ k23.1 dX5_findAtOrigin_22 ?_
  refine pv_getiN (T := TX8) (N := 4) C 1 inu_X5_findAtOrigin_8 rfl (by decide) (by decide) (List.mem_of_getElem? (i := 40) rfl) rfl k23.2 dX5_findAtOrigin_25 ?_
  exact pv_iret C hr hlk h dX5_findAtOrigin_28
def F_X8_leastFrom_b58 (G : pq_G)  : Nat → pq_N → Nat → Nat → Nat → Int32 → Int32 → Int32 → Int32 → Option (Int32 × pq_N)
  | 0, _, _, _, _, _, _, _, _ => none
  | n + 1, S, a0, a2, a4, x5, x6, x7, x8 => (if (S.1 a4 6) ≤ x8 then some (x7, S) else (pq_bd (F_X7_at G S (pq_r G a4 0) x8) fun v26 S27 => (pq_bd (F_X8_takeWord G S27 a0 v26 a2 x5 x6) fun _ S30 => (pq_bd (F_X7_number G S30 (pq_r G a0 0) x6) fun v33 S34 => (pq_lt (if (v33 / (64 : Int32)) < x7 then (v33 / (64 : Int32)) else x7) fun i36 => (F_X8_leastFrom_b58 G n) S34 a0 a2 a4 x5 x6 i36 (x8 + (1 : Int32)))))))
def F_X8_leastFrom_b23 (G : pq_G)  : Nat → pq_N → Nat → Int32 → Nat → Nat → Int32 → Int32 → Int32 → Option (Int32 × pq_N)
  | 0, _, _, _, _, _, _, _, _ => none
  | n + 1, S, a0, x1, a2, a4, x5, x6, x7 => (if x6 < x7 then F_X8_leastFrom_b58 G pq_fuel S a0 a2 a4 x5 x6 x6 x1 else (pq_bd (F_X7_put G S (pq_r G a0 0) x7 (Int32.toInt64 (x7 * (64 : Int32)))) fun _ S22 => (F_X8_leastFrom_b23 G n) S22 a0 x1 a2 a4 x5 x6 (x7 + (1 : Int32))))
def F_X8_leastFrom (G : pq_G) (S : pq_N) (a0 : Nat) (x1 : Int32) (a2 : Nat) (x3 : Int32) (a4 : Nat) : Option (Int32 × pq_N) := (pq_bd (F_X7_number G S (pq_r G a2 2) x3) fun v12 S13 => (pq_bd (F_X7_number G S13 (pq_r G a2 3) x3) fun v16 S17 => F_X8_leastFrom_b23 G pq_fuel S17 a0 x1 a2 a4 v12 v16 (0 : Int32)))
theorem inu_X8_leastFrom_4 : ∀ w ∈ u_ws RX4 TX4 8, w ∈ wsX8_leastFrom := pq_inu 25 rfl
theorem inu_X8_leastFrom_8 : ∀ w ∈ u_ws RX8 TX8 4, w ∈ wsX8_leastFrom := pq_inu 33 rfl
set_option maxHeartbeats 4000000 in
set_option maxRecDepth 100000 in
theorem r_X8_leastFrom_b58 {p : Program} {l : Launch} {e : Env} {s : State} {m : MethodId} {av : Array Value} {below : List Frame} {meth : Method} {c : Code} {D : va_G} {y : pq_Y} {G : pq_G} {r : Int32} {S1 : pq_N} (W0 : pq_WT G) (C : pq_C p s m av c D y RX8 wsX8_leastFrom cX8_leastFrom 9) (hr : meth.sig.returnType = (some .int)) (hlk : meth.locks = false) (n : Nat) : ∀ (S : pq_N) (a0 : Nat) (a2 : Nat) (a4 : Nat) (x5 : Int32) (x6 : Int32) (x7 : Int32) (x8 : Int32), pq_ok G 8 a0 → pq_ok G 4 a2 → pq_ok G 4 a4 → F_X8_leastFrom_b58 G n S a0 a2 a4 x5 x6 x7 x8 = some (r, S1) → pq_V p l e (headSpec wsX8_leastFrom ({ frames := 2, cells := 0, slots := 0, locals := 53 } : Room)).room s m av below meth c 0 0 (MQ below (pq_Qi D y G s.heap.size r S1) av s 0 0 (pq_A G s.heap.size)) D y 9 (pq_A G s.heap.size) (fun _ => True) G S 58 [(0, .ref a0), (2, .ref a2), (4, .ref a4), (5, .int x5), (6, .int x6), (7, .int x7), (8, .int x8)] [] := by
  induction n with
  | zero =>
    intro S a0 a2 a4 x5 x6 x7 x8 k0_ k2_ k4_ h
    rw [F_X8_leastFrom_b58.eq_1] at h; cases h
  | succ n ih =>
    intro S a0 a2 a4 x5 x6 x7 x8 k0_ k2_ k4_ h
    rw [F_X8_leastFrom_b58.eq_2] at h
    refine pv_iload C 6 dX8_leastFrom_58 rfl ?_
    refine pv_aload C 2 dX8_leastFrom_60 rfl ?_
    refine pv_getiN (T := TX4) (N := 8) C 6 inu_X8_leastFrom_4 rfl (by decide) (by decide) (List.mem_of_getElem? (i := 19) rfl) rfl k4_ dX8_leastFrom_62 ?_
    refine pv_icmp_ge (tgt := 112) C dX8_leastFrom_65 (by decide) (fun c24 => ?_) (fun c24 => ?_)
    · have h := pq_it c24 h
      refine pv_iload C 5 dX8_leastFrom_112 rfl ?_
      exact pv_iret C hr hlk h dX8_leastFrom_114
    · have h := pq_if c24 h
      refine pv_aload_n C 0 dX8_leastFrom_68 rfl rfl ?_
      refine pv_aload C 2 dX8_leastFrom_69 rfl ?_
      have k25 := pq_wt (k := 0) W0 k4_ rfl
      refine pv_getrN (T := TX4) (N := 8) C 0 inu_X8_leastFrom_4 rfl (by decide) (by decide) (List.mem_of_getElem? (i := 1) rfl) rfl k4_ k25.1 dX8_leastFrom_71 ?_
      refine pv_iload C 6 dX8_leastFrom_74 rfl ?_
      obtain ⟨v26, S27, e28, h⟩ := pq_bs h
      refine pv_calllV C (ci := 7) rfl (by decide) k25.2 [.int x8] (fun sz => r_X7_at W0 k25.2 e28 sz) (cwV 1 C.1.2.2.2.2 gX8_leastFrom_X7_at rfl rfl rfl (by decide +kernel) ⟨Nat.le_of_ble_eq_true rfl, Nat.le_of_ble_eq_true rfl⟩) rfl rfl (Nat.le_of_ble_eq_true rfl) dX8_leastFrom_76 ⟨Nat.le_of_ble_eq_true rfl, Nat.le_of_ble_eq_true rfl⟩ ?_
      refine pv_aload_n C 1 dX8_leastFrom_79 rfl rfl ?_
      refine pv_iload C 3 dX8_leastFrom_80 rfl ?_
      refine pv_iload C 4 dX8_leastFrom_82 rfl ?_
      obtain ⟨⟨⟩, S30, e31, h⟩ := pq_bs h
      refine pv_callvV C (ci := 8) rfl (by decide) k0_ [.long v26, .ref a2, .int x5, .int x6] (fun sz => r_X8_takeWord W0 k0_ k2_ e31 sz) (cwV 4 C.1.2.2.2.2 gX8_leastFrom_X8_takeWord rfl rfl rfl (by decide +kernel) ⟨Nat.le_of_ble_eq_true rfl, Nat.le_of_ble_eq_true rfl⟩) rfl rfl (Nat.le_of_ble_eq_true rfl) dX8_leastFrom_84 ⟨Nat.le_of_ble_eq_true rfl, Nat.le_of_ble_eq_true rfl⟩ ?_
      refine pv_iload C 5 dX8_leastFrom_87 rfl ?_
      refine pv_aload_n C 0 dX8_leastFrom_89 rfl rfl ?_
      have k32 := pq_wt (k := 0) W0 k0_ rfl
      refine pv_getr (T := TX8) (N := 4) C 0 inu_X8_leastFrom_8 rfl (by decide) (by decide) (List.mem_of_getElem? (i := 1) rfl) rfl k0_ k32.1 dX8_leastFrom_90 ?_
      refine pv_iload C 4 dX8_leastFrom_93 rfl ?_
      obtain ⟨v33, S34, e35, h⟩ := pq_bs h
      refine pv_calliV C (ci := 7) rfl (by decide) k32.2 [.int x6] (fun sz => r_X7_number W0 k32.2 e35 sz) (cwV 1 C.1.2.2.2.2 gX8_leastFrom_X7_number rfl rfl rfl (by decide +kernel) ⟨Nat.le_of_ble_eq_true rfl, Nat.le_of_ble_eq_true rfl⟩) rfl rfl (Nat.le_of_ble_eq_true rfl) dX8_leastFrom_95 ⟨Nat.le_of_ble_eq_true rfl, Nat.le_of_ble_eq_true rfl⟩ ?_
      refine pv_bipush (v := 64) C dX8_leastFrom_98 (by decide) ?_
      refine pv_idiv C dX8_leastFrom_100 (by decide) ?_
      refine pv_mmin C (List.mem_of_getElem? (i := 2) rfl) (List.mem_of_getElem? (i := 3) rfl) (List.mem_of_getElem? (i := 4) rfl) (List.mem_of_getElem? (i := 5) rfl) (Nat.le_of_ble_eq_true rfl) (Nat.le_of_ble_eq_true rfl) (Nat.le_of_ble_eq_true rfl) (Nat.le_of_ble_eq_true rfl) dX8_leastFrom_101 ?_
      refine pv_nmi (fun i36 e37 => ?_)
      have h := pq_ls e37 h
      refine pv_istore C [(7, .int i36), (0, .ref a0), (2, .ref a2), (4, .ref a4), (5, .int x5), (6, .int x6), (8, .int x8)] dX8_leastFrom_104 (by decide) rfl ?_
      refine pv_iinc (v := (x8 + (1 : Int32))) C 6 [(8, .int (x8 + (1 : Int32))), (7, .int i36), (0, .ref a0), (2, .ref a2), (4, .ref a4), (5, .int x5), (6, .int x6)] dX8_leastFrom_106 rfl rfl (by decide) rfl ?_
      refine pv_goto (tgt := 58) C dX8_leastFrom_109 (by decide) ?_
      refine pv_sub [2, 3, 4, 5, 6, 1, 0] rfl ?_
      exact ih _ _ _ _ _ _ _ _ k0_ k2_ k4_ h
set_option maxHeartbeats 4000000 in
set_option maxRecDepth 100000 in
theorem r_X8_leastFrom_b23 {p : Program} {l : Launch} {e : Env} {s : State} {m : MethodId} {av : Array Value} {below : List Frame} {meth : Method} {c : Code} {D : va_G} {y : pq_Y} {G : pq_G} {r : Int32} {S1 : pq_N} (W0 : pq_WT G) (C : pq_C p s m av c D y RX8 wsX8_leastFrom cX8_leastFrom 9) (hr : meth.sig.returnType = (some .int)) (hlk : meth.locks = false) (n : Nat) : ∀ (S : pq_N) (a0 : Nat) (x1 : Int32) (a2 : Nat) (a4 : Nat) (x5 : Int32) (x6 : Int32) (x7 : Int32), pq_ok G 8 a0 → pq_ok G 4 a2 → pq_ok G 4 a4 → F_X8_leastFrom_b23 G n S a0 x1 a2 a4 x5 x6 x7 = some (r, S1) → pq_V p l e (headSpec wsX8_leastFrom ({ frames := 2, cells := 0, slots := 0, locals := 53 } : Room)).room s m av below meth c 0 0 (MQ below (pq_Qi D y G s.heap.size r S1) av s 0 0 (pq_A G s.heap.size)) D y 9 (pq_A G s.heap.size) (fun _ => True) G S 23 [(0, .ref a0), (1, .int x1), (2, .ref a2), (4, .ref a4), (5, .int x5), (6, .int x6), (7, .int x7)] [] := by
  induction n with
  | zero =>
    intro S a0 x1 a2 a4 x5 x6 x7 k0_ k2_ k4_ h
    rw [F_X8_leastFrom_b23.eq_1] at h; cases h
  | succ n ih =>
    intro S a0 x1 a2 a4 x5 x6 x7 k0_ k2_ k4_ h
    rw [F_X8_leastFrom_b23.eq_2] at h
    refine pv_iload C 6 dX8_leastFrom_23 rfl ?_
    refine pv_iload C 5 dX8_leastFrom_25 rfl ?_
    refine pv_icmp_gt (tgt := 51) C dX8_leastFrom_27 (by decide) (fun c19 => ?_) (fun c19 => ?_)
    · have h := pq_it c19 h
      refine pv_iload C 5 dX8_leastFrom_51 rfl ?_
      refine pv_istore C [(7, .int x6), (0, .ref a0), (1, .int x1), (2, .ref a2), (4, .ref a4), (5, .int x5), (6, .int x6)] dX8_leastFrom_53 (by decide) rfl ?_
      refine pv_iload_n C 2 dX8_leastFrom_55 rfl rfl ?_
      refine pv_istore C [(8, .int x1), (7, .int x6), (0, .ref a0), (1, .int x1), (2, .ref a2), (4, .ref a4), (5, .int x5), (6, .int x6)] dX8_leastFrom_56 (by decide) rfl ?_
      refine pv_sub [2, 4, 5, 6, 7, 1, 0] rfl ?_
      exact r_X8_leastFrom_b58 W0 C hr hlk pq_fuel _ _ _ _ _ _ _ _ k0_ k2_ k4_ h
    · have h := pq_if c19 h
      refine pv_aload_n C 0 dX8_leastFrom_30 rfl rfl ?_
      have k20 := pq_wt (k := 0) W0 k0_ rfl
      refine pv_getr (T := TX8) (N := 4) C 0 inu_X8_leastFrom_8 rfl (by decide) (by decide) (List.mem_of_getElem? (i := 1) rfl) rfl k0_ k20.1 dX8_leastFrom_31 ?_
      refine pv_iload C 6 dX8_leastFrom_34 rfl ?_
      refine pv_iload C 6 dX8_leastFrom_36 rfl ?_
      refine pv_bipush (v := 64) C dX8_leastFrom_38 (by decide) ?_
      refine pv_imul C dX8_leastFrom_40 ?_
      refine pv_i2l C dX8_leastFrom_41 ?_
      obtain ⟨⟨⟩, S22, e23, h⟩ := pq_bs h
      refine pv_callvV C (ci := 7) rfl (by decide) k20.2 [.int x7, .long (Int32.toInt64 (x7 * (64 : Int32)))] (fun sz => r_X7_put W0 k20.2 e23 sz) (cwV 2 C.1.2.2.2.2 gX8_leastFrom_X7_put rfl rfl rfl (by decide +kernel) ⟨Nat.le_of_ble_eq_true rfl, Nat.le_of_ble_eq_true rfl⟩) rfl rfl (Nat.le_of_ble_eq_true rfl) dX8_leastFrom_42 ⟨Nat.le_of_ble_eq_true rfl, Nat.le_of_ble_eq_true rfl⟩ ?_
      refine pv_iinc (v := (x7 + (1 : Int32))) C 6 [(7, .int (x7 + (1 : Int32))), (0, .ref a0), (1, .int x1), (2, .ref a2), (4, .ref a4), (5, .int x5), (6, .int x6)] dX8_leastFrom_45 rfl rfl (by decide) rfl ?_
      refine pv_goto (tgt := 23) C dX8_leastFrom_48 (by decide) ?_
      refine pv_sub [1, 2, 3, 4, 5, 6, 0] rfl ?_
      exact ih _ _ _ _ _ _ _ _ k0_ k2_ k4_ h
set_option maxHeartbeats 4000000 in
set_option maxRecDepth 100000 in
theorem r_X8_leastFrom {l : Launch} {D : va_G} {y : pq_Y} {G : pq_G} (W0 : pq_WT G) {S : pq_N} {a0 : Nat} {x1 : Int32} {a2 : Nat} {x3 : Int32} {a4 : Nat} (k0_ : pq_ok G 8 a0) (k2_ : pq_ok G 4 a2) (k4_ : pq_ok G 4 a4) {r : Int32} {S1 : pq_N} (h : F_X8_leastFrom G S a0 x1 a2 x3 a4 = some (r, S1)) (sz : Nat) : Met l yX8_leastFrom wsX8_leastFrom ({ frames := 2, cells := 0, slots := 0, locals := 53 } : Room) (pq_P D y G S sz [.ref a0, .int x1, .ref a2, .int x3, .ref a4]) (pq_Qi D y G sz r S1) 0 0 (pq_A G sz) := by
  refine pq_enter RX8 9 (by decide) rfl rfl rfl ?_
  intro p e s m below meth c C hsz hr hlk
  subst hsz
  unfold F_X8_leastFrom at h
  refine pv_sub (lo1 := [(0, .ref a0), (1, .int x1), (2, .ref a2), (3, .int x3), (4, .ref a4)]) [0, 1, 2, 3, 4] rfl ?_
  refine pv_aload_n C 2 dX8_leastFrom_0 rfl rfl ?_
  have k11 := pq_wt (k := 2) W0 k2_ rfl
  refine pv_getrN (T := TX4) (N := 8) C 2 inu_X8_leastFrom_4 rfl (by decide) (by decide) (List.mem_of_getElem? (i := 9) rfl) rfl k2_ k11.1 dX8_leastFrom_1 ?_
  refine pv_iload_n C 3 dX8_leastFrom_4 rfl rfl ?_
  obtain ⟨v12, S13, e14, h⟩ := pq_bs h
  refine pv_calliV C (ci := 7) rfl (by decide) k11.2 [.int x3] (fun sz => r_X7_number W0 k11.2 e14 sz) (cwV 1 C.1.2.2.2.2 gX8_leastFrom_X7_number rfl rfl rfl (by decide +kernel) ⟨Nat.le_of_ble_eq_true rfl, Nat.le_of_ble_eq_true rfl⟩) rfl rfl (Nat.le_of_ble_eq_true rfl) dX8_leastFrom_5 ⟨Nat.le_of_ble_eq_true rfl, Nat.le_of_ble_eq_true rfl⟩ ?_
  refine pv_istore C [(5, .int v12), (0, .ref a0), (1, .int x1), (2, .ref a2), (3, .int x3), (4, .ref a4)] dX8_leastFrom_8 (by decide) rfl ?_
  refine pv_aload_n C 3 dX8_leastFrom_10 rfl rfl ?_
  have k15 := pq_wt (k := 3) W0 k2_ rfl
  refine pv_getrN (T := TX4) (N := 8) C 3 inu_X8_leastFrom_4 rfl (by decide) (by decide) (List.mem_of_getElem? (i := 11) rfl) rfl k2_ k15.1 dX8_leastFrom_11 ?_
  refine pv_iload_n C 4 dX8_leastFrom_14 rfl rfl ?_
  obtain ⟨v16, S17, e18, h⟩ := pq_bs h
  refine pv_calliV C (ci := 7) rfl (by decide) k15.2 [.int x3] (fun sz => r_X7_number W0 k15.2 e18 sz) (cwV 1 C.1.2.2.2.2 gX8_leastFrom_X7_number rfl rfl rfl (by decide +kernel) ⟨Nat.le_of_ble_eq_true rfl, Nat.le_of_ble_eq_true rfl⟩) rfl rfl (Nat.le_of_ble_eq_true rfl) dX8_leastFrom_15 ⟨Nat.le_of_ble_eq_true rfl, Nat.le_of_ble_eq_true rfl⟩ ?_
  refine pv_istore C [(6, .int v16), (5, .int v12), (0, .ref a0), (1, .int x1), (2, .ref a2), (3, .int x3), (4, .ref a4)] dX8_leastFrom_18 (by decide) rfl ?_
  refine pv_iconst (v := 0) C dX8_leastFrom_20 (by decide) ?_
  refine pv_istore C [(7, .int (0 : Int32)), (6, .int v16), (5, .int v12), (0, .ref a0), (1, .int x1), (2, .ref a2), (3, .int x3), (4, .ref a4)] dX8_leastFrom_21 (by decide) rfl ?_
  refine pv_sub [3, 4, 5, 7, 2, 1, 0] rfl ?_
  exact r_X8_leastFrom_b23 W0 C hr hlk pq_fuel _ _ _ _ _ _ _ _ k0_ k2_ k4_ h
def F_X8_byPassages_b17 (G : pq_G)  : Nat → pq_N → Nat → Nat → Int32 → Nat → Int32 → Int32 → Option (Int32 × pq_N)
  | 0, _, _, _, _, _, _, _ => none
  | n + 1, S, a0, a1, x2, a3, x5, x6 => (if (S.1 a3 6) ≤ x6 then some (x5, S) else (pq_bd (F_X8_leastFrom G S a0 x6 a1 x2 a3) fun v16 S17 => (pq_lt (if v16 < x5 then v16 else x5) fun i19 => (F_X8_byPassages_b17 G n) S17 a0 a1 x2 a3 i19 (x6 + (1 : Int32)))))
def F_X8_byPassages (G : pq_G) (S : pq_N) (a0 : Nat) (a1 : Nat) (x2 : Int32) (a3 : Nat) : Option (Int32 × pq_N) := (pq_bd (F_X7_number G S (pq_r G a1 3) x2) fun v12 S13 => F_X8_byPassages_b17 G pq_fuel S13 a0 a1 x2 a3 v12 (0 : Int32))
theorem inu_X8_byPassages_4 : ∀ w ∈ u_ws RX4 TX4 8, w ∈ wsX8_byPassages := pq_inu 29 rfl
set_option maxHeartbeats 4000000 in
set_option maxRecDepth 100000 in
theorem r_X8_byPassages_b17 {p : Program} {l : Launch} {e : Env} {s : State} {m : MethodId} {av : Array Value} {below : List Frame} {meth : Method} {c : Code} {D : va_G} {y : pq_Y} {G : pq_G} {r : Int32} {S1 : pq_N} (W0 : pq_WT G) (C : pq_C p s m av c D y RX8 wsX8_byPassages cX8_byPassages 7) (hr : meth.sig.returnType = (some .int)) (hlk : meth.locks = false) (n : Nat) : ∀ (S : pq_N) (a0 : Nat) (a1 : Nat) (x2 : Int32) (a3 : Nat) (x5 : Int32) (x6 : Int32), pq_ok G 8 a0 → pq_ok G 4 a1 → pq_ok G 4 a3 → F_X8_byPassages_b17 G n S a0 a1 x2 a3 x5 x6 = some (r, S1) → pq_V p l e (headSpec wsX8_byPassages ({ frames := 3, cells := 0, slots := 0, locals := 81 } : Room)).room s m av below meth c 0 0 (MQ below (pq_Qi D y G s.heap.size r S1) av s 0 0 (pq_A G s.heap.size)) D y 7 (pq_A G s.heap.size) (fun _ => True) G S 17 [(0, .ref a0), (1, .ref a1), (2, .int x2), (3, .ref a3), (5, .int x5), (6, .int x6)] [] := by
  induction n with
  | zero =>
    intro S a0 a1 x2 a3 x5 x6 k0_ k1_ k3_ h
    rw [F_X8_byPassages_b17.eq_1] at h; cases h
  | succ n ih =>
    intro S a0 a1 x2 a3 x5 x6 k0_ k1_ k3_ h
    rw [F_X8_byPassages_b17.eq_2] at h
    refine pv_iload C 5 dX8_byPassages_17 rfl ?_
    refine pv_aload_n C 3 dX8_byPassages_19 rfl rfl ?_
    refine pv_getiN (T := TX4) (N := 8) C 6 inu_X8_byPassages_4 rfl (by decide) (by decide) (List.mem_of_getElem? (i := 19) rfl) rfl k3_ dX8_byPassages_20 ?_
    refine pv_icmp_ge (tgt := 48) C dX8_byPassages_23 (by decide) (fun c15 => ?_) (fun c15 => ?_)
    · have h := pq_it c15 h
      refine pv_iload C 4 dX8_byPassages_48 rfl ?_
      exact pv_iret C hr hlk h dX8_byPassages_50
    · have h := pq_if c15 h
      refine pv_iload C 4 dX8_byPassages_26 rfl ?_
      refine pv_aload_n C 0 dX8_byPassages_28 rfl rfl ?_
      refine pv_iload C 5 dX8_byPassages_29 rfl ?_
      refine pv_aload_n C 1 dX8_byPassages_31 rfl rfl ?_
      refine pv_iload_n C 2 dX8_byPassages_32 rfl rfl ?_
      refine pv_aload_n C 3 dX8_byPassages_33 rfl rfl ?_
      obtain ⟨v16, S17, e18, h⟩ := pq_bs h
      refine pv_calliV C (ci := 8) rfl (by decide) k0_ [.int x6, .ref a1, .int x2, .ref a3] (fun sz => r_X8_leastFrom W0 k0_ k1_ k3_ e18 sz) (cwV 4 C.1.2.2.2.2 gX8_byPassages_X8_leastFrom rfl rfl rfl (by decide +kernel) ⟨Nat.le_of_ble_eq_true rfl, Nat.le_of_ble_eq_true rfl⟩) rfl rfl (Nat.le_of_ble_eq_true rfl) dX8_byPassages_34 ⟨Nat.le_of_ble_eq_true rfl, Nat.le_of_ble_eq_true rfl⟩ ?_
      refine pv_mmin C (List.mem_of_getElem? (i := 1) rfl) (List.mem_of_getElem? (i := 2) rfl) (List.mem_of_getElem? (i := 3) rfl) (List.mem_of_getElem? (i := 4) rfl) (Nat.le_of_ble_eq_true rfl) (Nat.le_of_ble_eq_true rfl) (Nat.le_of_ble_eq_true rfl) (Nat.le_of_ble_eq_true rfl) dX8_byPassages_37 ?_
      refine pv_nmi (fun i19 e20 => ?_)
      have h := pq_ls e20 h
      refine pv_istore C [(5, .int i19), (0, .ref a0), (1, .ref a1), (2, .int x2), (3, .ref a3), (6, .int x6)] dX8_byPassages_40 (by decide) rfl ?_
      refine pv_iinc (v := (x6 + (1 : Int32))) C 5 [(6, .int (x6 + (1 : Int32))), (5, .int i19), (0, .ref a0), (1, .ref a1), (2, .int x2), (3, .ref a3)] dX8_byPassages_42 rfl rfl (by decide) rfl ?_
      refine pv_goto (tgt := 17) C dX8_byPassages_45 (by decide) ?_
      refine pv_sub [2, 3, 4, 5, 1, 0] rfl ?_
      exact ih _ _ _ _ _ _ _ k0_ k1_ k3_ h
set_option maxHeartbeats 4000000 in
set_option maxRecDepth 100000 in
theorem r_X8_byPassages {l : Launch} {D : va_G} {y : pq_Y} {G : pq_G} (W0 : pq_WT G) {S : pq_N} {a0 : Nat} {a1 : Nat} {x2 : Int32} {a3 : Nat} (k0_ : pq_ok G 8 a0) (k1_ : pq_ok G 4 a1) (k3_ : pq_ok G 4 a3) {r : Int32} {S1 : pq_N} (h : F_X8_byPassages G S a0 a1 x2 a3 = some (r, S1)) (sz : Nat) : Met l yX8_byPassages wsX8_byPassages ({ frames := 3, cells := 0, slots := 0, locals := 81 } : Room) (pq_P D y G S sz [.ref a0, .ref a1, .int x2, .ref a3]) (pq_Qi D y G sz r S1) 0 0 (pq_A G sz) := by
  refine pq_enter RX8 7 (by decide) rfl rfl rfl ?_
  intro p e s m below meth c C hsz hr hlk
  subst hsz
  unfold F_X8_byPassages at h
  refine pv_sub (lo1 := [(0, .ref a0), (1, .ref a1), (2, .int x2), (3, .ref a3)]) [0, 1, 2, 3] rfl ?_
  refine pv_aload_n C 1 dX8_byPassages_0 rfl rfl ?_
  have k11 := pq_wt (k := 3) W0 k1_ rfl
  refine pv_getrN (T := TX4) (N := 8) C 3 inu_X8_byPassages_4 rfl (by decide) (by decide) (List.mem_of_getElem? (i := 11) rfl) rfl k1_ k11.1 dX8_byPassages_1 ?_
  refine pv_iload_n C 2 dX8_byPassages_4 rfl rfl ?_
  obtain ⟨v12, S13, e14, h⟩ := pq_bs h
  refine pv_calliV C (ci := 7) rfl (by decide) k11.2 [.int x2] (fun sz => r_X7_number W0 k11.2 e14 sz) (cwV 1 C.1.2.2.2.2 gX8_byPassages_X7_number rfl rfl rfl (by decide +kernel) ⟨Nat.le_of_ble_eq_true rfl, Nat.le_of_ble_eq_true rfl⟩) rfl rfl (Nat.le_of_ble_eq_true rfl) dX8_byPassages_5 ⟨Nat.le_of_ble_eq_true rfl, Nat.le_of_ble_eq_true rfl⟩ ?_
  refine pv_istore C [(4, .int v12), (0, .ref a0), (1, .ref a1), (2, .int x2), (3, .ref a3)] dX8_byPassages_8 (by decide) rfl ?_
  refine pv_iload C 0 dX8_byPassages_10 rfl ?_
  refine pv_istore C [(5, .int v12), (4, .int v12), (0, .ref a0), (1, .ref a1), (2, .int x2), (3, .ref a3)] dX8_byPassages_12 (by decide) rfl ?_
  refine pv_iconst (v := 0) C dX8_byPassages_14 (by decide) ?_
  refine pv_istore C [(6, .int (0 : Int32)), (5, .int v12), (4, .int v12), (0, .ref a0), (1, .ref a1), (2, .int x2), (3, .ref a3)] dX8_byPassages_15 (by decide) rfl ?_
  refine pv_sub [3, 4, 5, 6, 1, 0] rfl ?_
  exact r_X8_byPassages_b17 W0 C hr hlk pq_fuel _ _ _ _ _ _ _ k0_ k1_ k3_ h
def F_X5_findByPassages (G : pq_G) (S : pq_N) (a0 : Nat) (a1 : Nat) (x2 : Int32) (x3 : Int32) : Option (Int32 × pq_N) := (pq_bd (F_X9_at G S a1 x2) fun v11 S12 => (pq_bd (F_X7_number G S12 (pq_r G v11 1) x3) fun v16 S17 => (pq_bd (F_X9_at G S17 a1 v16) fun v19 S20 => (pq_bd (F_X8_byPassages G S20 (pq_r G a0 0) v11 x3 v19) fun v24 S25 => some (v24, S25)))))
theorem inu_X5_findByPassages_4 : ∀ w ∈ u_ws RX4 TX4 8, w ∈ wsX5_findByPassages := pq_inu 42 rfl
theorem inu_X5_findByPassages_5 : ∀ w ∈ u_ws RX5 TX5 3, w ∈ wsX5_findByPassages := pq_inu 50 rfl
set_option maxHeartbeats 4000000 in
set_option maxRecDepth 100000 in
theorem r_X5_findByPassages {l : Launch} {D : va_G} {y : pq_Y} {G : pq_G} (W0 : pq_WT G) {S : pq_N} {a0 : Nat} {a1 : Nat} {x2 : Int32} {x3 : Int32} (k0_ : pq_ok G 5 a0) (k1_ : pq_ok G 9 a1) {r : Int32} {S1 : pq_N} (h : F_X5_findByPassages G S a0 a1 x2 x3 = some (r, S1)) (sz : Nat) : Met l yX5_findByPassages wsX5_findByPassages ({ frames := 4, cells := 0, slots := 0, locals := 107 } : Room) (pq_P D y G S sz [.ref a0, .ref a1, .int x2, .int x3]) (pq_Qi D y G sz r S1) 0 0 (pq_A G sz) := by
  refine pq_enter RX5 6 (by decide) rfl rfl rfl ?_
  intro p e s m below meth c C hsz hr hlk
  subst hsz
  unfold F_X5_findByPassages at h
  refine pv_sub (lo1 := [(0, .ref a0), (1, .ref a1), (2, .int x2), (3, .int x3)]) [0, 1, 2, 3] rfl ?_
  refine pv_aload_n C 1 dX5_findByPassages_0 rfl rfl ?_
  refine pv_iload_n C 2 dX5_findByPassages_1 rfl rfl ?_
  obtain ⟨v11, S12, e13, h⟩ := pq_bs h
  have k14 := o_X9_at W0 k1_ e13
  refine pv_callrV C (ci := 9) rfl (by decide) k1_ [.int x2] (fun sz => r_X9_at W0 k1_ e13 sz) (cwV 1 C.1.2.2.2.2 gX5_findByPassages_X9_at rfl rfl rfl (by decide +kernel) ⟨Nat.le_of_ble_eq_true rfl, Nat.le_of_ble_eq_true rfl⟩) rfl rfl (Nat.le_of_ble_eq_true rfl) dX5_findByPassages_2 ⟨Nat.le_of_ble_eq_true rfl, Nat.le_of_ble_eq_true rfl⟩ ?_
  refine pv_astore C [(4, .ref v11), (0, .ref a0), (1, .ref a1), (2, .int x2), (3, .int x3)] dX5_findByPassages_5 (by decide) rfl ?_
  refine pv_aload_n C 2 dX5_findByPassages_7 rfl rfl ?_
  refine pv_aload C 0 dX5_findByPassages_8 rfl ?_
  have k15 := pq_wt (k := 1) W0 k14 rfl
  refine pv_getrN (T := TX4) (N := 8) C 1 inu_X5_findByPassages_4 rfl (by decide) (by decide) (List.mem_of_getElem? (i := 4) rfl) rfl k14 k15.1 dX5_findByPassages_10 ?_
  refine pv_iload_n C 4 dX5_findByPassages_13 rfl rfl ?_
  obtain ⟨v16, S17, e18, h⟩ := pq_bs h
  refine pv_calliV C (ci := 7) rfl (by decide) k15.2 [.int x3] (fun sz => r_X7_number W0 k15.2 e18 sz) (cwV 1 C.1.2.2.2.2 gX5_findByPassages_X7_number rfl rfl rfl (by decide +kernel) ⟨Nat.le_of_ble_eq_true rfl, Nat.le_of_ble_eq_true rfl⟩) rfl rfl (Nat.le_of_ble_eq_true rfl) dX5_findByPassages_14 ⟨Nat.le_of_ble_eq_true rfl, Nat.le_of_ble_eq_true rfl⟩ ?_
  obtain ⟨v19, S20, e21, h⟩ := pq_bs h
  have k22 := o_X9_at W0 k1_ e21
  refine pv_callrV C (ci := 9) rfl (by decide) k1_ [.int v16] (fun sz => r_X9_at W0 k1_ e21 sz) (cwV 1 C.1.2.2.2.2 gX5_findByPassages_X9_at rfl rfl rfl (by decide +kernel) ⟨Nat.le_of_ble_eq_true rfl, Nat.le_of_ble_eq_true rfl⟩) rfl rfl (Nat.le_of_ble_eq_true rfl) dX5_findByPassages_17 ⟨Nat.le_of_ble_eq_true rfl, Nat.le_of_ble_eq_true rfl⟩ ?_
  refine pv_astore C [(5, .ref v19), (4, .ref v11), (0, .ref a0), (1, .ref a1), (2, .int x2), (3, .int x3)] dX5_findByPassages_20 (by decide) rfl ?_
  refine pv_aload_n C 2 dX5_findByPassages_22 rfl rfl ?_
  have k23 := pq_wt (k := 0) W0 k0_ rfl
  refine pv_getr (T := TX5) (N := 3) C 0 inu_X5_findByPassages_5 rfl (by decide) (by decide) (List.mem_of_getElem? (i := 1) rfl) rfl k0_ k23.1 dX5_findByPassages_23 ?_
  refine pv_aload C 1 dX5_findByPassages_26 rfl ?_
  refine pv_iload_n C 5 dX5_findByPassages_28 rfl rfl ?_
  refine pv_aload C 0 dX5_findByPassages_29 rfl ?_
  obtain ⟨v24, S25, e26, h⟩ := pq_bs h
  refine pv_calliV C (ci := 8) rfl (by decide) k23.2 [.ref v11, .int x3, .ref v19] (fun sz => r_X8_byPassages W0 k23.2 k14 k22 e26 sz) (cwV 3 C.1.2.2.2.2 gX5_findByPassages_X8_byPassages rfl rfl rfl (by decide +kernel) ⟨Nat.le_of_ble_eq_true rfl, Nat.le_of_ble_eq_true rfl⟩) rfl rfl (Nat.le_of_ble_eq_true rfl) dX5_findByPassages_31 ⟨Nat.le_of_ble_eq_true rfl, Nat.le_of_ble_eq_true rfl⟩ ?_
  exact pv_iret C hr hlk h dX5_findByPassages_34
def F_X5_isRoomFor (G : pq_G) (S : pq_N) (a0 : Nat) (a1 : Nat) (x2 : Int32) (x3 : Int32) : Option (Int32 × pq_N) := (pq_bd (F_X9_at G S a1 x2) fun v11 S12 => (pq_bd (F_X4_growth G S12 v11 x3 (S12.1 (pq_r G a0 0) 3)) fun v16 S17 => (if (60 : Int32) < ((S12.1 v11 6) + v16) then some ((0 : Int32), S17) else some ((1 : Int32), S17))))
theorem inu_X5_isRoomFor_4 : ∀ w ∈ u_ws RX4 TX4 8, w ∈ wsX5_isRoomFor := pq_inu 21 rfl
theorem inu_X5_isRoomFor_5 : ∀ w ∈ u_ws RX5 TX5 3, w ∈ wsX5_isRoomFor := pq_inu 29 rfl
theorem inu_X5_isRoomFor_8 : ∀ w ∈ u_ws RX8 TX8 4, w ∈ wsX5_isRoomFor := pq_inu 32 rfl
set_option maxHeartbeats 4000000 in
set_option maxRecDepth 100000 in
theorem r_X5_isRoomFor {l : Launch} {D : va_G} {y : pq_Y} {G : pq_G} (W0 : pq_WT G) {S : pq_N} {a0 : Nat} {a1 : Nat} {x2 : Int32} {x3 : Int32} (k0_ : pq_ok G 5 a0) (k1_ : pq_ok G 9 a1) {r : Int32} {S1 : pq_N} (h : F_X5_isRoomFor G S a0 a1 x2 x3 = some (r, S1)) (sz : Nat) : Met l yX5_isRoomFor wsX5_isRoomFor ({ frames := 2, cells := 0, slots := 0, locals := 43 } : Room) (pq_P D y G S sz [.ref a0, .ref a1, .int x2, .int x3]) (pq_Qi D y G sz r S1) 0 0 (pq_A G sz) := by
  refine pq_enter RX5 5 (by decide) rfl rfl rfl ?_
  intro p e s m below meth c C hsz hr hlk
  subst hsz
  unfold F_X5_isRoomFor at h
  refine pv_sub (lo1 := [(0, .ref a0), (1, .ref a1), (2, .int x2), (3, .int x3)]) [0, 1, 2, 3] rfl ?_
  refine pv_aload_n C 1 dX5_isRoomFor_0 rfl rfl ?_
  refine pv_iload_n C 2 dX5_isRoomFor_1 rfl rfl ?_
  obtain ⟨v11, S12, e13, h⟩ := pq_bs h
  have k14 := o_X9_at W0 k1_ e13
  refine pv_callrV C (ci := 9) rfl (by decide) k1_ [.int x2] (fun sz => r_X9_at W0 k1_ e13 sz) (cwV 1 C.1.2.2.2.2 gX5_isRoomFor_X9_at rfl rfl rfl (by decide +kernel) ⟨Nat.le_of_ble_eq_true rfl, Nat.le_of_ble_eq_true rfl⟩) rfl rfl (Nat.le_of_ble_eq_true rfl) dX5_isRoomFor_2 ⟨Nat.le_of_ble_eq_true rfl, Nat.le_of_ble_eq_true rfl⟩ ?_
  refine pv_astore C [(4, .ref v11), (0, .ref a0), (1, .ref a1), (2, .int x2), (3, .int x3)] dX5_isRoomFor_5 (by decide) rfl ?_
  refine pv_aload C 0 dX5_isRoomFor_7 rfl ?_
  refine pv_getiN (T := TX4) (N := 8) C 6 inu_X5_isRoomFor_4 rfl (by decide) (by decide) (List.mem_of_getElem? (i := 21) rfl) rfl k14 dX5_isRoomFor_9 ?_
  refine pv_aload C 0 dX5_isRoomFor_12 rfl ?_
  refine pv_iload_n C 4 dX5_isRoomFor_14 rfl rfl ?_
  refine pv_aload_n C 1 dX5_isRoomFor_15 rfl rfl ?_
  have k15 := pq_wt (k := 0) W0 k0_ rfl
  refine pv_getr (T := TX5) (N := 3) C 0 inu_X5_isRoomFor_5 rfl (by decide) (by decide) (List.mem_of_getElem? (i := 1) rfl) rfl k0_ k15.1 dX5_isRoomFor_16 ?_
  refine pv_getiN (T := TX8) (N := 4) C 3 inu_X5_isRoomFor_8 rfl (by decide) (by decide) (List.mem_of_getElem? (i := 43) rfl) rfl k15.2 dX5_isRoomFor_19 ?_
  obtain ⟨v16, S17, e18, h⟩ := pq_bs h
  refine pv_calliV C (ci := 4) rfl (by decide) k14 [.int x3, .int (S12.1 (pq_r G a0 0) 3)] (fun sz => r_X4_growth W0 k14 e18 sz) (cwV 2 C.1.2.2.2.2 gX5_isRoomFor_X4_growth rfl rfl rfl (by decide +kernel) ⟨Nat.le_of_ble_eq_true rfl, Nat.le_of_ble_eq_true rfl⟩) rfl rfl (Nat.le_of_ble_eq_true rfl) dX5_isRoomFor_22 ⟨Nat.le_of_ble_eq_true rfl, Nat.le_of_ble_eq_true rfl⟩ ?_
  refine pv_iadd C dX5_isRoomFor_25 ?_
  refine pv_bipush (v := 60) C dX5_isRoomFor_26 (by decide) ?_
  refine pv_icmp_gt (tgt := 35) C dX5_isRoomFor_28 (by decide) (fun c19 => ?_) (fun c19 => ?_)
  · have h := pq_it c19 h
    refine pv_iconst (v := 0) C dX5_isRoomFor_35 (by decide) ?_
    exact pv_zret C hr rfl hlk h dX5_isRoomFor_36
  · have h := pq_if c19 h
    refine pv_iconst (v := 1) C dX5_isRoomFor_31 (by decide) ?_
    refine pv_goto (tgt := 36) C dX5_isRoomFor_32 (by decide) ?_
    exact pv_zret C hr rfl hlk h dX5_isRoomFor_36
def F_X5_parent (G : pq_G) (S : pq_N) (a0 : Nat) (a1 : Nat) (x2 : Int32) (x3 : Int32) : Option (Int32 × pq_N) := (pq_bd (F_X5_find G S a0 a1 x2 x3) fun v11 S12 => (pq_bd (F_X9_at G S12 a1 x2) fun v14 S15 => (pq_bd (F_X7_number G S15 (pq_r G v14 1) x3) fun v19 S20 => (pq_bd (F_X9_at G S20 a1 v19) fun v22 S23 => (pq_bd (F_X4_quotationAround G S23 v22 (S23.1 (pq_r G a0 0) 2) (S23.1 (pq_r G a0 0) 3)) fun v28 S29 => some (v28, S29))))))
theorem inu_X5_parent_4 : ∀ w ∈ u_ws RX4 TX4 8, w ∈ wsX5_parent := pq_inu 63 rfl
theorem inu_X5_parent_5 : ∀ w ∈ u_ws RX5 TX5 3, w ∈ wsX5_parent := pq_inu 71 rfl
theorem inu_X5_parent_8 : ∀ w ∈ u_ws RX8 TX8 4, w ∈ wsX5_parent := pq_inu 74 rfl
set_option maxHeartbeats 4000000 in
set_option maxRecDepth 100000 in
theorem r_X5_parent {l : Launch} {D : va_G} {y : pq_Y} {G : pq_G} (W0 : pq_WT G) {S : pq_N} {a0 : Nat} {a1 : Nat} {x2 : Int32} {x3 : Int32} (k0_ : pq_ok G 5 a0) (k1_ : pq_ok G 9 a1) {r : Int32} {S1 : pq_N} (h : F_X5_parent G S a0 a1 x2 x3 = some (r, S1)) (sz : Nat) : Met l yX5_parent wsX5_parent ({ frames := 4, cells := 0, slots := 0, locals := 103 } : Room) (pq_P D y G S sz [.ref a0, .ref a1, .int x2, .int x3]) (pq_Qi D y G sz r S1) 0 0 (pq_A G sz) := by
  refine pq_enter RX5 5 (by decide) rfl rfl rfl ?_
  intro p e s m below meth c C hsz hr hlk
  subst hsz
  unfold F_X5_parent at h
  refine pv_sub (lo1 := [(0, .ref a0), (1, .ref a1), (2, .int x2), (3, .int x3)]) [0, 1, 2, 3] rfl ?_
  refine pv_aload_n C 0 dX5_parent_0 rfl rfl ?_
  refine pv_aload_n C 1 dX5_parent_1 rfl rfl ?_
  refine pv_iload_n C 2 dX5_parent_2 rfl rfl ?_
  refine pv_iload_n C 3 dX5_parent_3 rfl rfl ?_
  obtain ⟨v11, S12, e13, h⟩ := pq_bs h
  refine pv_calliV C (ci := 5) rfl (by decide) k0_ [.ref a1, .int x2, .int x3] (fun sz => r_X5_find W0 k0_ k1_ e13 sz) (cwV 3 C.1.2.2.2.2 gX5_parent_X5_find rfl rfl rfl (by decide +kernel) ⟨Nat.le_of_ble_eq_true rfl, Nat.le_of_ble_eq_true rfl⟩) rfl rfl (Nat.le_of_ble_eq_true rfl) dX5_parent_4 ⟨Nat.le_of_ble_eq_true rfl, Nat.le_of_ble_eq_true rfl⟩ ?_
  refine pv_pop C dX5_parent_7 rfl ?_
  refine pv_aload_n C 1 dX5_parent_8 rfl rfl ?_
  refine pv_aload_n C 1 dX5_parent_9 rfl rfl ?_
  refine pv_iload_n C 2 dX5_parent_10 rfl rfl ?_
  obtain ⟨v14, S15, e16, h⟩ := pq_bs h
  have k17 := o_X9_at W0 k1_ e16
  refine pv_callrV C (ci := 9) rfl (by decide) k1_ [.int x2] (fun sz => r_X9_at W0 k1_ e16 sz) (cwV 1 C.1.2.2.2.2 gX5_parent_X9_at rfl rfl rfl (by decide +kernel) ⟨Nat.le_of_ble_eq_true rfl, Nat.le_of_ble_eq_true rfl⟩) rfl rfl (Nat.le_of_ble_eq_true rfl) dX5_parent_11 ⟨Nat.le_of_ble_eq_true rfl, Nat.le_of_ble_eq_true rfl⟩ ?_
  have k18 := pq_wt (k := 1) W0 k17 rfl
  refine pv_getrN (T := TX4) (N := 8) C 1 inu_X5_parent_4 rfl (by decide) (by decide) (List.mem_of_getElem? (i := 4) rfl) rfl k17 k18.1 dX5_parent_14 ?_
  refine pv_iload_n C 3 dX5_parent_17 rfl rfl ?_
  obtain ⟨v19, S20, e21, h⟩ := pq_bs h
  refine pv_calliV C (ci := 7) rfl (by decide) k18.2 [.int x3] (fun sz => r_X7_number W0 k18.2 e21 sz) (cwV 1 C.1.2.2.2.2 gX5_parent_X7_number rfl rfl rfl (by decide +kernel) ⟨Nat.le_of_ble_eq_true rfl, Nat.le_of_ble_eq_true rfl⟩) rfl rfl (Nat.le_of_ble_eq_true rfl) dX5_parent_18 ⟨Nat.le_of_ble_eq_true rfl, Nat.le_of_ble_eq_true rfl⟩ ?_
  obtain ⟨v22, S23, e24, h⟩ := pq_bs h
  have k25 := o_X9_at W0 k1_ e24
  refine pv_callrV C (ci := 9) rfl (by decide) k1_ [.int v19] (fun sz => r_X9_at W0 k1_ e24 sz) (cwV 1 C.1.2.2.2.2 gX5_parent_X9_at rfl rfl rfl (by decide +kernel) ⟨Nat.le_of_ble_eq_true rfl, Nat.le_of_ble_eq_true rfl⟩) rfl rfl (Nat.le_of_ble_eq_true rfl) dX5_parent_21 ⟨Nat.le_of_ble_eq_true rfl, Nat.le_of_ble_eq_true rfl⟩ ?_
  refine pv_astore C [(4, .ref v22), (0, .ref a0), (1, .ref a1), (2, .int x2), (3, .int x3)] dX5_parent_24 (by decide) rfl ?_
  refine pv_aload C 0 dX5_parent_26 rfl ?_
  refine pv_aload_n C 1 dX5_parent_28 rfl rfl ?_
  have k26 := pq_wt (k := 0) W0 k0_ rfl
  refine pv_getr (T := TX5) (N := 3) C 0 inu_X5_parent_5 rfl (by decide) (by decide) (List.mem_of_getElem? (i := 1) rfl) rfl k0_ k26.1 dX5_parent_29 ?_
  refine pv_getiN (T := TX8) (N := 4) C 2 inu_X5_parent_8 rfl (by decide) (by decide) (List.mem_of_getElem? (i := 41) rfl) rfl k26.2 dX5_parent_32 ?_
  refine pv_aload_n C 1 dX5_parent_35 rfl rfl ?_
  have k27 := pq_wt (k := 0) W0 k0_ rfl
  refine pv_getr (T := TX5) (N := 3) C 0 inu_X5_parent_5 rfl (by decide) (by decide) (List.mem_of_getElem? (i := 1) rfl) rfl k0_ k27.1 dX5_parent_36 ?_
  refine pv_getiN (T := TX8) (N := 4) C 3 inu_X5_parent_8 rfl (by decide) (by decide) (List.mem_of_getElem? (i := 43) rfl) rfl k27.2 dX5_parent_39 ?_
  obtain ⟨v28, S29, e30, h⟩ := pq_bs h
  refine pv_calliV C (ci := 4) rfl (by decide) k25 [.int (S23.1 (pq_r G a0 0) 2), .int (S23.1 (pq_r G a0 0) 3)] (fun sz => r_X4_quotationAround W0 k25 e30 sz) (cwV 2 C.1.2.2.2.2 gX5_parent_X4_quotationAround rfl rfl rfl (by decide +kernel) ⟨Nat.le_of_ble_eq_true rfl, Nat.le_of_ble_eq_true rfl⟩) rfl rfl (Nat.le_of_ble_eq_true rfl) dX5_parent_42 ⟨Nat.le_of_ble_eq_true rfl, Nat.le_of_ble_eq_true rfl⟩ ?_
  exact pv_iret C hr hlk h dX5_parent_45
def F_X5_putRight (G : pq_G) (S : pq_N) (a0 : Nat) (a1 : Nat) (x2 : Int32) (x3 : Int32) : Option (Unit × pq_N) := (pq_bd (F_X9_at G S a1 x2) fun v11 S12 => (pq_bd (F_X7_number G S12 (pq_r G v11 1) x3) fun v16 S17 => (pq_bd (F_X9_at G S17 a1 v16) fun v19 S20 => (pq_bd (F_X4_replace G S20 v11 x3 v19 (S20.1 (pq_r G a0 0) 2) (S20.1 (pq_r G a0 0) 3)) fun _ S26 => some ((), S26)))))
theorem inu_X5_putRight_4 : ∀ w ∈ u_ws RX4 TX4 8, w ∈ wsX5_putRight := pq_inu 46 rfl
theorem inu_X5_putRight_5 : ∀ w ∈ u_ws RX5 TX5 3, w ∈ wsX5_putRight := pq_inu 54 rfl
theorem inu_X5_putRight_8 : ∀ w ∈ u_ws RX8 TX8 4, w ∈ wsX5_putRight := pq_inu 57 rfl
set_option maxHeartbeats 4000000 in
set_option maxRecDepth 100000 in
theorem r_X5_putRight {l : Launch} {D : va_G} {y : pq_Y} {G : pq_G} (W0 : pq_WT G) {S : pq_N} {a0 : Nat} {a1 : Nat} {x2 : Int32} {x3 : Int32} (k0_ : pq_ok G 5 a0) (k1_ : pq_ok G 9 a1) {S1 : pq_N} (h : F_X5_putRight G S a0 a1 x2 x3 = some ((), S1)) (sz : Nat) : Met l yX5_putRight wsX5_putRight ({ frames := 3, cells := 0, slots := 0, locals := 77 } : Room) (pq_P D y G S sz [.ref a0, .ref a1, .int x2, .int x3]) (pq_Qv D y G sz S1) 0 0 (pq_A G sz) := by
  refine pq_enter RX5 6 (by decide) rfl rfl rfl ?_
  intro p e s m below meth c C hsz hr hlk
  subst hsz
  unfold F_X5_putRight at h
  refine pv_sub (lo1 := [(0, .ref a0), (1, .ref a1), (2, .int x2), (3, .int x3)]) [0, 1, 2, 3] rfl ?_
  refine pv_aload_n C 1 dX5_putRight_0 rfl rfl ?_
  refine pv_iload_n C 2 dX5_putRight_1 rfl rfl ?_
  obtain ⟨v11, S12, e13, h⟩ := pq_bs h
  have k14 := o_X9_at W0 k1_ e13
  refine pv_callrV C (ci := 9) rfl (by decide) k1_ [.int x2] (fun sz => r_X9_at W0 k1_ e13 sz) (cwV 1 C.1.2.2.2.2 gX5_putRight_X9_at rfl rfl rfl (by decide +kernel) ⟨Nat.le_of_ble_eq_true rfl, Nat.le_of_ble_eq_true rfl⟩) rfl rfl (Nat.le_of_ble_eq_true rfl) dX5_putRight_2 ⟨Nat.le_of_ble_eq_true rfl, Nat.le_of_ble_eq_true rfl⟩ ?_
  refine pv_astore C [(4, .ref v11), (0, .ref a0), (1, .ref a1), (2, .int x2), (3, .int x3)] dX5_putRight_5 (by decide) rfl ?_
  refine pv_aload_n C 2 dX5_putRight_7 rfl rfl ?_
  refine pv_aload C 0 dX5_putRight_8 rfl ?_
  have k15 := pq_wt (k := 1) W0 k14 rfl
  refine pv_getrN (T := TX4) (N := 8) C 1 inu_X5_putRight_4 rfl (by decide) (by decide) (List.mem_of_getElem? (i := 4) rfl) rfl k14 k15.1 dX5_putRight_10 ?_
  refine pv_iload_n C 4 dX5_putRight_13 rfl rfl ?_
  obtain ⟨v16, S17, e18, h⟩ := pq_bs h
  refine pv_calliV C (ci := 7) rfl (by decide) k15.2 [.int x3] (fun sz => r_X7_number W0 k15.2 e18 sz) (cwV 1 C.1.2.2.2.2 gX5_putRight_X7_number rfl rfl rfl (by decide +kernel) ⟨Nat.le_of_ble_eq_true rfl, Nat.le_of_ble_eq_true rfl⟩) rfl rfl (Nat.le_of_ble_eq_true rfl) dX5_putRight_14 ⟨Nat.le_of_ble_eq_true rfl, Nat.le_of_ble_eq_true rfl⟩ ?_
  obtain ⟨v19, S20, e21, h⟩ := pq_bs h
  have k22 := o_X9_at W0 k1_ e21
  refine pv_callrV C (ci := 9) rfl (by decide) k1_ [.int v16] (fun sz => r_X9_at W0 k1_ e21 sz) (cwV 1 C.1.2.2.2.2 gX5_putRight_X9_at rfl rfl rfl (by decide +kernel) ⟨Nat.le_of_ble_eq_true rfl, Nat.le_of_ble_eq_true rfl⟩) rfl rfl (Nat.le_of_ble_eq_true rfl) dX5_putRight_17 ⟨Nat.le_of_ble_eq_true rfl, Nat.le_of_ble_eq_true rfl⟩ ?_
  refine pv_astore C [(5, .ref v19), (4, .ref v11), (0, .ref a0), (1, .ref a1), (2, .int x2), (3, .int x3)] dX5_putRight_20 (by decide) rfl ?_
  refine pv_aload C 1 dX5_putRight_22 rfl ?_
  refine pv_iload_n C 5 dX5_putRight_24 rfl rfl ?_
  refine pv_aload C 0 dX5_putRight_25 rfl ?_
  refine pv_aload_n C 2 dX5_putRight_27 rfl rfl ?_
  have k23 := pq_wt (k := 0) W0 k0_ rfl
  refine pv_getr (T := TX5) (N := 3) C 0 inu_X5_putRight_5 rfl (by decide) (by decide) (List.mem_of_getElem? (i := 1) rfl) rfl k0_ k23.1 dX5_putRight_28 ?_
  refine pv_getiN (T := TX8) (N := 4) C 2 inu_X5_putRight_8 rfl (by decide) (by decide) (List.mem_of_getElem? (i := 41) rfl) rfl k23.2 dX5_putRight_31 ?_
  refine pv_aload_n C 2 dX5_putRight_34 rfl rfl ?_
  have k24 := pq_wt (k := 0) W0 k0_ rfl
  refine pv_getr (T := TX5) (N := 3) C 0 inu_X5_putRight_5 rfl (by decide) (by decide) (List.mem_of_getElem? (i := 1) rfl) rfl k0_ k24.1 dX5_putRight_35 ?_
  refine pv_getiN (T := TX8) (N := 4) C 3 inu_X5_putRight_8 rfl (by decide) (by decide) (List.mem_of_getElem? (i := 43) rfl) rfl k24.2 dX5_putRight_38 ?_
  obtain ⟨⟨⟩, S26, e27, h⟩ := pq_bs h
  refine pv_callvV C (ci := 4) rfl (by decide) k14 [.int x3, .ref v19, .int (S20.1 (pq_r G a0 0) 2), .int (S20.1 (pq_r G a0 0) 3)] (fun sz => r_X4_replace W0 k14 k22 e27 sz) (cwV 4 C.1.2.2.2.2 gX5_putRight_X4_replace rfl rfl rfl (by decide +kernel) ⟨Nat.le_of_ble_eq_true rfl, Nat.le_of_ble_eq_true rfl⟩) rfl rfl (Nat.le_of_ble_eq_true rfl) dX5_putRight_41 ⟨Nat.le_of_ble_eq_true rfl, Nat.le_of_ble_eq_true rfl⟩ ?_
  exact pv_vret C hr hlk h dX5_putRight_44
def F_X5_putAllRight_b15 (G : pq_G)  : Nat → pq_N → Nat → Nat → Int32 → Int32 → Int32 → Int32 → Option (Int32 × pq_N)
  | 0, _, _, _, _, _, _, _ => none
  | n + 1, S, a0, a1, x2, x3, x4, x5 => (if x3 ≤ x5 then some (x4, S) else (pq_bd (F_X5_find G S a0 a1 x2 x5) fun v16 S17 => (if v16 ≤ (0 : Int32) then (F_X5_putAllRight_b15 G n) S17 a0 a1 x2 x3 x4 (x5 + (1 : Int32)) else (pq_bd (F_X5_isRoomFor G S17 a0 a1 x2 x5) fun v20 S21 => (if v20 = (0 : Int32) then (F_X5_putAllRight_b15 G n) S21 a0 a1 x2 x3 x4 (x5 + (1 : Int32)) else (pq_bd (F_X5_putRight G S21 a0 a1 x2 x5) fun _ S25 => (F_X5_putAllRight_b15 G n) S25 a0 a1 x2 x3 (x4 + (1 : Int32)) (x5 + (1 : Int32))))))))
def F_X5_putAllRight (G : pq_G) (S : pq_N) (a0 : Nat) (a1 : Nat) (x2 : Int32) : Option (Int32 × pq_N) := (pq_bd (F_X9_at G S a1 x2) fun v11 S12 => F_X5_putAllRight_b15 G pq_fuel S12 a0 a1 x2 (S12.1 v11 7) (0 : Int32) (0 : Int32))
theorem inu_X5_putAllRight_4 : ∀ w ∈ u_ws RX4 TX4 8, w ∈ wsX5_putAllRight := pq_inu 84 rfl
set_option maxHeartbeats 4000000 in
set_option maxRecDepth 100000 in
theorem r_X5_putAllRight_b15 {p : Program} {l : Launch} {e : Env} {s : State} {m : MethodId} {av : Array Value} {below : List Frame} {meth : Method} {c : Code} {D : va_G} {y : pq_Y} {G : pq_G} {r : Int32} {S1 : pq_N} (W0 : pq_WT G) (C : pq_C p s m av c D y RX5 wsX5_putAllRight cX5_putAllRight 6) (hr : meth.sig.returnType = (some .int)) (hlk : meth.locks = false) (n : Nat) : ∀ (S : pq_N) (a0 : Nat) (a1 : Nat) (x2 : Int32) (x3 : Int32) (x4 : Int32) (x5 : Int32), pq_ok G 5 a0 → pq_ok G 9 a1 → F_X5_putAllRight_b15 G n S a0 a1 x2 x3 x4 x5 = some (r, S1) → pq_V p l e (headSpec wsX5_putAllRight ({ frames := 4, cells := 0, slots := 0, locals := 103 } : Room)).room s m av below meth c 0 0 (MQ below (pq_Qi D y G s.heap.size r S1) av s 0 0 (pq_A G s.heap.size)) D y 6 (pq_A G s.heap.size) (fun _ => True) G S 15 [(0, .ref a0), (1, .ref a1), (2, .int x2), (3, .int x3), (4, .int x4), (5, .int x5)] [] := by
  induction n with
  | zero =>
    intro S a0 a1 x2 x3 x4 x5 k0_ k1_ h
    rw [F_X5_putAllRight_b15.eq_1] at h; cases h
  | succ n ih =>
    intro S a0 a1 x2 x3 x4 x5 k0_ k1_ h
    rw [F_X5_putAllRight_b15.eq_2] at h
    refine pv_iload C 5 dX5_putAllRight_15 rfl ?_
    refine pv_iload_n C 3 dX5_putAllRight_17 rfl rfl ?_
    refine pv_icmp_ge (tgt := 60) C dX5_putAllRight_18 (by decide) (fun c15 => ?_) (fun c15 => ?_)
    · have h := pq_it c15 h
      refine pv_iload C 4 dX5_putAllRight_60 rfl ?_
      exact pv_iret C hr hlk h dX5_putAllRight_62
    · have h := pq_if c15 h
      refine pv_aload_n C 0 dX5_putAllRight_21 rfl rfl ?_
      refine pv_aload_n C 1 dX5_putAllRight_22 rfl rfl ?_
      refine pv_iload_n C 2 dX5_putAllRight_23 rfl rfl ?_
      refine pv_iload C 5 dX5_putAllRight_24 rfl ?_
      obtain ⟨v16, S17, e18, h⟩ := pq_bs h
      refine pv_calliV C (ci := 5) rfl (by decide) k0_ [.ref a1, .int x2, .int x5] (fun sz => r_X5_find W0 k0_ k1_ e18 sz) (cwV 3 C.1.2.2.2.2 gX5_putAllRight_X5_find rfl rfl rfl (by decide +kernel) ⟨Nat.le_of_ble_eq_true rfl, Nat.le_of_ble_eq_true rfl⟩) rfl rfl (Nat.le_of_ble_eq_true rfl) dX5_putAllRight_26 ⟨Nat.le_of_ble_eq_true rfl, Nat.le_of_ble_eq_true rfl⟩ ?_
      refine pv_if_le (tgt := 54) C dX5_putAllRight_29 (by decide) (fun c19 => ?_) (fun c19 => ?_)
      · have h := pq_it c19 h
        refine pv_iinc (v := (x5 + (1 : Int32))) C 5 [(5, .int (x5 + (1 : Int32))), (0, .ref a0), (1, .ref a1), (2, .int x2), (3, .int x3), (4, .int x4)] dX5_putAllRight_54 rfl rfl (by decide) rfl ?_
        refine pv_goto (tgt := 15) C dX5_putAllRight_57 (by decide) ?_
        refine pv_sub [1, 2, 3, 4, 5, 0] rfl ?_
        exact ih _ _ _ _ _ _ _ k0_ k1_ h
      · have h := pq_if c19 h
        refine pv_aload_n C 0 dX5_putAllRight_32 rfl rfl ?_
        refine pv_aload_n C 1 dX5_putAllRight_33 rfl rfl ?_
        refine pv_iload_n C 2 dX5_putAllRight_34 rfl rfl ?_
        refine pv_iload C 5 dX5_putAllRight_35 rfl ?_
        obtain ⟨v20, S21, e22, h⟩ := pq_bs h
        refine pv_calliV C (ci := 5) rfl (by decide) k0_ [.ref a1, .int x2, .int x5] (fun sz => r_X5_isRoomFor W0 k0_ k1_ e22 sz) (cwV 3 C.1.2.2.2.2 gX5_putAllRight_X5_isRoomFor rfl rfl rfl (by decide +kernel) ⟨Nat.le_of_ble_eq_true rfl, Nat.le_of_ble_eq_true rfl⟩) rfl rfl (Nat.le_of_ble_eq_true rfl) dX5_putAllRight_37 ⟨Nat.le_of_ble_eq_true rfl, Nat.le_of_ble_eq_true rfl⟩ ?_
        refine pv_if_eq (tgt := 54) C dX5_putAllRight_40 (by decide) (fun c23 => ?_) (fun c23 => ?_)
        · have h := pq_it c23 h
          refine pv_iinc (v := (x5 + (1 : Int32))) C 5 [(5, .int (x5 + (1 : Int32))), (0, .ref a0), (1, .ref a1), (2, .int x2), (3, .int x3), (4, .int x4)] dX5_putAllRight_54 rfl rfl (by decide) rfl ?_
          refine pv_goto (tgt := 15) C dX5_putAllRight_57 (by decide) ?_
          refine pv_sub [1, 2, 3, 4, 5, 0] rfl ?_
          exact ih _ _ _ _ _ _ _ k0_ k1_ h
        · have h := pq_if c23 h
          refine pv_aload_n C 0 dX5_putAllRight_43 rfl rfl ?_
          refine pv_aload_n C 1 dX5_putAllRight_44 rfl rfl ?_
          refine pv_iload_n C 2 dX5_putAllRight_45 rfl rfl ?_
          refine pv_iload C 5 dX5_putAllRight_46 rfl ?_
          obtain ⟨⟨⟩, S25, e26, h⟩ := pq_bs h
          refine pv_callvV C (ci := 5) rfl (by decide) k0_ [.ref a1, .int x2, .int x5] (fun sz => r_X5_putRight W0 k0_ k1_ e26 sz) (cwV 3 C.1.2.2.2.2 gX5_putAllRight_X5_putRight rfl rfl rfl (by decide +kernel) ⟨Nat.le_of_ble_eq_true rfl, Nat.le_of_ble_eq_true rfl⟩) rfl rfl (Nat.le_of_ble_eq_true rfl) dX5_putAllRight_48 ⟨Nat.le_of_ble_eq_true rfl, Nat.le_of_ble_eq_true rfl⟩ ?_
          refine pv_iinc (v := (x4 + (1 : Int32))) C 4 [(4, .int (x4 + (1 : Int32))), (0, .ref a0), (1, .ref a1), (2, .int x2), (3, .int x3), (5, .int x5)] dX5_putAllRight_51 rfl rfl (by decide) rfl ?_
          refine pv_iinc (v := (x5 + (1 : Int32))) C 5 [(5, .int (x5 + (1 : Int32))), (4, .int (x4 + (1 : Int32))), (0, .ref a0), (1, .ref a1), (2, .int x2), (3, .int x3)] dX5_putAllRight_54 rfl rfl (by decide) rfl ?_
          refine pv_goto (tgt := 15) C dX5_putAllRight_57 (by decide) ?_
          refine pv_sub [2, 3, 4, 5, 1, 0] rfl ?_
          exact ih _ _ _ _ _ _ _ k0_ k1_ h
set_option maxHeartbeats 4000000 in
set_option maxRecDepth 100000 in
theorem r_X5_putAllRight {l : Launch} {D : va_G} {y : pq_Y} {G : pq_G} (W0 : pq_WT G) {S : pq_N} {a0 : Nat} {a1 : Nat} {x2 : Int32} (k0_ : pq_ok G 5 a0) (k1_ : pq_ok G 9 a1) {r : Int32} {S1 : pq_N} (h : F_X5_putAllRight G S a0 a1 x2 = some (r, S1)) (sz : Nat) : Met l yX5_putAllRight wsX5_putAllRight ({ frames := 4, cells := 0, slots := 0, locals := 103 } : Room) (pq_P D y G S sz [.ref a0, .ref a1, .int x2]) (pq_Qi D y G sz r S1) 0 0 (pq_A G sz) := by
  refine pq_enter RX5 6 (by decide) rfl rfl rfl ?_
  intro p e s m below meth c C hsz hr hlk
  subst hsz
  unfold F_X5_putAllRight at h
  refine pv_sub (lo1 := [(0, .ref a0), (1, .ref a1), (2, .int x2)]) [0, 1, 2] rfl ?_
  refine pv_aload_n C 1 dX5_putAllRight_0 rfl rfl ?_
  refine pv_iload_n C 2 dX5_putAllRight_1 rfl rfl ?_
  obtain ⟨v11, S12, e13, h⟩ := pq_bs h
  have k14 := o_X9_at W0 k1_ e13
  refine pv_callrV C (ci := 9) rfl (by decide) k1_ [.int x2] (fun sz => r_X9_at W0 k1_ e13 sz) (cwV 1 C.1.2.2.2.2 gX5_putAllRight_X9_at rfl rfl rfl (by decide +kernel) ⟨Nat.le_of_ble_eq_true rfl, Nat.le_of_ble_eq_true rfl⟩) rfl rfl (Nat.le_of_ble_eq_true rfl) dX5_putAllRight_2 ⟨Nat.le_of_ble_eq_true rfl, Nat.le_of_ble_eq_true rfl⟩ ?_
  refine pv_getiN (T := TX4) (N := 8) C 7 inu_X5_putAllRight_4 rfl (by decide) (by decide) (List.mem_of_getElem? (i := 25) rfl) rfl k14 dX5_putAllRight_5 ?_
  refine pv_istore_n C [(3, .int (S12.1 v11 7)), (0, .ref a0), (1, .ref a1), (2, .int x2)] dX5_putAllRight_8 rfl (by decide) rfl ?_
  refine pv_iconst (v := 0) C dX5_putAllRight_9 (by decide) ?_
  refine pv_istore C [(4, .int (0 : Int32)), (3, .int (S12.1 v11 7)), (0, .ref a0), (1, .ref a1), (2, .int x2)] dX5_putAllRight_10 (by decide) rfl ?_
  refine pv_iconst (v := 0) C dX5_putAllRight_12 (by decide) ?_
  refine pv_istore C [(5, .int (0 : Int32)), (4, .int (0 : Int32)), (3, .int (S12.1 v11 7)), (0, .ref a0), (1, .ref a1), (2, .int x2)] dX5_putAllRight_13 (by decide) rfl ?_
  refine pv_sub [3, 4, 5, 2, 1, 0] rfl ?_
  exact r_X5_putAllRight_b15 W0 C hr hlk pq_fuel _ _ _ _ _ _ _ k0_ k1_ h
def F_X5_trace_b11 (G : pq_G)  : Nat → pq_N → Nat → Nat → Int32 → Int32 → Option (Unit × pq_N)
  | 0, _, _, _, _, _ => none
  | n + 1, S, a0, a1, x4, x5 => (if x5 = (-1 : Int32) then some ((), S) else (if (20 : Int32) ≤ (S.1 a0 2) then some ((), S) else (pq_bd (F_X9_at G S a1 x4) fun v15 S16 => (pq_bd (F_X7_number G S16 (pq_r G v15 1) x5) fun v20 S21 => (pq_lt (pq_wi S21 a0 1 v20) fun S23 => (pq_bd (F_X5_parent G S23 a0 a1 x4 x5) fun v25 S26 => (pq_lt (pq_wi S26 a0 2 ((S26.1 a0 2) + (1 : Int32))) fun S28 => (F_X5_trace_b11 G n) S28 a0 a1 (S26.1 a0 1) v25)))))))
def F_X5_trace (G : pq_G) (S : pq_N) (a0 : Nat) (a1 : Nat) (x2 : Int32) (x3 : Int32) : Option (Unit × pq_N) := (pq_lt (pq_wi S a0 2 (0 : Int32)) fun S11 => F_X5_trace_b11 G pq_fuel S11 a0 a1 x2 x3)
theorem inu_X5_trace_4 : ∀ w ∈ u_ws RX4 TX4 8, w ∈ wsX5_trace := pq_inu 72 rfl
theorem inu_X5_trace_5 : ∀ w ∈ u_ws RX5 TX5 3, w ∈ wsX5_trace := pq_inu 69 rfl
set_option maxHeartbeats 4000000 in
set_option maxRecDepth 100000 in
theorem r_X5_trace_b11 {p : Program} {l : Launch} {e : Env} {s : State} {m : MethodId} {av : Array Value} {below : List Frame} {meth : Method} {c : Code} {D : va_G} {y : pq_Y} {G : pq_G} {S1 : pq_N} (W0 : pq_WT G) (C : pq_C p s m av c D y RX5 wsX5_trace cX5_trace 6) (hr : meth.sig.returnType = none) (hlk : meth.locks = false) (n : Nat) : ∀ (S : pq_N) (a0 : Nat) (a1 : Nat) (x4 : Int32) (x5 : Int32), pq_ok G 5 a0 → pq_ok G 9 a1 → F_X5_trace_b11 G n S a0 a1 x4 x5 = some ((), S1) → pq_V p l e (headSpec wsX5_trace ({ frames := 5, cells := 0, slots := 0, locals := 127 } : Room)).room s m av below meth c 0 0 (MQ below (pq_Qv D y G s.heap.size S1) av s 0 0 (pq_A G s.heap.size)) D y 6 (pq_A G s.heap.size) (fun _ => True) G S 11 [(0, .ref a0), (1, .ref a1), (4, .int x4), (5, .int x5)] [] := by
  induction n with
  | zero =>
    intro S a0 a1 x4 x5 k0_ k1_ h
    rw [F_X5_trace_b11.eq_1] at h; cases h
  | succ n ih =>
    intro S a0 a1 x4 x5 k0_ k1_ h
    rw [F_X5_trace_b11.eq_2] at h
    refine pv_iload C 3 dX5_trace_11 rfl ?_
    refine pv_iconst (v := -1) C dX5_trace_13 (by decide) ?_
    refine pv_icmp_eq (tgt := 74) C dX5_trace_14 (by decide) (fun c13 => ?_) (fun c13 => ?_)
    · have h := pq_it c13 h
      exact pv_vret C hr hlk h dX5_trace_74
    · have h := pq_if c13 h
      refine pv_aload_n C 0 dX5_trace_17 rfl rfl ?_
      refine pv_geti (T := TX5) (N := 3) C 2 inu_X5_trace_5 rfl (by decide) (by decide) (List.mem_of_getElem? (i := 1) rfl) rfl k0_ dX5_trace_18 ?_
      refine pv_bipush (v := 20) C dX5_trace_21 (by decide) ?_
      refine pv_icmp_ge (tgt := 74) C dX5_trace_23 (by decide) (fun c14 => ?_) (fun c14 => ?_)
      · have h := pq_it c14 h
        exact pv_vret C hr hlk h dX5_trace_74
      · have h := pq_if c14 h
        refine pv_aload_n C 0 dX5_trace_26 rfl rfl ?_
        refine pv_aload_n C 1 dX5_trace_27 rfl rfl ?_
        refine pv_iload C 2 dX5_trace_28 rfl ?_
        obtain ⟨v15, S16, e17, h⟩ := pq_bs h
        have k18 := o_X9_at W0 k1_ e17
        refine pv_callrV C (ci := 9) rfl (by decide) k1_ [.int x4] (fun sz => r_X9_at W0 k1_ e17 sz) (cwV 1 C.1.2.2.2.2 gX5_trace_X9_at rfl rfl rfl (by decide +kernel) ⟨Nat.le_of_ble_eq_true rfl, Nat.le_of_ble_eq_true rfl⟩) rfl rfl (Nat.le_of_ble_eq_true rfl) dX5_trace_30 ⟨Nat.le_of_ble_eq_true rfl, Nat.le_of_ble_eq_true rfl⟩ ?_
        have k19 := pq_wt (k := 1) W0 k18 rfl
        refine pv_getrN (T := TX4) (N := 8) C 1 inu_X5_trace_4 rfl (by decide) (by decide) (List.mem_of_getElem? (i := 4) rfl) rfl k18 k19.1 dX5_trace_33 ?_
        refine pv_iload C 3 dX5_trace_36 rfl ?_
        obtain ⟨v20, S21, e22, h⟩ := pq_bs h
        refine pv_calliV C (ci := 7) rfl (by decide) k19.2 [.int x5] (fun sz => r_X7_number W0 k19.2 e22 sz) (cwV 1 C.1.2.2.2.2 gX5_trace_X7_number rfl rfl rfl (by decide +kernel) ⟨Nat.le_of_ble_eq_true rfl, Nat.le_of_ble_eq_true rfl⟩) rfl rfl (Nat.le_of_ble_eq_true rfl) dX5_trace_38 ⟨Nat.le_of_ble_eq_true rfl, Nat.le_of_ble_eq_true rfl⟩ ?_
        refine pv_put (T := TX5) (N := 3) (ty := .int) C 1 inu_X5_trace_5 rfl (by decide) tyX5 tyX5_ok nmX5 (by decide) (List.mem_of_getElem? (i := 2) rfl) rfl k0_ rfl (by decide +kernel) rfl rfl dX5_trace_41 ?_
        refine pv_nm (fun S23 e24 => ?_)
        have h := pq_ls e24 h
        refine pv_aload_n C 0 dX5_trace_44 rfl rfl ?_
        refine pv_aload_n C 1 dX5_trace_45 rfl rfl ?_
        refine pv_iload C 2 dX5_trace_46 rfl ?_
        refine pv_iload C 3 dX5_trace_48 rfl ?_
        obtain ⟨v25, S26, e27, h⟩ := pq_bs h
        refine pv_calliV C (ci := 5) rfl (by decide) k0_ [.ref a1, .int x4, .int x5] (fun sz => r_X5_parent W0 k0_ k1_ e27 sz) (cwV 3 C.1.2.2.2.2 gX5_trace_X5_parent rfl rfl rfl (by decide +kernel) ⟨Nat.le_of_ble_eq_true rfl, Nat.le_of_ble_eq_true rfl⟩) rfl rfl (Nat.le_of_ble_eq_true rfl) dX5_trace_50 ⟨Nat.le_of_ble_eq_true rfl, Nat.le_of_ble_eq_true rfl⟩ ?_
        refine pv_istore C [(5, .int v25), (0, .ref a0), (1, .ref a1), (4, .int x4)] dX5_trace_53 (by decide) rfl ?_
        refine pv_aload_n C 1 dX5_trace_55 rfl rfl ?_
        refine pv_geti (T := TX5) (N := 3) C 1 inu_X5_trace_5 rfl (by decide) (by decide) (List.mem_of_getElem? (i := 2) rfl) rfl k0_ dX5_trace_56 ?_
        refine pv_istore C [(4, .int (S26.1 a0 1)), (5, .int v25), (0, .ref a0), (1, .ref a1)] dX5_trace_59 (by decide) rfl ?_
        refine pv_aload_n C 2 dX5_trace_61 rfl rfl ?_
        refine pv_dup C dX5_trace_62 rfl ?_
        refine pv_geti (T := TX5) (N := 3) C 2 inu_X5_trace_5 rfl (by decide) (by decide) (List.mem_of_getElem? (i := 1) rfl) rfl k0_ dX5_trace_63 ?_
        refine pv_iconst (v := 1) C dX5_trace_66 (by decide) ?_
        refine pv_iadd C dX5_trace_67 ?_
        refine pv_put (T := TX5) (N := 3) (ty := .int) C 2 inu_X5_trace_5 rfl (by decide) tyX5 tyX5_ok nmX5 (by decide) (List.mem_of_getElem? (i := 1) rfl) rfl k0_ rfl (by decide +kernel) rfl rfl dX5_trace_68 ?_
        refine pv_nm (fun S28 e29 => ?_)
        have h := pq_ls e29 h
        refine pv_goto (tgt := 11) C dX5_trace_71 (by decide) ?_
        refine pv_sub [2, 3, 0, 1] rfl ?_
        exact ih _ _ _ _ _ k0_ k1_ h
set_option maxHeartbeats 4000000 in
set_option maxRecDepth 100000 in
theorem r_X5_trace {l : Launch} {D : va_G} {y : pq_Y} {G : pq_G} (W0 : pq_WT G) {S : pq_N} {a0 : Nat} {a1 : Nat} {x2 : Int32} {x3 : Int32} (k0_ : pq_ok G 5 a0) (k1_ : pq_ok G 9 a1) {S1 : pq_N} (h : F_X5_trace G S a0 a1 x2 x3 = some ((), S1)) (sz : Nat) : Met l yX5_trace wsX5_trace ({ frames := 5, cells := 0, slots := 0, locals := 127 } : Room) (pq_P D y G S sz [.ref a0, .ref a1, .int x2, .int x3]) (pq_Qv D y G sz S1) 0 0 (pq_A G sz) := by
  refine pq_enter RX5 6 (by decide) rfl rfl rfl ?_
  intro p e s m below meth c C hsz hr hlk
  subst hsz
  unfold F_X5_trace at h
  refine pv_sub (lo1 := [(0, .ref a0), (1, .ref a1), (2, .int x2), (3, .int x3)]) [0, 1, 2, 3] rfl ?_
  refine pv_iload_n C 2 dX5_trace_0 rfl rfl ?_
  refine pv_istore C [(4, .int x2), (0, .ref a0), (1, .ref a1), (2, .int x2), (3, .int x3)] dX5_trace_1 (by decide) rfl ?_
  refine pv_iload_n C 4 dX5_trace_3 rfl rfl ?_
  refine pv_istore C [(5, .int x3), (4, .int x2), (0, .ref a0), (1, .ref a1), (2, .int x2), (3, .int x3)] dX5_trace_4 (by decide) rfl ?_
  refine pv_aload_n C 2 dX5_trace_6 rfl rfl ?_
  refine pv_iconst (v := 0) C dX5_trace_7 (by decide) ?_
  refine pv_put (T := TX5) (N := 3) (ty := .int) C 2 inu_X5_trace_5 rfl (by decide) tyX5 tyX5_ok nmX5 (by decide) (List.mem_of_getElem? (i := 1) rfl) rfl k0_ rfl (by decide +kernel) rfl rfl dX5_trace_8 ?_
  refine pv_nm (fun S11 e12 => ?_)
  have h := pq_ls e12 h
  refine pv_sub [2, 3, 1, 0] rfl ?_
  exact r_X5_trace_b11 W0 C hr hlk pq_fuel _ _ _ _ _ k0_ k1_ h
def F_X6_afterFirstDigit (G : pq_G) (S : pq_N) (a0 : Nat) (x1 : Int32) : Option (Int32 × pq_N) := (if x1 < (48 : Int32) then some ((0 : Int32), S) else (if x1 ≤ (57 : Int32) then (pq_bd (F_X4_addQuotation G S (pq_r G a0 0) (x1 - (48 : Int32)) (S.1 a0 4)) fun _ S15 => (if x1 = (49 : Int32) then some ((7 : Int32), S15) else some ((8 : Int32), S15))) else some ((0 : Int32), S)))
theorem inu_X6_afterFirstDigit_6 : ∀ w ∈ u_ws RX6 TX6 5, w ∈ wsX6_afterFirstDigit := pq_inu 19 rfl
set_option maxHeartbeats 4000000 in
set_option maxRecDepth 100000 in
theorem r_X6_afterFirstDigit {l : Launch} {D : va_G} {y : pq_Y} {G : pq_G} (W0 : pq_WT G) {S : pq_N} {a0 : Nat} {x1 : Int32} (k0_ : pq_ok G 6 a0) {r : Int32} {S1 : pq_N} (h : F_X6_afterFirstDigit G S a0 x1 = some (r, S1)) (sz : Nat) : Met l yX6_afterFirstDigit wsX6_afterFirstDigit ({ frames := 2, cells := 0, slots := 0, locals := 45 } : Room) (pq_P D y G S sz [.ref a0, .int x1]) (pq_Qi D y G sz r S1) 0 0 (pq_A G sz) := by
  refine pq_enter RX6 2 (by decide) rfl rfl rfl ?_
  intro p e s m below meth c C hsz hr hlk
  subst hsz
  unfold F_X6_afterFirstDigit at h
  refine pv_sub (lo1 := [(0, .ref a0), (1, .int x1)]) [0, 1] rfl ?_
  refine pv_iload_n C 1 dX6_afterFirstDigit_0 rfl rfl ?_
  refine pv_bipush (v := 48) C dX6_afterFirstDigit_1 (by decide) ?_
  refine pv_icmp_lt (tgt := 12) C dX6_afterFirstDigit_3 (by decide) (fun c11 => ?_) (fun c11 => ?_)
  · have h := pq_it c11 h
    refine pv_iconst (v := 0) C dX6_afterFirstDigit_12 (by decide) ?_
    exact pv_iret C hr hlk h dX6_afterFirstDigit_13
  · have h := pq_if c11 h
    refine pv_iload_n C 1 dX6_afterFirstDigit_6 rfl rfl ?_
    refine pv_bipush (v := 57) C dX6_afterFirstDigit_7 (by decide) ?_
    refine pv_icmp_le (tgt := 14) C dX6_afterFirstDigit_9 (by decide) (fun c12 => ?_) (fun c12 => ?_)
    · have h := pq_it c12 h
      refine pv_aload_n C 0 dX6_afterFirstDigit_14 rfl rfl ?_
      have k13 := pq_wt (k := 0) W0 k0_ rfl
      refine pv_getr (T := TX6) (N := 5) C 0 inu_X6_afterFirstDigit_6 rfl (by decide) (by decide) (List.mem_of_getElem? (i := 1) rfl) rfl k0_ k13.1 dX6_afterFirstDigit_15 ?_
      refine pv_iload_n C 1 dX6_afterFirstDigit_18 rfl rfl ?_
      refine pv_bipush (v := 48) C dX6_afterFirstDigit_19 (by decide) ?_
      refine pv_isub C dX6_afterFirstDigit_21 ?_
      refine pv_aload_n C 0 dX6_afterFirstDigit_22 rfl rfl ?_
      refine pv_geti (T := TX6) (N := 5) C 4 inu_X6_afterFirstDigit_6 rfl (by decide) (by decide) (List.mem_of_getElem? (i := 2) rfl) rfl k0_ dX6_afterFirstDigit_23 ?_
      obtain ⟨⟨⟩, S15, e16, h⟩ := pq_bs h
      refine pv_callvV C (ci := 4) rfl (by decide) k13.2 [.int (x1 - (48 : Int32)), .int (S.1 a0 4)] (fun sz => r_X4_addQuotation W0 k13.2 e16 sz) (cwV 2 C.1.2.2.2.2 gX6_afterFirstDigit_X4_addQuotation rfl rfl rfl (by decide +kernel) ⟨Nat.le_of_ble_eq_true rfl, Nat.le_of_ble_eq_true rfl⟩) rfl rfl (Nat.le_of_ble_eq_true rfl) dX6_afterFirstDigit_26 ⟨Nat.le_of_ble_eq_true rfl, Nat.le_of_ble_eq_true rfl⟩ ?_
      refine pv_iload_n C 1 dX6_afterFirstDigit_29 rfl rfl ?_
      refine pv_bipush (v := 49) C dX6_afterFirstDigit_30 (by decide) ?_
      refine pv_icmp_ne (tgt := 40) C dX6_afterFirstDigit_32 (by decide) (fun c17 => ?_) (fun c17 => ?_)
      · have h := pq_if c17 h
        refine pv_bipush (v := 8) C dX6_afterFirstDigit_40 (by decide) ?_
        exact pv_iret C hr hlk h dX6_afterFirstDigit_42
      · have h := pq_it c17 h
        refine pv_bipush (v := 7) C dX6_afterFirstDigit_35 (by decide) ?_
        refine pv_goto (tgt := 42) C dX6_afterFirstDigit_37 (by decide) ?_
        exact pv_iret C hr hlk h dX6_afterFirstDigit_42
    · have h := pq_if c12 h
      refine pv_iconst (v := 0) C dX6_afterFirstDigit_12 (by decide) ?_
      exact pv_iret C hr hlk h dX6_afterFirstDigit_13
def F_X6_afterOpening (G : pq_G) (S : pq_N) (a0 : Nat) : Option (Int32 × pq_N) := (pq_lt (pq_wi S a0 4 (S.1 (pq_r G a0 0) 6)) fun S12 => some ((3 : Int32), S12))
theorem inu_X6_afterOpening_4 : ∀ w ∈ u_ws RX4 TX4 8, w ∈ wsX6_afterOpening := pq_inu 8 rfl
theorem inu_X6_afterOpening_6 : ∀ w ∈ u_ws RX6 TX6 5, w ∈ wsX6_afterOpening := pq_inu 3 rfl
set_option maxHeartbeats 4000000 in
set_option maxRecDepth 100000 in
theorem r_X6_afterOpening {l : Launch} {D : va_G} {y : pq_Y} {G : pq_G} (W0 : pq_WT G) {S : pq_N} {a0 : Nat} (k0_ : pq_ok G 6 a0) {r : Int32} {S1 : pq_N} (h : F_X6_afterOpening G S a0 = some (r, S1)) (sz : Nat) : Met l yX6_afterOpening wsX6_afterOpening ({ frames := 0, cells := 0, slots := 0, locals := 0 } : Room) (pq_P D y G S sz [.ref a0]) (pq_Qi D y G sz r S1) 0 0 (pq_A G sz) := by
  refine pq_enter RX6 1 (by decide) rfl rfl rfl ?_
  intro p e s m below meth c C hsz hr hlk
  subst hsz
  unfold F_X6_afterOpening at h
  refine pv_sub (lo1 := [(0, .ref a0)]) [0] rfl ?_
  refine pv_aload_n C 0 dX6_afterOpening_0 rfl rfl ?_
  refine pv_aload_n C 0 dX6_afterOpening_1 rfl rfl ?_
  have k11 := pq_wt (k := 0) W0 k0_ rfl
  refine pv_getr (T := TX6) (N := 5) C 0 inu_X6_afterOpening_6 rfl (by decide) (by decide) (List.mem_of_getElem? (i := 1) rfl) rfl k0_ k11.1 dX6_afterOpening_2 ?_
  refine pv_getiN (T := TX4) (N := 8) C 6 inu_X6_afterOpening_4 rfl (by decide) (by decide) (List.mem_of_getElem? (i := 20) rfl) rfl k11.2 dX6_afterOpening_5 ?_
  refine pv_put (T := TX6) (N := 5) (ty := .int) C 4 inu_X6_afterOpening_6 rfl (by decide) tyX6 tyX6_ok nmX6 (by decide) (List.mem_of_getElem? (i := 2) rfl) rfl k0_ rfl (by decide +kernel) rfl rfl dX6_afterOpening_8 ?_
  refine pv_nm (fun S12 e13 => ?_)
  have h := pq_ls e13 h
  refine pv_iconst (v := 3) C dX6_afterOpening_11 (by decide) ?_
  exact pv_iret C hr hlk h dX6_afterOpening_12
def F_X6_afterSecondDigit (G : pq_G) (S : pq_N) (a0 : Nat) (x1 : Int32) : Option (Int32 × pq_N) := (if x1 < (48 : Int32) then some ((0 : Int32), S) else (if x1 ≤ (57 : Int32) then (pq_bd (F_X7_put G S (pq_r G (pq_r G a0 0) 1) ((S.1 (pq_r G a0 0) 7) - (1 : Int32)) (Int32.toInt64 (((10 : Int32) + x1) - (48 : Int32)))) fun _ S17 => some ((8 : Int32), S17)) else some ((0 : Int32), S)))
theorem inu_X6_afterSecondDigit_4 : ∀ w ∈ u_ws RX4 TX4 8, w ∈ wsX6_afterSecondDigit := pq_inu 13 rfl
theorem inu_X6_afterSecondDigit_6 : ∀ w ∈ u_ws RX6 TX6 5, w ∈ wsX6_afterSecondDigit := pq_inu 8 rfl
set_option maxHeartbeats 4000000 in
set_option maxRecDepth 100000 in
theorem r_X6_afterSecondDigit {l : Launch} {D : va_G} {y : pq_Y} {G : pq_G} (W0 : pq_WT G) {S : pq_N} {a0 : Nat} {x1 : Int32} (k0_ : pq_ok G 6 a0) {r : Int32} {S1 : pq_N} (h : F_X6_afterSecondDigit G S a0 x1 = some (r, S1)) (sz : Nat) : Met l yX6_afterSecondDigit wsX6_afterSecondDigit ({ frames := 1, cells := 0, slots := 0, locals := 23 } : Room) (pq_P D y G S sz [.ref a0, .int x1]) (pq_Qi D y G sz r S1) 0 0 (pq_A G sz) := by
  refine pq_enter RX6 2 (by decide) rfl rfl rfl ?_
  intro p e s m below meth c C hsz hr hlk
  subst hsz
  unfold F_X6_afterSecondDigit at h
  refine pv_sub (lo1 := [(0, .ref a0), (1, .int x1)]) [0, 1] rfl ?_
  refine pv_iload_n C 1 dX6_afterSecondDigit_0 rfl rfl ?_
  refine pv_bipush (v := 48) C dX6_afterSecondDigit_1 (by decide) ?_
  refine pv_icmp_lt (tgt := 12) C dX6_afterSecondDigit_3 (by decide) (fun c11 => ?_) (fun c11 => ?_)
  · have h := pq_it c11 h
    refine pv_iconst (v := 0) C dX6_afterSecondDigit_12 (by decide) ?_
    exact pv_iret C hr hlk h dX6_afterSecondDigit_13
  · have h := pq_if c11 h
    refine pv_iload_n C 1 dX6_afterSecondDigit_6 rfl rfl ?_
    refine pv_bipush (v := 57) C dX6_afterSecondDigit_7 (by decide) ?_
    refine pv_icmp_le (tgt := 14) C dX6_afterSecondDigit_9 (by decide) (fun c12 => ?_) (fun c12 => ?_)
    · have h := pq_it c12 h
      refine pv_aload_n C 0 dX6_afterSecondDigit_14 rfl rfl ?_
      have k13 := pq_wt (k := 0) W0 k0_ rfl
      refine pv_getr (T := TX6) (N := 5) C 0 inu_X6_afterSecondDigit_6 rfl (by decide) (by decide) (List.mem_of_getElem? (i := 1) rfl) rfl k0_ k13.1 dX6_afterSecondDigit_15 ?_
      have k14 := pq_wt (k := 1) W0 k13.2 rfl
      refine pv_getrN (T := TX4) (N := 8) C 1 inu_X6_afterSecondDigit_4 rfl (by decide) (by decide) (List.mem_of_getElem? (i := 7) rfl) rfl k13.2 k14.1 dX6_afterSecondDigit_18 ?_
      refine pv_aload_n C 0 dX6_afterSecondDigit_21 rfl rfl ?_
      have k15 := pq_wt (k := 0) W0 k0_ rfl
      refine pv_getr (T := TX6) (N := 5) C 0 inu_X6_afterSecondDigit_6 rfl (by decide) (by decide) (List.mem_of_getElem? (i := 1) rfl) rfl k0_ k15.1 dX6_afterSecondDigit_22 ?_
      refine pv_getiN (T := TX4) (N := 8) C 7 inu_X6_afterSecondDigit_4 rfl (by decide) (by decide) (List.mem_of_getElem? (i := 26) rfl) rfl k15.2 dX6_afterSecondDigit_25 ?_
      refine pv_iconst (v := 1) C dX6_afterSecondDigit_28 (by decide) ?_
      refine pv_isub C dX6_afterSecondDigit_29 ?_
      refine pv_bipush (v := 10) C dX6_afterSecondDigit_30 (by decide) ?_
      refine pv_iload_n C 1 dX6_afterSecondDigit_32 rfl rfl ?_
      refine pv_iadd C dX6_afterSecondDigit_33 ?_
      refine pv_bipush (v := 48) C dX6_afterSecondDigit_34 (by decide) ?_
      refine pv_isub C dX6_afterSecondDigit_36 ?_
      refine pv_i2l C dX6_afterSecondDigit_37 ?_
      obtain ⟨⟨⟩, S17, e18, h⟩ := pq_bs h
      refine pv_callvV C (ci := 7) rfl (by decide) k14.2 [.int ((S.1 (pq_r G a0 0) 7) - (1 : Int32)), .long (Int32.toInt64 (((10 : Int32) + x1) - (48 : Int32)))] (fun sz => r_X7_put W0 k14.2 e18 sz) (cwV 2 C.1.2.2.2.2 gX6_afterSecondDigit_X7_put rfl rfl rfl (by decide +kernel) ⟨Nat.le_of_ble_eq_true rfl, Nat.le_of_ble_eq_true rfl⟩) rfl rfl (Nat.le_of_ble_eq_true rfl) dX6_afterSecondDigit_38 ⟨Nat.le_of_ble_eq_true rfl, Nat.le_of_ble_eq_true rfl⟩ ?_
      refine pv_bipush (v := 8) C dX6_afterSecondDigit_41 (by decide) ?_
      exact pv_iret C hr hlk h dX6_afterSecondDigit_43
    · have h := pq_if c12 h
      refine pv_iconst (v := 0) C dX6_afterSecondDigit_12 (by decide) ?_
      exact pv_iret C hr hlk h dX6_afterSecondDigit_13
def F_X6_isAtEndOfText (G : pq_G) (S : pq_N) (a0 : Nat) (a1 : Nat) : Option (Int32 × pq_N) := (if (S.1 a0 1) = (S.1 a1 1) then (if (S.1 a0 2) = (2 : Int32) then some ((1 : Int32), S) else (if (S.1 a0 2) = (7 : Int32) then some ((1 : Int32), S) else (if (S.1 a0 2) = (8 : Int32) then some ((1 : Int32), S) else some ((0 : Int32), S)))) else some ((0 : Int32), S))
theorem inu_X6_isAtEndOfText_0 : ∀ w ∈ u_ws RX0 TX0 2, w ∈ wsX6_isAtEndOfText := pq_inu 8 rfl
theorem inu_X6_isAtEndOfText_6 : ∀ w ∈ u_ws RX6 TX6 5, w ∈ wsX6_isAtEndOfText := pq_inu 3 rfl
set_option maxHeartbeats 4000000 in
set_option maxRecDepth 100000 in
theorem r_X6_isAtEndOfText {l : Launch} {D : va_G} {y : pq_Y} {G : pq_G} (W0 : pq_WT G) {S : pq_N} {a0 : Nat} {a1 : Nat} (k0_ : pq_ok G 6 a0) (k1_ : pq_ok G 0 a1) {r : Int32} {S1 : pq_N} (h : F_X6_isAtEndOfText G S a0 a1 = some (r, S1)) (sz : Nat) : Met l yX6_isAtEndOfText wsX6_isAtEndOfText ({ frames := 0, cells := 0, slots := 0, locals := 0 } : Room) (pq_P D y G S sz [.ref a0, .ref a1]) (pq_Qi D y G sz r S1) 0 0 (pq_A G sz) := by
  refine pq_enter RX6 2 (by decide) rfl rfl rfl ?_
  intro p e s m below meth c C hsz hr hlk
  subst hsz
  unfold F_X6_isAtEndOfText at h
  refine pv_sub (lo1 := [(0, .ref a0), (1, .ref a1)]) [0, 1] rfl ?_
  refine pv_aload_n C 0 dX6_isAtEndOfText_0 rfl rfl ?_
  refine pv_geti (T := TX6) (N := 5) C 1 inu_X6_isAtEndOfText_6 rfl (by decide) (by decide) (List.mem_of_getElem? (i := 1) rfl) rfl k0_ dX6_isAtEndOfText_1 ?_
  refine pv_aload_n C 1 dX6_isAtEndOfText_4 rfl rfl ?_
  refine pv_getiN (T := TX0) (N := 2) C 1 inu_X6_isAtEndOfText_0 rfl (by decide) (by decide) (List.mem_of_getElem? (i := 36) rfl) rfl k1_ dX6_isAtEndOfText_5 ?_
  refine pv_icmp_ne (tgt := 41) C dX6_isAtEndOfText_8 (by decide) (fun c11 => ?_) (fun c11 => ?_)
  · have h := pq_if c11 h
    refine pv_iconst (v := 0) C dX6_isAtEndOfText_41 (by decide) ?_
    exact pv_zret C hr rfl hlk h dX6_isAtEndOfText_42
  · have h := pq_it c11 h
    refine pv_aload_n C 0 dX6_isAtEndOfText_11 rfl rfl ?_
    refine pv_geti (T := TX6) (N := 5) C 2 inu_X6_isAtEndOfText_6 rfl (by decide) (by decide) (List.mem_of_getElem? (i := 2) rfl) rfl k0_ dX6_isAtEndOfText_12 ?_
    refine pv_iconst (v := 2) C dX6_isAtEndOfText_15 (by decide) ?_
    refine pv_icmp_eq (tgt := 37) C dX6_isAtEndOfText_16 (by decide) (fun c12 => ?_) (fun c12 => ?_)
    · have h := pq_it c12 h
      refine pv_iconst (v := 1) C dX6_isAtEndOfText_37 (by decide) ?_
      refine pv_goto (tgt := 42) C dX6_isAtEndOfText_38 (by decide) ?_
      exact pv_zret C hr rfl hlk h dX6_isAtEndOfText_42
    · have h := pq_if c12 h
      refine pv_aload_n C 0 dX6_isAtEndOfText_19 rfl rfl ?_
      refine pv_geti (T := TX6) (N := 5) C 2 inu_X6_isAtEndOfText_6 rfl (by decide) (by decide) (List.mem_of_getElem? (i := 2) rfl) rfl k0_ dX6_isAtEndOfText_20 ?_
      refine pv_bipush (v := 7) C dX6_isAtEndOfText_23 (by decide) ?_
      refine pv_icmp_eq (tgt := 37) C dX6_isAtEndOfText_25 (by decide) (fun c13 => ?_) (fun c13 => ?_)
      · have h := pq_it c13 h
        refine pv_iconst (v := 1) C dX6_isAtEndOfText_37 (by decide) ?_
        refine pv_goto (tgt := 42) C dX6_isAtEndOfText_38 (by decide) ?_
        exact pv_zret C hr rfl hlk h dX6_isAtEndOfText_42
      · have h := pq_if c13 h
        refine pv_aload_n C 0 dX6_isAtEndOfText_28 rfl rfl ?_
        refine pv_geti (T := TX6) (N := 5) C 2 inu_X6_isAtEndOfText_6 rfl (by decide) (by decide) (List.mem_of_getElem? (i := 2) rfl) rfl k0_ dX6_isAtEndOfText_29 ?_
        refine pv_bipush (v := 8) C dX6_isAtEndOfText_32 (by decide) ?_
        refine pv_icmp_ne (tgt := 41) C dX6_isAtEndOfText_34 (by decide) (fun c14 => ?_) (fun c14 => ?_)
        · have h := pq_if c14 h
          refine pv_iconst (v := 0) C dX6_isAtEndOfText_41 (by decide) ?_
          exact pv_zret C hr rfl hlk h dX6_isAtEndOfText_42
        · have h := pq_it c14 h
          refine pv_iconst (v := 1) C dX6_isAtEndOfText_37 (by decide) ?_
          refine pv_goto (tgt := 42) C dX6_isAtEndOfText_38 (by decide) ?_
          exact pv_zret C hr rfl hlk h dX6_isAtEndOfText_42
def F_X9_add (G : pq_G) (S : pq_N) (a0 : Nat) (a1 : Nat) (x2 : Int32) : Option (Unit × pq_N) := (pq_bd (F_X9_at G S a0 (S.1 a0 2)) fun v11 S12 => (pq_bd (F_X4_copy G S12 v11 a1) fun _ S16 => (pq_lt (pq_wi S16 v11 4 x2) fun S18 => (pq_lt (pq_wi S18 v11 5 (S18.1 a0 3)) fun S20 => (pq_lt (pq_wi S20 a0 2 ((S20.1 a0 2) + (1 : Int32))) fun S22 => some ((), S22))))))
theorem inu_X9_add_4 : ∀ w ∈ u_ws RX4 TX4 8, w ∈ wsX9_add := pq_inu 37 rfl
theorem inu_X9_add_9 : ∀ w ∈ u_ws RX9 TX9 4, w ∈ wsX9_add := pq_inu 33 rfl
set_option maxHeartbeats 4000000 in
set_option maxRecDepth 100000 in
theorem r_X9_add {l : Launch} {D : va_G} {y : pq_Y} {G : pq_G} (W0 : pq_WT G) {S : pq_N} {a0 : Nat} {a1 : Nat} {x2 : Int32} (k0_ : pq_ok G 9 a0) (k1_ : pq_ok G 4 a1) {S1 : pq_N} (h : F_X9_add G S a0 a1 x2 = some ((), S1)) (sz : Nat) : Met l yX9_add wsX9_add ({ frames := 3, cells := 0, slots := 0, locals := 69 } : Room) (pq_P D y G S sz [.ref a0, .ref a1, .int x2]) (pq_Qv D y G sz S1) 0 0 (pq_A G sz) := by
  refine pq_enter RX9 4 (by decide) rfl rfl rfl ?_
  intro p e s m below meth c C hsz hr hlk
  subst hsz
  unfold F_X9_add at h
  refine pv_sub (lo1 := [(0, .ref a0), (1, .ref a1), (2, .int x2)]) [0, 1, 2] rfl ?_
  refine pv_aload_n C 0 dX9_add_0 rfl rfl ?_
  refine pv_aload_n C 0 dX9_add_1 rfl rfl ?_
  refine pv_geti (T := TX9) (N := 4) C 2 inu_X9_add_9 rfl (by decide) (by decide) (List.mem_of_getElem? (i := 1) rfl) rfl k0_ dX9_add_2 ?_
  obtain ⟨v11, S12, e13, h⟩ := pq_bs h
  have k14 := o_X9_at W0 k0_ e13
  refine pv_callrV C (ci := 9) rfl (by decide) k0_ [.int (S.1 a0 2)] (fun sz => r_X9_at W0 k0_ e13 sz) (cwV 1 C.1.2.2.2.2 gX9_add_X9_at rfl rfl rfl (by decide +kernel) ⟨Nat.le_of_ble_eq_true rfl, Nat.le_of_ble_eq_true rfl⟩) rfl rfl (Nat.le_of_ble_eq_true rfl) dX9_add_5 ⟨Nat.le_of_ble_eq_true rfl, Nat.le_of_ble_eq_true rfl⟩ ?_
  refine pv_astore_n C [(3, .ref v11), (0, .ref a0), (1, .ref a1), (2, .int x2)] dX9_add_8 rfl (by decide) rfl ?_
  refine pv_aload_n C 0 dX9_add_9 rfl rfl ?_
  refine pv_aload_n C 2 dX9_add_10 rfl rfl ?_
  obtain ⟨⟨⟩, S16, e17, h⟩ := pq_bs h
  refine pv_callvV C (ci := 4) rfl (by decide) k14 [.ref a1] (fun sz => r_X4_copy W0 k14 k1_ e17 sz) (cwV 1 C.1.2.2.2.2 gX9_add_X4_copy rfl rfl rfl (by decide +kernel) ⟨Nat.le_of_ble_eq_true rfl, Nat.le_of_ble_eq_true rfl⟩) rfl rfl (Nat.le_of_ble_eq_true rfl) dX9_add_11 ⟨Nat.le_of_ble_eq_true rfl, Nat.le_of_ble_eq_true rfl⟩ ?_
  refine pv_aload_n C 0 dX9_add_14 rfl rfl ?_
  refine pv_iload_n C 3 dX9_add_15 rfl rfl ?_
  refine pv_putN (T := TX4) (N := 8) (ty := .int) C 4 inu_X9_add_4 rfl (by decide) tyX4 tyX4_ok nmX4 (by decide) (List.mem_of_getElem? (i := 13) rfl) rfl k14 rfl (by decide +kernel) rfl rfl dX9_add_16 ?_
  refine pv_nm (fun S18 e19 => ?_)
  have h := pq_ls e19 h
  refine pv_aload_n C 0 dX9_add_19 rfl rfl ?_
  refine pv_aload_n C 1 dX9_add_20 rfl rfl ?_
  refine pv_geti (T := TX9) (N := 4) C 3 inu_X9_add_9 rfl (by decide) (by decide) (List.mem_of_getElem? (i := 2) rfl) rfl k0_ dX9_add_21 ?_
  refine pv_putN (T := TX4) (N := 8) (ty := .int) C 5 inu_X9_add_4 rfl (by decide) tyX4 tyX4_ok nmX4 (by decide) (List.mem_of_getElem? (i := 16) rfl) rfl k14 rfl (by decide +kernel) rfl rfl dX9_add_24 ?_
  refine pv_nm (fun S20 e21 => ?_)
  have h := pq_ls e21 h
  refine pv_aload_n C 1 dX9_add_27 rfl rfl ?_
  refine pv_dup C dX9_add_28 rfl ?_
  refine pv_geti (T := TX9) (N := 4) C 2 inu_X9_add_9 rfl (by decide) (by decide) (List.mem_of_getElem? (i := 1) rfl) rfl k0_ dX9_add_29 ?_
  refine pv_iconst (v := 1) C dX9_add_32 (by decide) ?_
  refine pv_iadd C dX9_add_33 ?_
  refine pv_put (T := TX9) (N := 4) (ty := .int) C 2 inu_X9_add_9 rfl (by decide) tyX9 tyX9_ok nmX9 (by decide) (List.mem_of_getElem? (i := 1) rfl) rfl k0_ rfl (by decide +kernel) rfl rfl dX9_add_34 ?_
  refine pv_nm (fun S22 e23 => ?_)
  have h := pq_ls e23 h
  exact pv_vret C hr hlk h dX9_add_37
def F_X9_has (G : pq_G) (S : pq_N) (a0 : Nat) (x1 : Int32) : Option (Int32 × pq_N) := (if x1 < (0 : Int32) then some ((0 : Int32), S) else (if (S.1 a0 2) ≤ x1 then some ((0 : Int32), S) else some ((1 : Int32), S)))
theorem inu_X9_has_9 : ∀ w ∈ u_ws RX9 TX9 4, w ∈ wsX9_has := pq_inu 2 rfl
set_option maxHeartbeats 4000000 in
set_option maxRecDepth 100000 in
theorem r_X9_has {l : Launch} {D : va_G} {y : pq_Y} {G : pq_G} (W0 : pq_WT G) {S : pq_N} {a0 : Nat} {x1 : Int32} (k0_ : pq_ok G 9 a0) {r : Int32} {S1 : pq_N} (h : F_X9_has G S a0 x1 = some (r, S1)) (sz : Nat) : Met l yX9_has wsX9_has ({ frames := 0, cells := 0, slots := 0, locals := 0 } : Room) (pq_P D y G S sz [.ref a0, .int x1]) (pq_Qi D y G sz r S1) 0 0 (pq_A G sz) := by
  refine pq_enter RX9 2 (by decide) rfl rfl rfl ?_
  intro p e s m below meth c C hsz hr hlk
  subst hsz
  unfold F_X9_has at h
  refine pv_sub (lo1 := [(0, .ref a0), (1, .int x1)]) [0, 1] rfl ?_
  refine pv_iload_n C 1 dX9_has_0 rfl rfl ?_
  refine pv_if_lt (tgt := 16) C dX9_has_1 (by decide) (fun c11 => ?_) (fun c11 => ?_)
  · have h := pq_it c11 h
    refine pv_iconst (v := 0) C dX9_has_16 (by decide) ?_
    exact pv_zret C hr rfl hlk h dX9_has_17
  · have h := pq_if c11 h
    refine pv_iload_n C 1 dX9_has_4 rfl rfl ?_
    refine pv_aload_n C 0 dX9_has_5 rfl rfl ?_
    refine pv_geti (T := TX9) (N := 4) C 2 inu_X9_has_9 rfl (by decide) (by decide) (List.mem_of_getElem? (i := 1) rfl) rfl k0_ dX9_has_6 ?_
    refine pv_icmp_ge (tgt := 16) C dX9_has_9 (by decide) (fun c12 => ?_) (fun c12 => ?_)
    · have h := pq_it c12 h
      refine pv_iconst (v := 0) C dX9_has_16 (by decide) ?_
      exact pv_zret C hr rfl hlk h dX9_has_17
    · have h := pq_if c12 h
      refine pv_iconst (v := 1) C dX9_has_12 (by decide) ?_
      refine pv_goto (tgt := 17) C dX9_has_13 (by decide) ?_
      exact pv_zret C hr rfl hlk h dX9_has_17
def F_X9_hasSourcesOf_b2 (G : pq_G)  : Nat → pq_N → Nat → Nat → Int32 → Option (Int32 × pq_N)
  | 0, _, _, _, _ => none
  | n + 1, S, a0, a1, x2 => (if (S.1 a1 7) ≤ x2 then some ((1 : Int32), S) else (pq_bd (F_X7_number G S (pq_r G a1 1) x2) fun v13 S14 => (pq_bd (F_X9_has G S14 a0 v13) fun v16 S17 => (if v16 = (0 : Int32) then some ((0 : Int32), S17) else (F_X9_hasSourcesOf_b2 G n) S17 a0 a1 (x2 + (1 : Int32))))))
def F_X9_hasSourcesOf (G : pq_G) (S : pq_N) (a0 : Nat) (a1 : Nat) : Option (Int32 × pq_N) := F_X9_hasSourcesOf_b2 G pq_fuel S a0 a1 (0 : Int32)
theorem inu_X9_hasSourcesOf_4 : ∀ w ∈ u_ws RX4 TX4 8, w ∈ wsX9_hasSourcesOf := pq_inu 13 rfl
set_option maxHeartbeats 4000000 in
set_option maxRecDepth 100000 in
theorem r_X9_hasSourcesOf_b2 {p : Program} {l : Launch} {e : Env} {s : State} {m : MethodId} {av : Array Value} {below : List Frame} {meth : Method} {c : Code} {D : va_G} {y : pq_Y} {G : pq_G} {r : Int32} {S1 : pq_N} (W0 : pq_WT G) (C : pq_C p s m av c D y RX9 wsX9_hasSourcesOf cX9_hasSourcesOf 3) (hr : meth.sig.returnType = (some .boolean)) (hlk : meth.locks = false) (n : Nat) : ∀ (S : pq_N) (a0 : Nat) (a1 : Nat) (x2 : Int32), pq_ok G 9 a0 → pq_ok G 4 a1 → F_X9_hasSourcesOf_b2 G n S a0 a1 x2 = some (r, S1) → pq_V p l e (headSpec wsX9_hasSourcesOf ({ frames := 1, cells := 0, slots := 0, locals := 21 } : Room)).room s m av below meth c 0 0 (MQ below (pq_Qi D y G s.heap.size r S1) av s 0 0 (pq_A G s.heap.size)) D y 3 (pq_A G s.heap.size) (fun _ => True) G S 2 [(0, .ref a0), (1, .ref a1), (2, .int x2)] [] := by
  induction n with
  | zero =>
    intro S a0 a1 x2 k0_ k1_ h
    rw [F_X9_hasSourcesOf_b2.eq_1] at h; cases h
  | succ n ih =>
    intro S a0 a1 x2 k0_ k1_ h
    rw [F_X9_hasSourcesOf_b2.eq_2] at h
    refine pv_iload_n C 2 dX9_hasSourcesOf_2 rfl rfl ?_
    refine pv_aload_n C 1 dX9_hasSourcesOf_3 rfl rfl ?_
    refine pv_getiN (T := TX4) (N := 8) C 7 inu_X9_hasSourcesOf_4 rfl (by decide) (by decide) (List.mem_of_getElem? (i := 24) rfl) rfl k1_ dX9_hasSourcesOf_4 ?_
    refine pv_icmp_ge (tgt := 33) C dX9_hasSourcesOf_7 (by decide) (fun c11 => ?_) (fun c11 => ?_)
    · have h := pq_it c11 h
      refine pv_iconst (v := 1) C dX9_hasSourcesOf_33 (by decide) ?_
      exact pv_zret C hr rfl hlk h dX9_hasSourcesOf_34
    · have h := pq_if c11 h
      refine pv_aload_n C 0 dX9_hasSourcesOf_10 rfl rfl ?_
      refine pv_aload_n C 1 dX9_hasSourcesOf_11 rfl rfl ?_
      have k12 := pq_wt (k := 1) W0 k1_ rfl
      refine pv_getrN (T := TX4) (N := 8) C 1 inu_X9_hasSourcesOf_4 rfl (by decide) (by decide) (List.mem_of_getElem? (i := 6) rfl) rfl k1_ k12.1 dX9_hasSourcesOf_12 ?_
      refine pv_iload_n C 2 dX9_hasSourcesOf_15 rfl rfl ?_
      obtain ⟨v13, S14, e15, h⟩ := pq_bs h
      refine pv_calliV C (ci := 7) rfl (by decide) k12.2 [.int x2] (fun sz => r_X7_number W0 k12.2 e15 sz) (cwV 1 C.1.2.2.2.2 gX9_hasSourcesOf_X7_number rfl rfl rfl (by decide +kernel) ⟨Nat.le_of_ble_eq_true rfl, Nat.le_of_ble_eq_true rfl⟩) rfl rfl (Nat.le_of_ble_eq_true rfl) dX9_hasSourcesOf_16 ⟨Nat.le_of_ble_eq_true rfl, Nat.le_of_ble_eq_true rfl⟩ ?_
      obtain ⟨v16, S17, e18, h⟩ := pq_bs h
      refine pv_calliV C (ci := 9) rfl (by decide) k0_ [.int v13] (fun sz => r_X9_has W0 k0_ e18 sz) (cwV 1 C.1.2.2.2.2 gX9_hasSourcesOf_X9_has rfl rfl rfl (by decide +kernel) ⟨Nat.le_of_ble_eq_true rfl, Nat.le_of_ble_eq_true rfl⟩) rfl rfl (Nat.le_of_ble_eq_true rfl) dX9_hasSourcesOf_19 ⟨Nat.le_of_ble_eq_true rfl, Nat.le_of_ble_eq_true rfl⟩ ?_
      refine pv_if_ne (tgt := 27) C dX9_hasSourcesOf_22 (by decide) (fun c19 => ?_) (fun c19 => ?_)
      · have h := pq_if c19 h
        refine pv_iinc (v := (x2 + (1 : Int32))) C 2 [(2, .int (x2 + (1 : Int32))), (0, .ref a0), (1, .ref a1)] dX9_hasSourcesOf_27 rfl rfl (by decide) rfl ?_
        refine pv_goto (tgt := 2) C dX9_hasSourcesOf_30 (by decide) ?_
        refine pv_sub [1, 2, 0] rfl ?_
        exact ih _ _ _ _ k0_ k1_ h
      · have h := pq_it c19 h
        refine pv_iconst (v := 0) C dX9_hasSourcesOf_25 (by decide) ?_
        exact pv_zret C hr rfl hlk h dX9_hasSourcesOf_26
set_option maxHeartbeats 4000000 in
set_option maxRecDepth 100000 in
theorem r_X9_hasSourcesOf {l : Launch} {D : va_G} {y : pq_Y} {G : pq_G} (W0 : pq_WT G) {S : pq_N} {a0 : Nat} {a1 : Nat} (k0_ : pq_ok G 9 a0) (k1_ : pq_ok G 4 a1) {r : Int32} {S1 : pq_N} (h : F_X9_hasSourcesOf G S a0 a1 = some (r, S1)) (sz : Nat) : Met l yX9_hasSourcesOf wsX9_hasSourcesOf ({ frames := 1, cells := 0, slots := 0, locals := 21 } : Room) (pq_P D y G S sz [.ref a0, .ref a1]) (pq_Qi D y G sz r S1) 0 0 (pq_A G sz) := by
  refine pq_enter RX9 3 (by decide) rfl rfl rfl ?_
  intro p e s m below meth c C hsz hr hlk
  subst hsz
  unfold F_X9_hasSourcesOf at h
  refine pv_sub (lo1 := [(0, .ref a0), (1, .ref a1)]) [0, 1] rfl ?_
  refine pv_iconst (v := 0) C dX9_hasSourcesOf_0 (by decide) ?_
  refine pv_istore_n C [(2, .int (0 : Int32)), (0, .ref a0), (1, .ref a1)] dX9_hasSourcesOf_1 rfl (by decide) rfl ?_
  refine pv_sub [1, 2, 0] rfl ?_
  exact r_X9_hasSourcesOf_b2 W0 C hr hlk pq_fuel _ _ _ _ k0_ k1_ h
def F_X9_isSourceOfToday_b2 (G : pq_G)  : Nat → pq_N → Nat → Nat → Int32 → Option (Int32 × pq_N)
  | 0, _, _, _, _ => none
  | n + 1, S, a0, a1, x2 => (if (S.1 a1 7) ≤ x2 then some ((0 : Int32), S) else (pq_bd (F_X7_number G S (pq_r G a1 1) x2) fun v13 S14 => (pq_bd (F_X9_at G S14 a0 v13) fun v16 S17 => (if (S17.1 v16 5) = (S17.1 a0 3) then some ((1 : Int32), S17) else (F_X9_isSourceOfToday_b2 G n) S17 a0 a1 (x2 + (1 : Int32))))))
def F_X9_isSourceOfToday (G : pq_G) (S : pq_N) (a0 : Nat) (a1 : Nat) : Option (Int32 × pq_N) := F_X9_isSourceOfToday_b2 G pq_fuel S a0 a1 (0 : Int32)
theorem inu_X9_isSourceOfToday_4 : ∀ w ∈ u_ws RX4 TX4 8, w ∈ wsX9_isSourceOfToday := pq_inu 15 rfl
theorem inu_X9_isSourceOfToday_9 : ∀ w ∈ u_ws RX9 TX9 4, w ∈ wsX9_isSourceOfToday := pq_inu 23 rfl
set_option maxHeartbeats 4000000 in
set_option maxRecDepth 100000 in
theorem r_X9_isSourceOfToday_b2 {p : Program} {l : Launch} {e : Env} {s : State} {m : MethodId} {av : Array Value} {below : List Frame} {meth : Method} {c : Code} {D : va_G} {y : pq_Y} {G : pq_G} {r : Int32} {S1 : pq_N} (W0 : pq_WT G) (C : pq_C p s m av c D y RX9 wsX9_isSourceOfToday cX9_isSourceOfToday 3) (hr : meth.sig.returnType = (some .boolean)) (hlk : meth.locks = false) (n : Nat) : ∀ (S : pq_N) (a0 : Nat) (a1 : Nat) (x2 : Int32), pq_ok G 9 a0 → pq_ok G 4 a1 → F_X9_isSourceOfToday_b2 G n S a0 a1 x2 = some (r, S1) → pq_V p l e (headSpec wsX9_isSourceOfToday ({ frames := 1, cells := 0, slots := 0, locals := 22 } : Room)).room s m av below meth c 0 0 (MQ below (pq_Qi D y G s.heap.size r S1) av s 0 0 (pq_A G s.heap.size)) D y 3 (pq_A G s.heap.size) (fun _ => True) G S 2 [(0, .ref a0), (1, .ref a1), (2, .int x2)] [] := by
  induction n with
  | zero =>
    intro S a0 a1 x2 k0_ k1_ h
    rw [F_X9_isSourceOfToday_b2.eq_1] at h; cases h
  | succ n ih =>
    intro S a0 a1 x2 k0_ k1_ h
    rw [F_X9_isSourceOfToday_b2.eq_2] at h
    refine pv_iload_n C 2 dX9_isSourceOfToday_2 rfl rfl ?_
    refine pv_aload_n C 1 dX9_isSourceOfToday_3 rfl rfl ?_
    refine pv_getiN (T := TX4) (N := 8) C 7 inu_X9_isSourceOfToday_4 rfl (by decide) (by decide) (List.mem_of_getElem? (i := 24) rfl) rfl k1_ dX9_isSourceOfToday_4 ?_
    refine pv_icmp_ge (tgt := 40) C dX9_isSourceOfToday_7 (by decide) (fun c11 => ?_) (fun c11 => ?_)
    · have h := pq_it c11 h
      refine pv_iconst (v := 0) C dX9_isSourceOfToday_40 (by decide) ?_
      exact pv_zret C hr rfl hlk h dX9_isSourceOfToday_41
    · have h := pq_if c11 h
      refine pv_aload_n C 0 dX9_isSourceOfToday_10 rfl rfl ?_
      refine pv_aload_n C 1 dX9_isSourceOfToday_11 rfl rfl ?_
      have k12 := pq_wt (k := 1) W0 k1_ rfl
      refine pv_getrN (T := TX4) (N := 8) C 1 inu_X9_isSourceOfToday_4 rfl (by decide) (by decide) (List.mem_of_getElem? (i := 6) rfl) rfl k1_ k12.1 dX9_isSourceOfToday_12 ?_
      refine pv_iload_n C 2 dX9_isSourceOfToday_15 rfl rfl ?_
      obtain ⟨v13, S14, e15, h⟩ := pq_bs h
      refine pv_calliV C (ci := 7) rfl (by decide) k12.2 [.int x2] (fun sz => r_X7_number W0 k12.2 e15 sz) (cwV 1 C.1.2.2.2.2 gX9_isSourceOfToday_X7_number rfl rfl rfl (by decide +kernel) ⟨Nat.le_of_ble_eq_true rfl, Nat.le_of_ble_eq_true rfl⟩) rfl rfl (Nat.le_of_ble_eq_true rfl) dX9_isSourceOfToday_16 ⟨Nat.le_of_ble_eq_true rfl, Nat.le_of_ble_eq_true rfl⟩ ?_
      obtain ⟨v16, S17, e18, h⟩ := pq_bs h
      have k19 := o_X9_at W0 k0_ e18
      refine pv_callrV C (ci := 9) rfl (by decide) k0_ [.int v13] (fun sz => r_X9_at W0 k0_ e18 sz) (cwV 1 C.1.2.2.2.2 gX9_isSourceOfToday_X9_at rfl rfl rfl (by decide +kernel) ⟨Nat.le_of_ble_eq_true rfl, Nat.le_of_ble_eq_true rfl⟩) rfl rfl (Nat.le_of_ble_eq_true rfl) dX9_isSourceOfToday_19 ⟨Nat.le_of_ble_eq_true rfl, Nat.le_of_ble_eq_true rfl⟩ ?_
      refine pv_getiN (T := TX4) (N := 8) C 5 inu_X9_isSourceOfToday_4 rfl (by decide) (by decide) (List.mem_of_getElem? (i := 16) rfl) rfl k19 dX9_isSourceOfToday_22 ?_
      refine pv_aload_n C 0 dX9_isSourceOfToday_25 rfl rfl ?_
      refine pv_geti (T := TX9) (N := 4) C 3 inu_X9_isSourceOfToday_9 rfl (by decide) (by decide) (List.mem_of_getElem? (i := 1) rfl) rfl k0_ dX9_isSourceOfToday_26 ?_
      refine pv_icmp_ne (tgt := 34) C dX9_isSourceOfToday_29 (by decide) (fun c20 => ?_) (fun c20 => ?_)
      · have h := pq_if c20 h
        refine pv_iinc (v := (x2 + (1 : Int32))) C 2 [(2, .int (x2 + (1 : Int32))), (0, .ref a0), (1, .ref a1)] dX9_isSourceOfToday_34 rfl rfl (by decide) rfl ?_
        refine pv_goto (tgt := 2) C dX9_isSourceOfToday_37 (by decide) ?_
        refine pv_sub [1, 2, 0] rfl ?_
        exact ih _ _ _ _ k0_ k1_ h
      · have h := pq_it c20 h
        refine pv_iconst (v := 1) C dX9_isSourceOfToday_32 (by decide) ?_
        exact pv_zret C hr rfl hlk h dX9_isSourceOfToday_33
set_option maxHeartbeats 4000000 in
set_option maxRecDepth 100000 in
theorem r_X9_isSourceOfToday {l : Launch} {D : va_G} {y : pq_Y} {G : pq_G} (W0 : pq_WT G) {S : pq_N} {a0 : Nat} {a1 : Nat} (k0_ : pq_ok G 9 a0) (k1_ : pq_ok G 4 a1) {r : Int32} {S1 : pq_N} (h : F_X9_isSourceOfToday G S a0 a1 = some (r, S1)) (sz : Nat) : Met l yX9_isSourceOfToday wsX9_isSourceOfToday ({ frames := 1, cells := 0, slots := 0, locals := 22 } : Room) (pq_P D y G S sz [.ref a0, .ref a1]) (pq_Qi D y G sz r S1) 0 0 (pq_A G sz) := by
  refine pq_enter RX9 3 (by decide) rfl rfl rfl ?_
  intro p e s m below meth c C hsz hr hlk
  subst hsz
  unfold F_X9_isSourceOfToday at h
  refine pv_sub (lo1 := [(0, .ref a0), (1, .ref a1)]) [0, 1] rfl ?_
  refine pv_iconst (v := 0) C dX9_isSourceOfToday_0 (by decide) ?_
  refine pv_istore_n C [(2, .int (0 : Int32)), (0, .ref a0), (1, .ref a1)] dX9_isSourceOfToday_1 rfl (by decide) rfl ?_
  refine pv_sub [1, 2, 0] rfl ?_
  exact r_X9_isSourceOfToday_b2 W0 C hr hlk pq_fuel _ _ _ _ k0_ k1_ h
