def F_X7_init (G0 : pq_G) (S : pq_N) (nx : Nat) (a0 : Nat) (x1 : Int32) : Option pq_M := (if (if x1 < (0 : Int32) then (0 : Int32) else x1) < 0 then none else (pq_lt (pq_push G0 (nx) 13 (Int32.toNatClampNeg (if x1 < (0 : Int32) then (0 : Int32) else x1))) fun G13 => (pq_lt (pq_zero S (nx)) fun S15 => (pq_lt (pq_ref G13 a0 0 (nx)) fun G20 => some (G20, S15, nx + 1)))))
theorem inu_X7_init_7 : ∀ w ∈ u_ws RX7 TX7 1, w ∈ wsX7_init := pq_inu 10 rfl
set_option maxHeartbeats 4000000 in
set_option maxRecDepth 100000 in
theorem r_X7_init {l : Launch} {D : va_G} {y : pq_Y} {G0 : pq_G} {S : pq_N} {nx : Nat} {a0 : Nat} {x1 : Int32} (N : Nat) (hN : (Int32.toNatClampNeg (if x1 < (0 : Int32) then (0 : Int32) else x1)) = N) (hB : N * 8 ≤ 536870912) (k0_ : pq_ok G0 7 a0) {M1 : pq_M} (h : F_X7_init G0 S nx a0 x1 = some M1) : Met l yX7_init wsX7_init ({ frames := 1, cells := 1, slots := N, locals := 21 } : Room) (pq_P D y G0 S nx [.ref a0, .int x1]) (pq_QZ D y G0 nx M1) 1 N (pq_A G0 nx) := by
  refine pz_enter RX7 2 (by decide) rfl rfl rfl rfl ?_
  intro p e s m below meth c C hsz hr hlk hin2
  subst hsz
  unfold F_X7_init at h
  have hz0 : s.heap.size ≤ s.heap.size := Nat.le_refl _
  have hG0 : ∀ q ∈ G0.1, q ∈ G0.1 ∨ s.heap.size ≤ q := fun q hq => Or.inl hq
  refine pv_sub (lo1 := [(0, .ref a0), (1, .int x1)]) [0, 1] rfl ?_
  refine pv_aload_n C 0 dX7_init_0 rfl rfl ?_
  refine pz_obj C (List.mem_of_getElem? (i := 1) rfl) (List.mem_of_getElem? (i := 2) rfl) (List.mem_of_getElem? (i := 3) rfl) dX7_init_1 (Nat.le_of_ble_eq_true rfl) (Nat.le_of_ble_eq_true rfl) ?_
  refine pv_aload_n C 0 dX7_init_4 rfl rfl ?_
  refine pv_iload_n C 1 dX7_init_5 rfl rfl ?_
  refine pv_iconst (v := 0) C dX7_init_6 (by decide) ?_
  refine pv_mmax C (List.mem_of_getElem? (i := 4) rfl) (List.mem_of_getElem? (i := 5) rfl) (List.mem_of_getElem? (i := 6) rfl) (List.mem_of_getElem? (i := 7) rfl) (Nat.le_of_ble_eq_true rfl) (Nat.le_of_ble_eq_true rfl) (Nat.le_trans (m := 1) (by omega) (Nat.le_of_ble_eq_true rfl)) (Nat.le_trans (m := N) (by omega) (Nat.le_refl N)) dX7_init_7 ?_
  obtain ⟨g12, h⟩ := pq_gd h
  refine pz_newJ C (N' := (Int32.toNatClampNeg (if x1 < (0 : Int32) then (0 : Int32) else x1))) (List.mem_of_getElem? (i := 8) rfl) g12 rfl (by rw [hN]; exact hB) (Nat.le_trans (m := 1) (by omega) (Nat.le_of_ble_eq_true rfl)) (Nat.le_trans (m := N) (by omega) (Nat.le_refl N)) dX7_init_10 (fun n11 => ?_)
  refine pz_nm (fun G13 e14 S15 e16 => ?_)
  have h := pq_ls e14 h
  have h := pq_ls e16 h
  have k17 : pq_ok G13 7 a0 := by rw [e14]; exact pq_okp n11 k0_
  have k18 : pq_ok G13 13 (s.heap.size) := by rw [e14]; exact pq_okn
  have h19 : ∀ q ∈ G13.1, q ∈ G0.1 ∨ s.heap.size ≤ q := by rw [e14]; exact pq_hG hG0 (by omega)
  refine pz_putF (T := TX7) (N := 1) C 0 inu_X7_init_7 rfl (by decide) tyX7 tyX7_ok nmX7 (by decide) (List.mem_of_getElem? (i := 9) rfl) rfl k17 rfl hin2 rfl (tyX7_ok 0 (by decide)) rfl rfl dX7_init_12 ?_
  refine pz_nmG (fun G20 e21 => ?_)
  have h := pq_ls e21 h
  have k22 : pq_ok G20 7 a0 := by rw [e21]; exact k17
  have h23 : ∀ q ∈ G20.1, q ∈ G0.1 ∨ s.heap.size ≤ q := by rw [e21]; exact h19
  refine pz_wide (k := 1) (n := N) (by omega) (by omega) ?_
  exact pz_vret C hr hlk h dX7_init_15
def F_X0_init (G0 : pq_G) (S : pq_N) (nx : Nat) (a0 : Nat) : Option pq_M := (pq_lt (pq_push G0 (nx) 7 0) fun G12 => (pq_lt (pq_zero S (nx)) fun S14 => (Option.bind (F_X7_init G12 S14 (nx + 1) (nx) (100 : Int32)) fun M => pq_l3 M fun G19 S20 n21 => (if ¬ (∀ q ∈ G19.1, q ∈ G12.1 ∨ (nx + 1) ≤ q) then none else (if n21 < (nx + 1) then none else (if ¬ (a0 ∈ G19.1 ∧ G19.2.1 a0 = 0) then none else (if ¬ ((nx) ∈ G19.1 ∧ G19.2.1 (nx) = 7) then none else (pq_lt (pq_ref G19 a0 0 (nx)) fun G30 => some (G30, S20, n21)))))))))
theorem inu_X0_init_0 : ∀ w ∈ u_ws RX0 TX0 2, w ∈ wsX0_init := pq_inu 19 rfl
theorem inu_X0_init_7 : ∀ w ∈ u_ws RX7 TX7 1, w ∈ wsX0_init := pq_inu 18 rfl
set_option maxHeartbeats 4000000 in
set_option maxRecDepth 100000 in
theorem r_X0_init {l : Launch} {D : va_G} {y : pq_Y} {G0 : pq_G} {S : pq_N} {nx : Nat} {a0 : Nat} (k0_ : pq_ok G0 0 a0) {M1 : pq_M} (h : F_X0_init G0 S nx a0 = some M1) : Met l yX0_init wsX0_init ({ frames := 2, cells := 2, slots := 101, locals := 42 } : Room) (pq_P D y G0 S nx [.ref a0]) (pq_QZ D y G0 nx M1) 2 101 (pq_A G0 nx) := by
  refine pz_enter RX0 1 (by decide) rfl rfl rfl rfl ?_
  intro p e s m below meth c C hsz hr hlk hin2
  subst hsz
  unfold F_X0_init at h
  have hz0 : s.heap.size ≤ s.heap.size := Nat.le_refl _
  have hG0 : ∀ q ∈ G0.1, q ∈ G0.1 ∨ s.heap.size ≤ q := fun q hq => Or.inl hq
  refine pv_sub (lo1 := [(0, .ref a0)]) [0] rfl ?_
  refine pv_aload_n C 0 dX0_init_0 rfl rfl ?_
  refine pz_obj C (List.mem_of_getElem? (i := 1) rfl) (List.mem_of_getElem? (i := 2) rfl) (List.mem_of_getElem? (i := 3) rfl) dX0_init_1 (Nat.le_of_ble_eq_true rfl) (Nat.le_of_ble_eq_true rfl) ?_
  refine pv_aload_n C 0 dX0_init_4 rfl rfl ?_
  refine pz_new C (ci := 7) (T := TX7) (N := 1) inu_X0_init_7 rfl (by decide) tyX7 tyX7_ok (List.mem_of_getElem? (i := 4) rfl) (List.mem_of_getElem? (i := 5) rfl) (List.mem_of_getElem? (i := 6) rfl) (fun j hj => by rcases (show j = 0 by omega) with rfl <;> rfl) (Nat.le_trans (m := 2) (by omega) (Nat.le_of_ble_eq_true rfl)) (Nat.le_trans (m := 101) (by omega) (Nat.le_of_ble_eq_true rfl)) dX0_init_5 (fun n11 => ?_)
  refine pz_nm (fun G12 e13 S14 e15 => ?_)
  have h := pq_ls e13 h
  have h := pq_ls e15 h
  have k16 : pq_ok G12 0 a0 := by rw [e13]; exact pq_okp n11 k0_
  have k17 : pq_ok G12 7 (s.heap.size) := by rw [e13]; exact pq_okn
  have h18 : ∀ q ∈ G12.1, q ∈ G0.1 ∨ s.heap.size ≤ q := by rw [e13]; exact pq_hG hG0 (by omega)
  refine pv_dup C dX0_init_8 rfl ?_
  refine pv_bipush (v := 100) C dX0_init_9 (by decide) ?_
  obtain ⟨⟨G19, S20, n21⟩, e22, h⟩ := pq_bz h
  have h := pq_l3s h
  refine pz_callI C [.int (100 : Int32)] h18 (r_X7_init 100 (by decide) (by decide) k17 e22) (cwI 1 C.1.2.2.2.2 gX0_init_X7_init rfl rfl rfl (C.1.2.2.2.2 _ (List.mem_of_getElem? (i := 6) rfl)) (C.1.2.2.2.2 _ (List.mem_of_getElem? (i := 8) rfl)) (C.1.2.2.2.2 _ (List.mem_of_getElem? (i := 9) rfl)) rfl (by decide +kernel) ⟨Nat.le_of_ble_eq_true rfl, Nat.le_of_ble_eq_true rfl⟩) rfl rfl (Nat.le_of_ble_eq_true rfl) dX0_init_11 ⟨Nat.le_trans (m := 2) (by omega) (Nat.le_of_ble_eq_true rfl), Nat.le_trans (m := 101) (by omega) (Nat.le_of_ble_eq_true rfl)⟩ ?_
  obtain ⟨h23, h⟩ := pq_gd h
  obtain ⟨h24, h⟩ := pq_gd h
  have h25 : ∀ q ∈ G19.1, q ∈ G0.1 ∨ s.heap.size ≤ q := fun q hq => (Decidable.not_not.mp h23 q hq).elim (fun z => h18 q z) (fun z => Or.inr (by omega))
  obtain ⟨g26, h⟩ := pq_gd h
  have k27 : pq_ok G19 0 a0 := by have h9 := Decidable.not_not.mp g26; exact h9
  obtain ⟨g28, h⟩ := pq_gd h
  have k29 : pq_ok G19 7 (s.heap.size) := by have h9 := Decidable.not_not.mp g28; exact h9
  refine pz_putF (T := TX0) (N := 2) C 0 inu_X0_init_0 rfl (by decide) tyX0 tyX0_ok nmX0 (by decide) (List.mem_of_getElem? (i := 7) rfl) rfl k27 rfl hin2 rfl (tyX0_ok 0 (by decide)) rfl rfl dX0_init_14 ?_
  refine pz_nmG (fun G30 e31 => ?_)
  have h := pq_ls e31 h
  have k32 : pq_ok G30 0 a0 := by rw [e31]; exact k27
  have h33 : ∀ q ∈ G30.1, q ∈ G0.1 ∨ s.heap.size ≤ q := by rw [e31]; exact h25
  refine pz_wide (k := 2) (n := 101) (by omega) (by omega) ?_
  exact pz_vret C hr hlk h dX0_init_17
def F_X1_init (G0 : pq_G) (S : pq_N) (nx : Nat) (a0 : Nat) : Option pq_M := (pq_lt (pq_push G0 (nx) 7 0) fun G12 => (pq_lt (pq_zero S (nx)) fun S14 => (Option.bind (F_X7_init G12 S14 (nx + 1) (nx) (1200 : Int32)) fun M => pq_l3 M fun G19 S20 n21 => (if ¬ (∀ q ∈ G19.1, q ∈ G12.1 ∨ (nx + 1) ≤ q) then none else (if n21 < (nx + 1) then none else (if ¬ (a0 ∈ G19.1 ∧ G19.2.1 a0 = 1) then none else (if ¬ ((nx) ∈ G19.1 ∧ G19.2.1 (nx) = 7) then none else (pq_lt (pq_ref G19 a0 0 (nx)) fun G30 => (pq_lt (pq_push G30 (n21) 7 0) fun G35 => (pq_lt (pq_zero S20 (n21)) fun S37 => (Option.bind (F_X7_init G35 S37 (n21 + 1) (n21) (1200 : Int32)) fun M => pq_l3 M fun G42 S43 n44 => (if ¬ (∀ q ∈ G42.1, q ∈ G35.1 ∨ (n21 + 1) ≤ q) then none else (if n44 < (n21 + 1) then none else (if ¬ (a0 ∈ G42.1 ∧ G42.2.1 a0 = 1) then none else (if ¬ ((n21) ∈ G42.1 ∧ G42.2.1 (n21) = 7) then none else (pq_lt (pq_ref G42 a0 1 (n21)) fun G53 => some (G53, S43, n44)))))))))))))))))
theorem inu_X1_init_1 : ∀ w ∈ u_ws RX1 TX1 3, w ∈ wsX1_init := pq_inu 20 rfl
theorem inu_X1_init_7 : ∀ w ∈ u_ws RX7 TX7 1, w ∈ wsX1_init := pq_inu 19 rfl
set_option maxHeartbeats 4000000 in
set_option maxRecDepth 100000 in
theorem r_X1_init {l : Launch} {D : va_G} {y : pq_Y} {G0 : pq_G} {S : pq_N} {nx : Nat} {a0 : Nat} (k0_ : pq_ok G0 1 a0) {M1 : pq_M} (h : F_X1_init G0 S nx a0 = some M1) : Met l yX1_init wsX1_init ({ frames := 2, cells := 4, slots := 2402, locals := 42 } : Room) (pq_P D y G0 S nx [.ref a0]) (pq_QZ D y G0 nx M1) 4 2402 (pq_A G0 nx) := by
  refine pz_enter RX1 1 (by decide) rfl rfl rfl rfl ?_
  intro p e s m below meth c C hsz hr hlk hin2
  subst hsz
  unfold F_X1_init at h
  have hz0 : s.heap.size ≤ s.heap.size := Nat.le_refl _
  have hG0 : ∀ q ∈ G0.1, q ∈ G0.1 ∨ s.heap.size ≤ q := fun q hq => Or.inl hq
  refine pv_sub (lo1 := [(0, .ref a0)]) [0] rfl ?_
  refine pv_aload_n C 0 dX1_init_0 rfl rfl ?_
  refine pz_obj C (List.mem_of_getElem? (i := 1) rfl) (List.mem_of_getElem? (i := 2) rfl) (List.mem_of_getElem? (i := 3) rfl) dX1_init_1 (Nat.le_of_ble_eq_true rfl) (Nat.le_of_ble_eq_true rfl) ?_
  refine pv_aload_n C 0 dX1_init_4 rfl rfl ?_
  refine pz_new C (ci := 7) (T := TX7) (N := 1) inu_X1_init_7 rfl (by decide) tyX7 tyX7_ok (List.mem_of_getElem? (i := 4) rfl) (List.mem_of_getElem? (i := 5) rfl) (List.mem_of_getElem? (i := 6) rfl) (fun j hj => by rcases (show j = 0 by omega) with rfl <;> rfl) (Nat.le_trans (m := 4) (by omega) (Nat.le_of_ble_eq_true rfl)) (Nat.le_trans (m := 2402) (by omega) (Nat.le_of_ble_eq_true rfl)) dX1_init_5 (fun n11 => ?_)
  refine pz_nm (fun G12 e13 S14 e15 => ?_)
  have h := pq_ls e13 h
  have h := pq_ls e15 h
  have k16 : pq_ok G12 1 a0 := by rw [e13]; exact pq_okp n11 k0_
  have k17 : pq_ok G12 7 (s.heap.size) := by rw [e13]; exact pq_okn
  have h18 : ∀ q ∈ G12.1, q ∈ G0.1 ∨ s.heap.size ≤ q := by rw [e13]; exact pq_hG hG0 (by omega)
  refine pv_dup C dX1_init_8 rfl ?_
  refine pv_sipush (v := 1200) C dX1_init_9 (by decide) ?_
  obtain ⟨⟨G19, S20, n21⟩, e22, h⟩ := pq_bz h
  have h := pq_l3s h
  refine pz_callI C [.int (1200 : Int32)] h18 (r_X7_init 1200 (by decide) (by decide) k17 e22) (cwI 1 C.1.2.2.2.2 gX1_init_X7_init rfl rfl rfl (C.1.2.2.2.2 _ (List.mem_of_getElem? (i := 6) rfl)) (C.1.2.2.2.2 _ (List.mem_of_getElem? (i := 9) rfl)) (C.1.2.2.2.2 _ (List.mem_of_getElem? (i := 10) rfl)) rfl (by decide +kernel) ⟨Nat.le_of_ble_eq_true rfl, Nat.le_of_ble_eq_true rfl⟩) rfl rfl (Nat.le_of_ble_eq_true rfl) dX1_init_12 ⟨Nat.le_trans (m := 4) (by omega) (Nat.le_of_ble_eq_true rfl), Nat.le_trans (m := 2402) (by omega) (Nat.le_of_ble_eq_true rfl)⟩ ?_
  obtain ⟨h23, h⟩ := pq_gd h
  obtain ⟨h24, h⟩ := pq_gd h
  have h25 : ∀ q ∈ G19.1, q ∈ G0.1 ∨ s.heap.size ≤ q := fun q hq => (Decidable.not_not.mp h23 q hq).elim (fun z => h18 q z) (fun z => Or.inr (by omega))
  obtain ⟨g26, h⟩ := pq_gd h
  have k27 : pq_ok G19 1 a0 := by have h9 := Decidable.not_not.mp g26; exact h9
  obtain ⟨g28, h⟩ := pq_gd h
  have k29 : pq_ok G19 7 (s.heap.size) := by have h9 := Decidable.not_not.mp g28; exact h9
  refine pz_putF (T := TX1) (N := 3) C 0 inu_X1_init_1 rfl (by decide) tyX1 tyX1_ok nmX1 (by decide) (List.mem_of_getElem? (i := 7) rfl) rfl k27 rfl hin2 rfl (tyX1_ok 0 (by decide)) rfl rfl dX1_init_15 ?_
  refine pz_nmG (fun G30 e31 => ?_)
  have h := pq_ls e31 h
  have k32 : pq_ok G30 1 a0 := by rw [e31]; exact k27
  have h33 : ∀ q ∈ G30.1, q ∈ G0.1 ∨ s.heap.size ≤ q := by rw [e31]; exact h25
  refine pv_aload_n C 0 dX1_init_18 rfl rfl ?_
  refine pz_new C (ci := 7) (T := TX7) (N := 1) inu_X1_init_7 rfl (by decide) tyX7 tyX7_ok (List.mem_of_getElem? (i := 4) rfl) (List.mem_of_getElem? (i := 5) rfl) (List.mem_of_getElem? (i := 6) rfl) (fun j hj => by rcases (show j = 0 by omega) with rfl <;> rfl) (Nat.le_trans (m := 4) (by omega) (Nat.le_of_ble_eq_true rfl)) (Nat.le_trans (m := 2402) (by omega) (Nat.le_of_ble_eq_true rfl)) dX1_init_19 (fun n34 => ?_)
  refine pz_nm (fun G35 e36 S37 e38 => ?_)
  have h := pq_ls e36 h
  have h := pq_ls e38 h
  have k39 : pq_ok G35 1 a0 := by rw [e36]; exact pq_okp n34 k32
  have k40 : pq_ok G35 7 (n21) := by rw [e36]; exact pq_okn
  have h41 : ∀ q ∈ G35.1, q ∈ G0.1 ∨ s.heap.size ≤ q := by rw [e36]; exact pq_hG h33 (by omega)
  refine pv_dup C dX1_init_22 rfl ?_
  refine pv_sipush (v := 1200) C dX1_init_23 (by decide) ?_
  obtain ⟨⟨G42, S43, n44⟩, e45, h⟩ := pq_bz h
  have h := pq_l3s h
  refine pz_callI C [.int (1200 : Int32)] h41 (r_X7_init 1200 (by decide) (by decide) k40 e45) (cwI 1 C.1.2.2.2.2 gX1_init_X7_init rfl rfl rfl (C.1.2.2.2.2 _ (List.mem_of_getElem? (i := 6) rfl)) (C.1.2.2.2.2 _ (List.mem_of_getElem? (i := 9) rfl)) (C.1.2.2.2.2 _ (List.mem_of_getElem? (i := 10) rfl)) rfl (by decide +kernel) ⟨Nat.le_of_ble_eq_true rfl, Nat.le_of_ble_eq_true rfl⟩) rfl rfl (Nat.le_of_ble_eq_true rfl) dX1_init_26 ⟨Nat.le_trans (m := 4) (by omega) (Nat.le_of_ble_eq_true rfl), Nat.le_trans (m := 2402) (by omega) (Nat.le_of_ble_eq_true rfl)⟩ ?_
  obtain ⟨h46, h⟩ := pq_gd h
  obtain ⟨h47, h⟩ := pq_gd h
  have h48 : ∀ q ∈ G42.1, q ∈ G0.1 ∨ s.heap.size ≤ q := fun q hq => (Decidable.not_not.mp h46 q hq).elim (fun z => h41 q z) (fun z => Or.inr (by omega))
  obtain ⟨g49, h⟩ := pq_gd h
  have k50 : pq_ok G42 1 a0 := by have h9 := Decidable.not_not.mp g49; exact h9
  obtain ⟨g51, h⟩ := pq_gd h
  have k52 : pq_ok G42 7 (n21) := by have h9 := Decidable.not_not.mp g51; exact h9
  refine pz_putF (T := TX1) (N := 3) C 1 inu_X1_init_1 rfl (by decide) tyX1 tyX1_ok nmX1 (by decide) (List.mem_of_getElem? (i := 8) rfl) rfl k50 rfl hin2 rfl (tyX1_ok 1 (by decide)) rfl rfl dX1_init_29 ?_
  refine pz_nmG (fun G53 e54 => ?_)
  have h := pq_ls e54 h
  have k55 : pq_ok G53 1 a0 := by rw [e54]; exact k50
  have h56 : ∀ q ∈ G53.1, q ∈ G0.1 ∨ s.heap.size ≤ q := by rw [e54]; exact h48
  refine pz_wide (k := 4) (n := 2402) (by omega) (by omega) ?_
  exact pz_vret C hr hlk h dX1_init_32
def F_X4_init (G0 : pq_G) (S : pq_N) (nx : Nat) (a0 : Nat) : Option pq_M := (pq_lt (pq_push G0 (nx) 7 0) fun G12 => (pq_lt (pq_zero S (nx)) fun S14 => (Option.bind (F_X7_init G12 S14 (nx + 1) (nx) (60 : Int32)) fun M => pq_l3 M fun G19 S20 n21 => (if ¬ (∀ q ∈ G19.1, q ∈ G12.1 ∨ (nx + 1) ≤ q) then none else (if n21 < (nx + 1) then none else (if ¬ (a0 ∈ G19.1 ∧ G19.2.1 a0 = 4) then none else (if ¬ ((nx) ∈ G19.1 ∧ G19.2.1 (nx) = 7) then none else (pq_lt (pq_ref G19 a0 0 (nx)) fun G30 => (pq_lt (pq_push G30 (n21) 7 0) fun G35 => (pq_lt (pq_zero S20 (n21)) fun S37 => (Option.bind (F_X7_init G35 S37 (n21 + 1) (n21) (16 : Int32)) fun M => pq_l3 M fun G42 S43 n44 => (if ¬ (∀ q ∈ G42.1, q ∈ G35.1 ∨ (n21 + 1) ≤ q) then none else (if n44 < (n21 + 1) then none else (if ¬ (a0 ∈ G42.1 ∧ G42.2.1 a0 = 4) then none else (if ¬ ((n21) ∈ G42.1 ∧ G42.2.1 (n21) = 7) then none else (pq_lt (pq_ref G42 a0 1 (n21)) fun G53 => (pq_lt (pq_push G53 (n44) 7 0) fun G58 => (pq_lt (pq_zero S43 (n44)) fun S60 => (Option.bind (F_X7_init G58 S60 (n44 + 1) (n44) (16 : Int32)) fun M => pq_l3 M fun G65 S66 n67 => (if ¬ (∀ q ∈ G65.1, q ∈ G58.1 ∨ (n44 + 1) ≤ q) then none else (if n67 < (n44 + 1) then none else (if ¬ (a0 ∈ G65.1 ∧ G65.2.1 a0 = 4) then none else (if ¬ ((n44) ∈ G65.1 ∧ G65.2.1 (n44) = 7) then none else (pq_lt (pq_ref G65 a0 2 (n44)) fun G76 => (pq_lt (pq_push G76 (n67) 7 0) fun G81 => (pq_lt (pq_zero S66 (n67)) fun S83 => (Option.bind (F_X7_init G81 S83 (n67 + 1) (n67) (16 : Int32)) fun M => pq_l3 M fun G88 S89 n90 => (if ¬ (∀ q ∈ G88.1, q ∈ G81.1 ∨ (n67 + 1) ≤ q) then none else (if n90 < (n67 + 1) then none else (if ¬ (a0 ∈ G88.1 ∧ G88.2.1 a0 = 4) then none else (if ¬ ((n67) ∈ G88.1 ∧ G88.2.1 (n67) = 7) then none else (pq_lt (pq_ref G88 a0 3 (n67)) fun G99 => some (G99, S89, n90)))))))))))))))))))))))))))))))))
theorem inu_X4_init_4 : ∀ w ∈ u_ws RX4 TX4 8, w ∈ wsX4_init := pq_inu 22 rfl
theorem inu_X4_init_7 : ∀ w ∈ u_ws RX7 TX7 1, w ∈ wsX4_init := pq_inu 21 rfl
set_option maxHeartbeats 4000000 in
set_option maxRecDepth 100000 in
theorem r_X4_init {l : Launch} {D : va_G} {y : pq_Y} {G0 : pq_G} {S : pq_N} {nx : Nat} {a0 : Nat} (k0_ : pq_ok G0 4 a0) {M1 : pq_M} (h : F_X4_init G0 S nx a0 = some M1) : Met l yX4_init wsX4_init ({ frames := 2, cells := 8, slots := 112, locals := 42 } : Room) (pq_P D y G0 S nx [.ref a0]) (pq_QZ D y G0 nx M1) 8 112 (pq_A G0 nx) := by
  refine pz_enter RX4 1 (by decide) rfl rfl rfl rfl ?_
  intro p e s m below meth c C hsz hr hlk hin2
  subst hsz
  unfold F_X4_init at h
  have hz0 : s.heap.size ≤ s.heap.size := Nat.le_refl _
  have hG0 : ∀ q ∈ G0.1, q ∈ G0.1 ∨ s.heap.size ≤ q := fun q hq => Or.inl hq
  refine pv_sub (lo1 := [(0, .ref a0)]) [0] rfl ?_
  refine pv_aload_n C 0 dX4_init_0 rfl rfl ?_
  refine pz_obj C (List.mem_of_getElem? (i := 1) rfl) (List.mem_of_getElem? (i := 2) rfl) (List.mem_of_getElem? (i := 3) rfl) dX4_init_1 (Nat.le_of_ble_eq_true rfl) (Nat.le_of_ble_eq_true rfl) ?_
  refine pv_aload_n C 0 dX4_init_4 rfl rfl ?_
  refine pz_new C (ci := 7) (T := TX7) (N := 1) inu_X4_init_7 rfl (by decide) tyX7 tyX7_ok (List.mem_of_getElem? (i := 4) rfl) (List.mem_of_getElem? (i := 5) rfl) (List.mem_of_getElem? (i := 6) rfl) (fun j hj => by rcases (show j = 0 by omega) with rfl <;> rfl) (Nat.le_trans (m := 8) (by omega) (Nat.le_of_ble_eq_true rfl)) (Nat.le_trans (m := 112) (by omega) (Nat.le_of_ble_eq_true rfl)) dX4_init_5 (fun n11 => ?_)
  refine pz_nm (fun G12 e13 S14 e15 => ?_)
  have h := pq_ls e13 h
  have h := pq_ls e15 h
  have k16 : pq_ok G12 4 a0 := by rw [e13]; exact pq_okp n11 k0_
  have k17 : pq_ok G12 7 (s.heap.size) := by rw [e13]; exact pq_okn
  have h18 : ∀ q ∈ G12.1, q ∈ G0.1 ∨ s.heap.size ≤ q := by rw [e13]; exact pq_hG hG0 (by omega)
  refine pv_dup C dX4_init_8 rfl ?_
  refine pv_bipush (v := 60) C dX4_init_9 (by decide) ?_
  obtain ⟨⟨G19, S20, n21⟩, e22, h⟩ := pq_bz h
  have h := pq_l3s h
  refine pz_callI C [.int (60 : Int32)] h18 (r_X7_init 60 (by decide) (by decide) k17 e22) (cwI 1 C.1.2.2.2.2 gX4_init_X7_init rfl rfl rfl (C.1.2.2.2.2 _ (List.mem_of_getElem? (i := 6) rfl)) (C.1.2.2.2.2 _ (List.mem_of_getElem? (i := 11) rfl)) (C.1.2.2.2.2 _ (List.mem_of_getElem? (i := 12) rfl)) rfl (by decide +kernel) ⟨Nat.le_of_ble_eq_true rfl, Nat.le_of_ble_eq_true rfl⟩) rfl rfl (Nat.le_of_ble_eq_true rfl) dX4_init_11 ⟨Nat.le_trans (m := 8) (by omega) (Nat.le_of_ble_eq_true rfl), Nat.le_trans (m := 112) (by omega) (Nat.le_of_ble_eq_true rfl)⟩ ?_
  obtain ⟨h23, h⟩ := pq_gd h
  obtain ⟨h24, h⟩ := pq_gd h
  have h25 : ∀ q ∈ G19.1, q ∈ G0.1 ∨ s.heap.size ≤ q := fun q hq => (Decidable.not_not.mp h23 q hq).elim (fun z => h18 q z) (fun z => Or.inr (by omega))
  obtain ⟨g26, h⟩ := pq_gd h
  have k27 : pq_ok G19 4 a0 := by have h9 := Decidable.not_not.mp g26; exact h9
  obtain ⟨g28, h⟩ := pq_gd h
  have k29 : pq_ok G19 7 (s.heap.size) := by have h9 := Decidable.not_not.mp g28; exact h9
  refine pz_putF (T := TX4) (N := 8) C 0 inu_X4_init_4 rfl (by decide) tyX4 tyX4_ok nmX4 (by decide) (List.mem_of_getElem? (i := 7) rfl) rfl k27 rfl hin2 rfl (tyX4_ok 0 (by decide)) rfl rfl dX4_init_14 ?_
  refine pz_nmG (fun G30 e31 => ?_)
  have h := pq_ls e31 h
  have k32 : pq_ok G30 4 a0 := by rw [e31]; exact k27
  have h33 : ∀ q ∈ G30.1, q ∈ G0.1 ∨ s.heap.size ≤ q := by rw [e31]; exact h25
  refine pv_aload_n C 0 dX4_init_17 rfl rfl ?_
  refine pz_new C (ci := 7) (T := TX7) (N := 1) inu_X4_init_7 rfl (by decide) tyX7 tyX7_ok (List.mem_of_getElem? (i := 4) rfl) (List.mem_of_getElem? (i := 5) rfl) (List.mem_of_getElem? (i := 6) rfl) (fun j hj => by rcases (show j = 0 by omega) with rfl <;> rfl) (Nat.le_trans (m := 8) (by omega) (Nat.le_of_ble_eq_true rfl)) (Nat.le_trans (m := 112) (by omega) (Nat.le_of_ble_eq_true rfl)) dX4_init_18 (fun n34 => ?_)
  refine pz_nm (fun G35 e36 S37 e38 => ?_)
  have h := pq_ls e36 h
  have h := pq_ls e38 h
  have k39 : pq_ok G35 4 a0 := by rw [e36]; exact pq_okp n34 k32
  have k40 : pq_ok G35 7 (n21) := by rw [e36]; exact pq_okn
  have h41 : ∀ q ∈ G35.1, q ∈ G0.1 ∨ s.heap.size ≤ q := by rw [e36]; exact pq_hG h33 (by omega)
  refine pv_dup C dX4_init_21 rfl ?_
  refine pv_bipush (v := 16) C dX4_init_22 (by decide) ?_
  obtain ⟨⟨G42, S43, n44⟩, e45, h⟩ := pq_bz h
  have h := pq_l3s h
  refine pz_callI C [.int (16 : Int32)] h41 (r_X7_init 16 (by decide) (by decide) k40 e45) (cwI 1 C.1.2.2.2.2 gX4_init_X7_init rfl rfl rfl (C.1.2.2.2.2 _ (List.mem_of_getElem? (i := 6) rfl)) (C.1.2.2.2.2 _ (List.mem_of_getElem? (i := 11) rfl)) (C.1.2.2.2.2 _ (List.mem_of_getElem? (i := 12) rfl)) rfl (by decide +kernel) ⟨Nat.le_of_ble_eq_true rfl, Nat.le_of_ble_eq_true rfl⟩) rfl rfl (Nat.le_of_ble_eq_true rfl) dX4_init_24 ⟨Nat.le_trans (m := 8) (by omega) (Nat.le_of_ble_eq_true rfl), Nat.le_trans (m := 112) (by omega) (Nat.le_of_ble_eq_true rfl)⟩ ?_
  obtain ⟨h46, h⟩ := pq_gd h
  obtain ⟨h47, h⟩ := pq_gd h
  have h48 : ∀ q ∈ G42.1, q ∈ G0.1 ∨ s.heap.size ≤ q := fun q hq => (Decidable.not_not.mp h46 q hq).elim (fun z => h41 q z) (fun z => Or.inr (by omega))
  obtain ⟨g49, h⟩ := pq_gd h
  have k50 : pq_ok G42 4 a0 := by have h9 := Decidable.not_not.mp g49; exact h9
  obtain ⟨g51, h⟩ := pq_gd h
  have k52 : pq_ok G42 7 (n21) := by have h9 := Decidable.not_not.mp g51; exact h9
  refine pz_putF (T := TX4) (N := 8) C 1 inu_X4_init_4 rfl (by decide) tyX4 tyX4_ok nmX4 (by decide) (List.mem_of_getElem? (i := 8) rfl) rfl k50 rfl hin2 rfl (tyX4_ok 1 (by decide)) rfl rfl dX4_init_27 ?_
  refine pz_nmG (fun G53 e54 => ?_)
  have h := pq_ls e54 h
  have k55 : pq_ok G53 4 a0 := by rw [e54]; exact k50
  have h56 : ∀ q ∈ G53.1, q ∈ G0.1 ∨ s.heap.size ≤ q := by rw [e54]; exact h48
  refine pv_aload_n C 0 dX4_init_30 rfl rfl ?_
  refine pz_new C (ci := 7) (T := TX7) (N := 1) inu_X4_init_7 rfl (by decide) tyX7 tyX7_ok (List.mem_of_getElem? (i := 4) rfl) (List.mem_of_getElem? (i := 5) rfl) (List.mem_of_getElem? (i := 6) rfl) (fun j hj => by rcases (show j = 0 by omega) with rfl <;> rfl) (Nat.le_trans (m := 8) (by omega) (Nat.le_of_ble_eq_true rfl)) (Nat.le_trans (m := 112) (by omega) (Nat.le_of_ble_eq_true rfl)) dX4_init_31 (fun n57 => ?_)
  refine pz_nm (fun G58 e59 S60 e61 => ?_)
  have h := pq_ls e59 h
  have h := pq_ls e61 h
  have k62 : pq_ok G58 4 a0 := by rw [e59]; exact pq_okp n57 k55
  have k63 : pq_ok G58 7 (n44) := by rw [e59]; exact pq_okn
  have h64 : ∀ q ∈ G58.1, q ∈ G0.1 ∨ s.heap.size ≤ q := by rw [e59]; exact pq_hG h56 (by omega)
  refine pv_dup C dX4_init_34 rfl ?_
  refine pv_bipush (v := 16) C dX4_init_35 (by decide) ?_
  obtain ⟨⟨G65, S66, n67⟩, e68, h⟩ := pq_bz h
  have h := pq_l3s h
  refine pz_callI C [.int (16 : Int32)] h64 (r_X7_init 16 (by decide) (by decide) k63 e68) (cwI 1 C.1.2.2.2.2 gX4_init_X7_init rfl rfl rfl (C.1.2.2.2.2 _ (List.mem_of_getElem? (i := 6) rfl)) (C.1.2.2.2.2 _ (List.mem_of_getElem? (i := 11) rfl)) (C.1.2.2.2.2 _ (List.mem_of_getElem? (i := 12) rfl)) rfl (by decide +kernel) ⟨Nat.le_of_ble_eq_true rfl, Nat.le_of_ble_eq_true rfl⟩) rfl rfl (Nat.le_of_ble_eq_true rfl) dX4_init_37 ⟨Nat.le_trans (m := 8) (by omega) (Nat.le_of_ble_eq_true rfl), Nat.le_trans (m := 112) (by omega) (Nat.le_of_ble_eq_true rfl)⟩ ?_
  obtain ⟨h69, h⟩ := pq_gd h
  obtain ⟨h70, h⟩ := pq_gd h
  have h71 : ∀ q ∈ G65.1, q ∈ G0.1 ∨ s.heap.size ≤ q := fun q hq => (Decidable.not_not.mp h69 q hq).elim (fun z => h64 q z) (fun z => Or.inr (by omega))
  obtain ⟨g72, h⟩ := pq_gd h
  have k73 : pq_ok G65 4 a0 := by have h9 := Decidable.not_not.mp g72; exact h9
  obtain ⟨g74, h⟩ := pq_gd h
  have k75 : pq_ok G65 7 (n44) := by have h9 := Decidable.not_not.mp g74; exact h9
  refine pz_putF (T := TX4) (N := 8) C 2 inu_X4_init_4 rfl (by decide) tyX4 tyX4_ok nmX4 (by decide) (List.mem_of_getElem? (i := 9) rfl) rfl k73 rfl hin2 rfl (tyX4_ok 2 (by decide)) rfl rfl dX4_init_40 ?_
  refine pz_nmG (fun G76 e77 => ?_)
  have h := pq_ls e77 h
  have k78 : pq_ok G76 4 a0 := by rw [e77]; exact k73
  have h79 : ∀ q ∈ G76.1, q ∈ G0.1 ∨ s.heap.size ≤ q := by rw [e77]; exact h71
  refine pv_aload_n C 0 dX4_init_43 rfl rfl ?_
  refine pz_new C (ci := 7) (T := TX7) (N := 1) inu_X4_init_7 rfl (by decide) tyX7 tyX7_ok (List.mem_of_getElem? (i := 4) rfl) (List.mem_of_getElem? (i := 5) rfl) (List.mem_of_getElem? (i := 6) rfl) (fun j hj => by rcases (show j = 0 by omega) with rfl <;> rfl) (Nat.le_trans (m := 8) (by omega) (Nat.le_of_ble_eq_true rfl)) (Nat.le_trans (m := 112) (by omega) (Nat.le_of_ble_eq_true rfl)) dX4_init_44 (fun n80 => ?_)
  refine pz_nm (fun G81 e82 S83 e84 => ?_)
  have h := pq_ls e82 h
  have h := pq_ls e84 h
  have k85 : pq_ok G81 4 a0 := by rw [e82]; exact pq_okp n80 k78
  have k86 : pq_ok G81 7 (n67) := by rw [e82]; exact pq_okn
  have h87 : ∀ q ∈ G81.1, q ∈ G0.1 ∨ s.heap.size ≤ q := by rw [e82]; exact pq_hG h79 (by omega)
  refine pv_dup C dX4_init_47 rfl ?_
  refine pv_bipush (v := 16) C dX4_init_48 (by decide) ?_
  obtain ⟨⟨G88, S89, n90⟩, e91, h⟩ := pq_bz h
  have h := pq_l3s h
  refine pz_callI C [.int (16 : Int32)] h87 (r_X7_init 16 (by decide) (by decide) k86 e91) (cwI 1 C.1.2.2.2.2 gX4_init_X7_init rfl rfl rfl (C.1.2.2.2.2 _ (List.mem_of_getElem? (i := 6) rfl)) (C.1.2.2.2.2 _ (List.mem_of_getElem? (i := 11) rfl)) (C.1.2.2.2.2 _ (List.mem_of_getElem? (i := 12) rfl)) rfl (by decide +kernel) ⟨Nat.le_of_ble_eq_true rfl, Nat.le_of_ble_eq_true rfl⟩) rfl rfl (Nat.le_of_ble_eq_true rfl) dX4_init_50 ⟨Nat.le_trans (m := 8) (by omega) (Nat.le_of_ble_eq_true rfl), Nat.le_trans (m := 112) (by omega) (Nat.le_of_ble_eq_true rfl)⟩ ?_
  obtain ⟨h92, h⟩ := pq_gd h
  obtain ⟨h93, h⟩ := pq_gd h
  have h94 : ∀ q ∈ G88.1, q ∈ G0.1 ∨ s.heap.size ≤ q := fun q hq => (Decidable.not_not.mp h92 q hq).elim (fun z => h87 q z) (fun z => Or.inr (by omega))
  obtain ⟨g95, h⟩ := pq_gd h
  have k96 : pq_ok G88 4 a0 := by have h9 := Decidable.not_not.mp g95; exact h9
  obtain ⟨g97, h⟩ := pq_gd h
  have k98 : pq_ok G88 7 (n67) := by have h9 := Decidable.not_not.mp g97; exact h9
  refine pz_putF (T := TX4) (N := 8) C 3 inu_X4_init_4 rfl (by decide) tyX4 tyX4_ok nmX4 (by decide) (List.mem_of_getElem? (i := 10) rfl) rfl k96 rfl hin2 rfl (tyX4_ok 3 (by decide)) rfl rfl dX4_init_53 ?_
  refine pz_nmG (fun G99 e100 => ?_)
  have h := pq_ls e100 h
  have k101 : pq_ok G99 4 a0 := by rw [e100]; exact k96
  have h102 : ∀ q ∈ G99.1, q ∈ G0.1 ∨ s.heap.size ≤ q := by rw [e100]; exact h94
  refine pz_wide (k := 8) (n := 112) (by omega) (by omega) ?_
  exact pz_vret C hr hlk h dX4_init_56
def F_X9_init_b26 : Nat → pq_G → pq_N → Nat → Nat → Int32 → Option pq_M
  | 0, _, _, _, _, _ => none
  | n + 1, G, S, nx, a0, x1 => (Option.bind (G.2.2.1 a0 0) fun q46 => (if ¬ (q46 ∈ G.1 ∧ G.2.1 q46 = 14) then none else (if (nI (pq_n G q46)) ≤ x1 then some (G, S, nx) else (Option.bind (G.2.2.1 a0 0) fun q51 => (if ¬ (q51 ∈ G.1 ∧ G.2.1 q51 = 14) then none else (pq_lt (pq_push G (nx) 4 0) fun G56 => (pq_lt (pq_zero S (nx)) fun S58 => (Option.bind (F_X4_init G56 S58 (nx + 1) (nx)) fun M => pq_l3 M fun G64 S65 n66 => (if ¬ (∀ q ∈ G64.1, q ∈ G56.1 ∨ (nx + 1) ≤ q) then none else (if n66 < (nx + 1) then none else (if ¬ (a0 ∈ G64.1 ∧ G64.2.1 a0 = 9) then none else (if ¬ ((nx) ∈ G64.1 ∧ G64.2.1 (nx) = 4) then none else (if ¬ (q51 ∈ G64.1 ∧ G64.2.1 q51 = 14) then none else (if x1 < 0 ∨ pq_n G64 q51 ≤ (Int32.toNatClampNeg x1) then none else (pq_lt (pq_ref G64 q51 (Int32.toNatClampNeg x1) (nx)) fun G78 => (F_X9_init_b26 n) G78 S65 (n66) (a0) ((x1 + (1 : Int32))))))))))))))))))
def F_X9_init (G0 : pq_G) (S : pq_N) (nx : Nat) (a0 : Nat) : Option pq_M := (pq_lt (pq_push G0 (nx) 14 20) fun G12 => (pq_lt (pq_zero S (nx)) fun S14 => (pq_lt (pq_ref G12 a0 0 (nx)) fun G19 => (pq_lt (pq_push G19 (nx + 1) 4 0) fun G24 => (pq_lt (pq_zero S14 (nx + 1)) fun S26 => (Option.bind (F_X4_init G24 S26 (nx + 1 + 1) (nx + 1)) fun M => pq_l3 M fun G31 S32 n33 => (if ¬ (∀ q ∈ G31.1, q ∈ G24.1 ∨ (nx + 1 + 1) ≤ q) then none else (if n33 < (nx + 1 + 1) then none else (if ¬ (a0 ∈ G31.1 ∧ G31.2.1 a0 = 9) then none else (if ¬ ((nx + 1) ∈ G31.1 ∧ G31.2.1 (nx + 1) = 4) then none else (pq_lt (pq_ref G31 a0 1 (nx + 1)) fun G42 => F_X9_init_b26 21 G42 S32 (n33) (a0) ((0 : Int32)))))))))))))
theorem inu_X9_init_4 : ∀ w ∈ u_ws RX4 TX4 8, w ∈ wsX9_init := pq_inu 33 rfl
theorem inu_X9_init_9 : ∀ w ∈ u_ws RX9 TX9 4, w ∈ wsX9_init := pq_inu 29 rfl
set_option maxHeartbeats 4000000 in
set_option maxRecDepth 100000 in
theorem r_X9_init_b26 {p : Program} {l : Launch} {e : Env} {s : State} {m : MethodId} {av : Array Value} {below : List Frame} {meth : Method} {c : Code} {D : va_G} {y : pq_Y} {G0 : pq_G} {M1 : pq_M} (C : pq_C p s m av c D y RX9 wsX9_init cX9_init 2) (hr : meth.sig.returnType = none) (hlk : meth.locks = false) (hin2 : meth.name = "<init>") (n : Nat) : ∀ (cells slots : Nat), cells + 9 * n ≤ 199 → slots + 120 * n ≤ 2660 → ∀ (G : pq_G) (S : pq_N) (nx : Nat), s.heap.size ≤ nx → ∀ (a0 : Nat) (x1 : Int32), (∀ q ∈ G.1, q ∈ G0.1 ∨ s.heap.size ≤ q) → pq_ok G 9 a0 → F_X9_init_b26 n G S nx a0 x1 = some M1 → pq_V p l e (headSpec wsX9_init ({ frames := 3, cells := 199, slots := 2660, locals := 62 } : Room)).room s m av below meth c cells slots (MQ below (pq_QZ D y G0 s.heap.size M1) av s 199 2660 (pq_A G0 s.heap.size)) D y 2 (pq_A G0 s.heap.size) (fun H => H.size = nx) G S 26 [(0, .ref a0), (1, .int x1)] [] := by
  induction n with
  | zero =>
    intro cells slots hc9 hs9 G S nx hz0 a0 x1 hG k0_ h
    rw [F_X9_init_b26.eq_1] at h; cases h
  | succ n ih =>
    intro cells slots hc9 hs9 G S nx hz0 a0 x1 hG k0_ h
    rw [F_X9_init_b26.eq_2] at h
    refine pv_iload_n C 1 dX9_init_26 rfl rfl ?_
    refine pv_aload_n C 0 dX9_init_27 rfl rfl ?_
    obtain ⟨q46, e47, h⟩ := pq_bz h
    obtain ⟨g48, h⟩ := pq_gd h
    have k49 : pq_ok G 14 q46 := by have h9 := Decidable.not_not.mp g48; exact h9
    refine pv_getr (T := TX9) (N := 4) C 0 inu_X9_init_9 rfl (by decide) (by decide) (List.mem_of_getElem? (i := 5) rfl) rfl k0_ e47 dX9_init_28 ?_
    refine pv_alen14 C k49 dX9_init_31 ?_
    refine pv_icmp_ge (tgt := 54) C dX9_init_32 (by decide) (fun c50 => ?_) (fun c50 => ?_)
    · have h := pq_it c50 h
      refine pz_wide (k := 199) (n := 2660) (by omega) (by omega) ?_
      exact pz_vret C hr hlk h dX9_init_54
    · have h := pq_if c50 h
      refine pv_aload_n C 0 dX9_init_35 rfl rfl ?_
      obtain ⟨q51, e52, h⟩ := pq_bz h
      obtain ⟨g53, h⟩ := pq_gd h
      have k54 : pq_ok G 14 q51 := by have h9 := Decidable.not_not.mp g53; exact h9
      refine pv_getr (T := TX9) (N := 4) C 0 inu_X9_init_9 rfl (by decide) (by decide) (List.mem_of_getElem? (i := 5) rfl) rfl k0_ e52 dX9_init_36 ?_
      refine pv_iload_n C 1 dX9_init_39 rfl rfl ?_
      refine pz_new C (ci := 4) (T := TX4) (N := 8) inu_X9_init_4 rfl (by decide) tyX4 tyX4_ok (List.mem_of_getElem? (i := 4) rfl) (List.mem_of_getElem? (i := 6) rfl) (List.mem_of_getElem? (i := 7) rfl) (fun j hj => by rcases (show j = 0 ∨ j = 1 ∨ j = 2 ∨ j = 3 ∨ j = 4 ∨ j = 5 ∨ j = 6 ∨ j = 7 by omega) with rfl | rfl | rfl | rfl | rfl | rfl | rfl | rfl <;> rfl) (Nat.le_trans (m := 199) (by omega) (Nat.le_of_ble_eq_true rfl)) (Nat.le_trans (m := 2660) (by omega) (Nat.le_of_ble_eq_true rfl)) dX9_init_40 (fun n55 => ?_)
      refine pz_nm (fun G56 e57 S58 e59 => ?_)
      have h := pq_ls e57 h
      have h := pq_ls e59 h
      have k60 : pq_ok G56 9 a0 := by rw [e57]; exact pq_okp n55 k0_
      have k61 : pq_ok G56 14 q51 := by rw [e57]; exact pq_okp n55 k54
      have k62 : pq_ok G56 4 (nx) := by rw [e57]; exact pq_okn
      have h63 : ∀ q ∈ G56.1, q ∈ G0.1 ∨ s.heap.size ≤ q := by rw [e57]; exact pq_hG hG (by omega)
      refine pv_dup C dX9_init_43 rfl ?_
      obtain ⟨⟨G64, S65, n66⟩, e67, h⟩ := pq_bz h
      have h := pq_l3s h
      refine pz_callIN C [] h63 (r_X4_init k62 e67) ⟨va_cnB 0 C.1.2.2.2.2 gX9_init_X4_init_n17 rfl rfl rfl (C.2.2.1 _ (List.mem_of_getElem? (i := 51) rfl)) (C.1.2.2.2.2 _ (List.mem_of_getElem? (i := 7) rfl)) (by decide +kernel) ⟨Nat.le_of_ble_eq_true rfl, Nat.le_of_ble_eq_true rfl⟩, rfl, (C.1.2.2.2.2 _ (List.mem_of_getElem? (i := 9) rfl))⟩ rfl rfl (Nat.le_of_ble_eq_true rfl) dX9_init_44 ⟨Nat.le_trans (m := 199) (by omega) (Nat.le_of_ble_eq_true rfl), Nat.le_trans (m := 2660) (by omega) (Nat.le_of_ble_eq_true rfl)⟩ ?_
      obtain ⟨h68, h⟩ := pq_gd h
      obtain ⟨h69, h⟩ := pq_gd h
      have h70 : ∀ q ∈ G64.1, q ∈ G0.1 ∨ s.heap.size ≤ q := fun q hq => (Decidable.not_not.mp h68 q hq).elim (fun z => h63 q z) (fun z => Or.inr (by omega))
      obtain ⟨g71, h⟩ := pq_gd h
      have k72 : pq_ok G64 9 a0 := by have h9 := Decidable.not_not.mp g71; exact h9
      obtain ⟨g73, h⟩ := pq_gd h
      have k74 : pq_ok G64 4 (nx) := by have h9 := Decidable.not_not.mp g73; exact h9
      obtain ⟨g75, h⟩ := pq_gd h
      have k76 : pq_ok G64 14 q51 := by have h9 := Decidable.not_not.mp g75; exact h9
      obtain ⟨g77, h⟩ := pq_gd h
      refine pz_aast C 14 2 (ci := 4) (Cn := RX4) rfl (fun _ _ _ o => pq_celP o) rfl (by decide) k76 k74 g77 dX9_init_47 ?_
      refine pz_nmG (fun G78 e79 => ?_)
      have h := pq_ls e79 h
      have k80 : pq_ok G78 9 a0 := by rw [e79]; exact k72
      have h81 : ∀ q ∈ G78.1, q ∈ G0.1 ∨ s.heap.size ≤ q := by rw [e79]; exact h70
      refine pv_iinc (v := (x1 + (1 : Int32))) C 1 [(1, .int (x1 + (1 : Int32))), (0, .ref a0)] dX9_init_48 rfl rfl (by decide) rfl ?_
      refine pv_goto (tgt := 26) C dX9_init_51 (by decide) ?_
      refine pv_sub [1, 0] rfl ?_
      exact ih _ _ (by omega) (by omega) _ _ _ (by omega) _ _ h81 k80 h
set_option maxHeartbeats 4000000 in
set_option maxRecDepth 100000 in
theorem r_X9_init {l : Launch} {D : va_G} {y : pq_Y} {G0 : pq_G} {S : pq_N} {nx : Nat} {a0 : Nat} (k0_ : pq_ok G0 9 a0) {M1 : pq_M} (h : F_X9_init G0 S nx a0 = some M1) : Met l yX9_init wsX9_init ({ frames := 3, cells := 199, slots := 2660, locals := 62 } : Room) (pq_P D y G0 S nx [.ref a0]) (pq_QZ D y G0 nx M1) 199 2660 (pq_A G0 nx) := by
  refine pz_enter RX9 2 (by decide) rfl rfl rfl rfl ?_
  intro p e s m below meth c C hsz hr hlk hin2
  subst hsz
  unfold F_X9_init at h
  have hz0 : s.heap.size ≤ s.heap.size := Nat.le_refl _
  have hG0 : ∀ q ∈ G0.1, q ∈ G0.1 ∨ s.heap.size ≤ q := fun q hq => Or.inl hq
  refine pv_sub (lo1 := [(0, .ref a0)]) [0] rfl ?_
  refine pv_aload_n C 0 dX9_init_0 rfl rfl ?_
  refine pz_obj C (List.mem_of_getElem? (i := 1) rfl) (List.mem_of_getElem? (i := 2) rfl) (List.mem_of_getElem? (i := 3) rfl) dX9_init_1 (Nat.le_of_ble_eq_true rfl) (Nat.le_of_ble_eq_true rfl) ?_
  refine pv_aload_n C 0 dX9_init_4 rfl rfl ?_
  refine pv_bipush (v := 20) C dX9_init_5 (by decide) ?_
  refine pz_newQ C 14 2 (Cn := RX4) rfl (fun _ _ _ o => pq_celP o) (List.mem_of_getElem? (i := 4) rfl) C.2.2.2.1 (N' := 20) (by decide) (by decide) (by decide) (Nat.le_trans (m := 199) (by omega) (Nat.le_of_ble_eq_true rfl)) (Nat.le_trans (m := 2660) (by omega) (Nat.le_of_ble_eq_true rfl)) dX9_init_7 (fun n11 => ?_)
  refine pz_nm (fun G12 e13 S14 e15 => ?_)
  have h := pq_ls e13 h
  have h := pq_ls e15 h
  have k16 : pq_ok G12 9 a0 := by rw [e13]; exact pq_okp n11 k0_
  have k17 : pq_ok G12 14 (s.heap.size) := by rw [e13]; exact pq_okn
  have h18 : ∀ q ∈ G12.1, q ∈ G0.1 ∨ s.heap.size ≤ q := by rw [e13]; exact pq_hG hG0 (by omega)
  refine pz_putF (T := TX9) (N := 4) C 0 inu_X9_init_9 rfl (by decide) tyX9 tyX9_ok nmX9 (by decide) (List.mem_of_getElem? (i := 5) rfl) rfl k16 rfl hin2 rfl (tyX9_ok 0 (by decide)) rfl rfl dX9_init_10 ?_
  refine pz_nmG (fun G19 e20 => ?_)
  have h := pq_ls e20 h
  have k21 : pq_ok G19 9 a0 := by rw [e20]; exact k16
  have h22 : ∀ q ∈ G19.1, q ∈ G0.1 ∨ s.heap.size ≤ q := by rw [e20]; exact h18
  refine pv_aload_n C 0 dX9_init_13 rfl rfl ?_
  refine pz_new C (ci := 4) (T := TX4) (N := 8) inu_X9_init_4 rfl (by decide) tyX4 tyX4_ok (List.mem_of_getElem? (i := 4) rfl) (List.mem_of_getElem? (i := 6) rfl) (List.mem_of_getElem? (i := 7) rfl) (fun j hj => by rcases (show j = 0 ∨ j = 1 ∨ j = 2 ∨ j = 3 ∨ j = 4 ∨ j = 5 ∨ j = 6 ∨ j = 7 by omega) with rfl | rfl | rfl | rfl | rfl | rfl | rfl | rfl <;> rfl) (Nat.le_trans (m := 199) (by omega) (Nat.le_of_ble_eq_true rfl)) (Nat.le_trans (m := 2660) (by omega) (Nat.le_of_ble_eq_true rfl)) dX9_init_14 (fun n23 => ?_)
  refine pz_nm (fun G24 e25 S26 e27 => ?_)
  have h := pq_ls e25 h
  have h := pq_ls e27 h
  have k28 : pq_ok G24 9 a0 := by rw [e25]; exact pq_okp n23 k21
  have k29 : pq_ok G24 4 (s.heap.size + 1) := by rw [e25]; exact pq_okn
  have h30 : ∀ q ∈ G24.1, q ∈ G0.1 ∨ s.heap.size ≤ q := by rw [e25]; exact pq_hG h22 (by omega)
  refine pv_dup C dX9_init_17 rfl ?_
  obtain ⟨⟨G31, S32, n33⟩, e34, h⟩ := pq_bz h
  have h := pq_l3s h
  refine pz_callIN C [] h30 (r_X4_init k29 e34) ⟨va_cnB 0 C.1.2.2.2.2 gX9_init_X4_init_n17 rfl rfl rfl (C.2.2.1 _ (List.mem_of_getElem? (i := 51) rfl)) (C.1.2.2.2.2 _ (List.mem_of_getElem? (i := 7) rfl)) (by decide +kernel) ⟨Nat.le_of_ble_eq_true rfl, Nat.le_of_ble_eq_true rfl⟩, rfl, (C.1.2.2.2.2 _ (List.mem_of_getElem? (i := 9) rfl))⟩ rfl rfl (Nat.le_of_ble_eq_true rfl) dX9_init_18 ⟨Nat.le_trans (m := 199) (by omega) (Nat.le_of_ble_eq_true rfl), Nat.le_trans (m := 2660) (by omega) (Nat.le_of_ble_eq_true rfl)⟩ ?_
  obtain ⟨h35, h⟩ := pq_gd h
  obtain ⟨h36, h⟩ := pq_gd h
  have h37 : ∀ q ∈ G31.1, q ∈ G0.1 ∨ s.heap.size ≤ q := fun q hq => (Decidable.not_not.mp h35 q hq).elim (fun z => h30 q z) (fun z => Or.inr (by omega))
  obtain ⟨g38, h⟩ := pq_gd h
  have k39 : pq_ok G31 9 a0 := by have h9 := Decidable.not_not.mp g38; exact h9
  obtain ⟨g40, h⟩ := pq_gd h
  have k41 : pq_ok G31 4 (s.heap.size + 1) := by have h9 := Decidable.not_not.mp g40; exact h9
  refine pz_putF (T := TX9) (N := 4) C 1 inu_X9_init_9 rfl (by decide) tyX9 tyX9_ok nmX9 (by decide) (List.mem_of_getElem? (i := 8) rfl) rfl k39 rfl hin2 rfl (tyX9_ok 1 (by decide)) rfl rfl dX9_init_21 ?_
  refine pz_nmG (fun G42 e43 => ?_)
  have h := pq_ls e43 h
  have k44 : pq_ok G42 9 a0 := by rw [e43]; exact k39
  have h45 : ∀ q ∈ G42.1, q ∈ G0.1 ∨ s.heap.size ≤ q := by rw [e43]; exact h37
  refine pv_iconst (v := 0) C dX9_init_24 (by decide) ?_
  refine pv_istore_n C [(1, .int (0 : Int32)), (0, .ref a0)] dX9_init_25 rfl (by decide) rfl ?_
  refine pv_sub [1, 0] rfl ?_
  exact r_X9_init_b26 C hr hlk hin2 21 _ _ (by omega) (by omega) _ _ _ (by omega) _ _ h45 k44 h
def F_X2_init_b25 : Nat → pq_G → pq_N → Nat → Nat → Int32 → Option pq_M
  | 0, _, _, _, _, _ => none
  | n + 1, G, S, nx, a0, x1 => (Option.bind (G.2.2.1 a0 0) fun q46 => (if ¬ (q46 ∈ G.1 ∧ G.2.1 q46 = 15) then none else (if (nI (pq_n G q46)) ≤ x1 then some (G, S, nx) else (Option.bind (G.2.2.1 a0 0) fun q51 => (if ¬ (q51 ∈ G.1 ∧ G.2.1 q51 = 15) then none else (pq_lt (pq_push G (nx) 9 0) fun G56 => (pq_lt (pq_zero S (nx)) fun S58 => (Option.bind (F_X9_init G56 S58 (nx + 1) (nx)) fun M => pq_l3 M fun G64 S65 n66 => (if ¬ (∀ q ∈ G64.1, q ∈ G56.1 ∨ (nx + 1) ≤ q) then none else (if n66 < (nx + 1) then none else (if ¬ (a0 ∈ G64.1 ∧ G64.2.1 a0 = 2) then none else (if ¬ ((nx) ∈ G64.1 ∧ G64.2.1 (nx) = 9) then none else (if ¬ (q51 ∈ G64.1 ∧ G64.2.1 q51 = 15) then none else (if x1 < 0 ∨ pq_n G64 q51 ≤ (Int32.toNatClampNeg x1) then none else (pq_lt (pq_ref G64 q51 (Int32.toNatClampNeg x1) (nx)) fun G78 => (F_X2_init_b25 n) G78 S65 (n66) (a0) ((x1 + (1 : Int32))))))))))))))))))
def F_X2_init (G0 : pq_G) (S : pq_N) (nx : Nat) (a0 : Nat) : Option pq_M := (pq_lt (pq_push G0 (nx) 15 5) fun G12 => (pq_lt (pq_zero S (nx)) fun S14 => (pq_lt (pq_ref G12 a0 0 (nx)) fun G19 => (pq_lt (pq_push G19 (nx + 1) 9 0) fun G24 => (pq_lt (pq_zero S14 (nx + 1)) fun S26 => (Option.bind (F_X9_init G24 S26 (nx + 1 + 1) (nx + 1)) fun M => pq_l3 M fun G31 S32 n33 => (if ¬ (∀ q ∈ G31.1, q ∈ G24.1 ∨ (nx + 1 + 1) ≤ q) then none else (if n33 < (nx + 1 + 1) then none else (if ¬ (a0 ∈ G31.1 ∧ G31.2.1 a0 = 2) then none else (if ¬ ((nx + 1) ∈ G31.1 ∧ G31.2.1 (nx + 1) = 9) then none else (pq_lt (pq_ref G31 a0 1 (nx + 1)) fun G42 => F_X2_init_b25 6 G42 S32 (n33) (a0) ((0 : Int32)))))))))))))
theorem inu_X2_init_2 : ∀ w ∈ u_ws RX2 TX2 5, w ∈ wsX2_init := pq_inu 38 rfl
theorem inu_X2_init_9 : ∀ w ∈ u_ws RX9 TX9 4, w ∈ wsX2_init := pq_inu 43 rfl
set_option maxHeartbeats 4000000 in
set_option maxRecDepth 100000 in
theorem r_X2_init_b25 {p : Program} {l : Launch} {e : Env} {s : State} {m : MethodId} {av : Array Value} {below : List Frame} {meth : Method} {c : Code} {D : va_G} {y : pq_Y} {G0 : pq_G} {M1 : pq_M} (C : pq_C p s m av c D y RX2 wsX2_init cX2_init 2) (hr : meth.sig.returnType = none) (hlk : meth.locks = false) (hin2 : meth.name = "<init>") (n : Nat) : ∀ (cells slots : Nat), cells + 200 * n ≤ 1401 → slots + 2664 * n ≤ 18653 → ∀ (G : pq_G) (S : pq_N) (nx : Nat), s.heap.size ≤ nx → ∀ (a0 : Nat) (x1 : Int32), (∀ q ∈ G.1, q ∈ G0.1 ∨ s.heap.size ≤ q) → pq_ok G 2 a0 → F_X2_init_b25 n G S nx a0 x1 = some M1 → pq_V p l e (headSpec wsX2_init ({ frames := 4, cells := 1401, slots := 18653, locals := 83 } : Room)).room s m av below meth c cells slots (MQ below (pq_QZ D y G0 s.heap.size M1) av s 1401 18653 (pq_A G0 s.heap.size)) D y 2 (pq_A G0 s.heap.size) (fun H => H.size = nx) G S 25 [(0, .ref a0), (1, .int x1)] [] := by
  induction n with
  | zero =>
    intro cells slots hc9 hs9 G S nx hz0 a0 x1 hG k0_ h
    rw [F_X2_init_b25.eq_1] at h; cases h
  | succ n ih =>
    intro cells slots hc9 hs9 G S nx hz0 a0 x1 hG k0_ h
    rw [F_X2_init_b25.eq_2] at h
    refine pv_iload_n C 1 dX2_init_25 rfl rfl ?_
    refine pv_aload_n C 0 dX2_init_26 rfl rfl ?_
    obtain ⟨q46, e47, h⟩ := pq_bz h
    obtain ⟨g48, h⟩ := pq_gd h
    have k49 : pq_ok G 15 q46 := by have h9 := Decidable.not_not.mp g48; exact h9
    refine pv_getr (T := TX2) (N := 5) C 0 inu_X2_init_2 rfl (by decide) (by decide) (List.mem_of_getElem? (i := 5) rfl) rfl k0_ e47 dX2_init_27 ?_
    refine pv_alen15 C k49 dX2_init_30 ?_
    refine pv_icmp_ge (tgt := 53) C dX2_init_31 (by decide) (fun c50 => ?_) (fun c50 => ?_)
    · have h := pq_it c50 h
      refine pz_wide (k := 1401) (n := 18653) (by omega) (by omega) ?_
      exact pz_vret C hr hlk h dX2_init_53
    · have h := pq_if c50 h
      refine pv_aload_n C 0 dX2_init_34 rfl rfl ?_
      obtain ⟨q51, e52, h⟩ := pq_bz h
      obtain ⟨g53, h⟩ := pq_gd h
      have k54 : pq_ok G 15 q51 := by have h9 := Decidable.not_not.mp g53; exact h9
      refine pv_getr (T := TX2) (N := 5) C 0 inu_X2_init_2 rfl (by decide) (by decide) (List.mem_of_getElem? (i := 5) rfl) rfl k0_ e52 dX2_init_35 ?_
      refine pv_iload_n C 1 dX2_init_38 rfl rfl ?_
      refine pz_new C (ci := 9) (T := TX9) (N := 4) inu_X2_init_9 rfl (by decide) tyX9 tyX9_ok (List.mem_of_getElem? (i := 4) rfl) (List.mem_of_getElem? (i := 6) rfl) (List.mem_of_getElem? (i := 7) rfl) (fun j hj => by rcases (show j = 0 ∨ j = 1 ∨ j = 2 ∨ j = 3 by omega) with rfl | rfl | rfl | rfl <;> rfl) (Nat.le_trans (m := 1401) (by omega) (Nat.le_of_ble_eq_true rfl)) (Nat.le_trans (m := 18653) (by omega) (Nat.le_of_ble_eq_true rfl)) dX2_init_39 (fun n55 => ?_)
      refine pz_nm (fun G56 e57 S58 e59 => ?_)
      have h := pq_ls e57 h
      have h := pq_ls e59 h
      have k60 : pq_ok G56 2 a0 := by rw [e57]; exact pq_okp n55 k0_
      have k61 : pq_ok G56 15 q51 := by rw [e57]; exact pq_okp n55 k54
      have k62 : pq_ok G56 9 (nx) := by rw [e57]; exact pq_okn
      have h63 : ∀ q ∈ G56.1, q ∈ G0.1 ∨ s.heap.size ≤ q := by rw [e57]; exact pq_hG hG (by omega)
      refine pv_dup C dX2_init_42 rfl ?_
      obtain ⟨⟨G64, S65, n66⟩, e67, h⟩ := pq_bz h
      have h := pq_l3s h
      refine pz_callI C [] h63 (r_X9_init k62 e67) (cwI 0 C.1.2.2.2.2 gX2_init_X9_init rfl rfl rfl (C.1.2.2.2.2 _ (List.mem_of_getElem? (i := 7) rfl)) (C.1.2.2.2.2 _ (List.mem_of_getElem? (i := 9) rfl)) (C.1.2.2.2.2 _ (List.mem_of_getElem? (i := 10) rfl)) rfl (by decide +kernel) ⟨Nat.le_of_ble_eq_true rfl, Nat.le_of_ble_eq_true rfl⟩) rfl rfl (Nat.le_of_ble_eq_true rfl) dX2_init_43 ⟨Nat.le_trans (m := 1401) (by omega) (Nat.le_of_ble_eq_true rfl), Nat.le_trans (m := 18653) (by omega) (Nat.le_of_ble_eq_true rfl)⟩ ?_
      obtain ⟨h68, h⟩ := pq_gd h
      obtain ⟨h69, h⟩ := pq_gd h
      have h70 : ∀ q ∈ G64.1, q ∈ G0.1 ∨ s.heap.size ≤ q := fun q hq => (Decidable.not_not.mp h68 q hq).elim (fun z => h63 q z) (fun z => Or.inr (by omega))
      obtain ⟨g71, h⟩ := pq_gd h
      have k72 : pq_ok G64 2 a0 := by have h9 := Decidable.not_not.mp g71; exact h9
      obtain ⟨g73, h⟩ := pq_gd h
      have k74 : pq_ok G64 9 (nx) := by have h9 := Decidable.not_not.mp g73; exact h9
      obtain ⟨g75, h⟩ := pq_gd h
      have k76 : pq_ok G64 15 q51 := by have h9 := Decidable.not_not.mp g75; exact h9
      obtain ⟨g77, h⟩ := pq_gd h
      refine pz_aast C 15 3 (ci := 9) (Cn := RX9) rfl (fun _ _ _ o => pq_celS o) rfl (by decide) k76 k74 g77 dX2_init_46 ?_
      refine pz_nmG (fun G78 e79 => ?_)
      have h := pq_ls e79 h
      have k80 : pq_ok G78 2 a0 := by rw [e79]; exact k72
      have h81 : ∀ q ∈ G78.1, q ∈ G0.1 ∨ s.heap.size ≤ q := by rw [e79]; exact h70
      refine pv_iinc (v := (x1 + (1 : Int32))) C 1 [(1, .int (x1 + (1 : Int32))), (0, .ref a0)] dX2_init_47 rfl rfl (by decide) rfl ?_
      refine pv_goto (tgt := 25) C dX2_init_50 (by decide) ?_
      refine pv_sub [1, 0] rfl ?_
      exact ih _ _ (by omega) (by omega) _ _ _ (by omega) _ _ h81 k80 h
set_option maxHeartbeats 4000000 in
set_option maxRecDepth 100000 in
theorem r_X2_init {l : Launch} {D : va_G} {y : pq_Y} {G0 : pq_G} {S : pq_N} {nx : Nat} {a0 : Nat} (k0_ : pq_ok G0 2 a0) {M1 : pq_M} (h : F_X2_init G0 S nx a0 = some M1) : Met l yX2_init wsX2_init ({ frames := 4, cells := 1401, slots := 18653, locals := 83 } : Room) (pq_P D y G0 S nx [.ref a0]) (pq_QZ D y G0 nx M1) 1401 18653 (pq_A G0 nx) := by
  refine pz_enter RX2 2 (by decide) rfl rfl rfl rfl ?_
  intro p e s m below meth c C hsz hr hlk hin2
  subst hsz
  unfold F_X2_init at h
  have hz0 : s.heap.size ≤ s.heap.size := Nat.le_refl _
  have hG0 : ∀ q ∈ G0.1, q ∈ G0.1 ∨ s.heap.size ≤ q := fun q hq => Or.inl hq
  refine pv_sub (lo1 := [(0, .ref a0)]) [0] rfl ?_
  refine pv_aload_n C 0 dX2_init_0 rfl rfl ?_
  refine pz_obj C (List.mem_of_getElem? (i := 1) rfl) (List.mem_of_getElem? (i := 2) rfl) (List.mem_of_getElem? (i := 3) rfl) dX2_init_1 (Nat.le_of_ble_eq_true rfl) (Nat.le_of_ble_eq_true rfl) ?_
  refine pv_aload_n C 0 dX2_init_4 rfl rfl ?_
  refine pv_iconst (v := 5) C dX2_init_5 (by decide) ?_
  refine pz_newQ C 15 3 (Cn := RX9) rfl (fun _ _ _ o => pq_celS o) (List.mem_of_getElem? (i := 4) rfl) C.2.2.2.2 (N' := 5) (by decide) (by decide) (by decide) (Nat.le_trans (m := 1401) (by omega) (Nat.le_of_ble_eq_true rfl)) (Nat.le_trans (m := 18653) (by omega) (Nat.le_of_ble_eq_true rfl)) dX2_init_6 (fun n11 => ?_)
  refine pz_nm (fun G12 e13 S14 e15 => ?_)
  have h := pq_ls e13 h
  have h := pq_ls e15 h
  have k16 : pq_ok G12 2 a0 := by rw [e13]; exact pq_okp n11 k0_
  have k17 : pq_ok G12 15 (s.heap.size) := by rw [e13]; exact pq_okn
  have h18 : ∀ q ∈ G12.1, q ∈ G0.1 ∨ s.heap.size ≤ q := by rw [e13]; exact pq_hG hG0 (by omega)
  refine pz_putF (T := TX2) (N := 5) C 0 inu_X2_init_2 rfl (by decide) tyX2 tyX2_ok nmX2 (by decide) (List.mem_of_getElem? (i := 5) rfl) rfl k16 rfl hin2 rfl (tyX2_ok 0 (by decide)) rfl rfl dX2_init_9 ?_
  refine pz_nmG (fun G19 e20 => ?_)
  have h := pq_ls e20 h
  have k21 : pq_ok G19 2 a0 := by rw [e20]; exact k16
  have h22 : ∀ q ∈ G19.1, q ∈ G0.1 ∨ s.heap.size ≤ q := by rw [e20]; exact h18
  refine pv_aload_n C 0 dX2_init_12 rfl rfl ?_
  refine pz_new C (ci := 9) (T := TX9) (N := 4) inu_X2_init_9 rfl (by decide) tyX9 tyX9_ok (List.mem_of_getElem? (i := 4) rfl) (List.mem_of_getElem? (i := 6) rfl) (List.mem_of_getElem? (i := 7) rfl) (fun j hj => by rcases (show j = 0 ∨ j = 1 ∨ j = 2 ∨ j = 3 by omega) with rfl | rfl | rfl | rfl <;> rfl) (Nat.le_trans (m := 1401) (by omega) (Nat.le_of_ble_eq_true rfl)) (Nat.le_trans (m := 18653) (by omega) (Nat.le_of_ble_eq_true rfl)) dX2_init_13 (fun n23 => ?_)
  refine pz_nm (fun G24 e25 S26 e27 => ?_)
  have h := pq_ls e25 h
  have h := pq_ls e27 h
  have k28 : pq_ok G24 2 a0 := by rw [e25]; exact pq_okp n23 k21
  have k29 : pq_ok G24 9 (s.heap.size + 1) := by rw [e25]; exact pq_okn
  have h30 : ∀ q ∈ G24.1, q ∈ G0.1 ∨ s.heap.size ≤ q := by rw [e25]; exact pq_hG h22 (by omega)
  refine pv_dup C dX2_init_16 rfl ?_
  obtain ⟨⟨G31, S32, n33⟩, e34, h⟩ := pq_bz h
  have h := pq_l3s h
  refine pz_callI C [] h30 (r_X9_init k29 e34) (cwI 0 C.1.2.2.2.2 gX2_init_X9_init rfl rfl rfl (C.1.2.2.2.2 _ (List.mem_of_getElem? (i := 7) rfl)) (C.1.2.2.2.2 _ (List.mem_of_getElem? (i := 9) rfl)) (C.1.2.2.2.2 _ (List.mem_of_getElem? (i := 10) rfl)) rfl (by decide +kernel) ⟨Nat.le_of_ble_eq_true rfl, Nat.le_of_ble_eq_true rfl⟩) rfl rfl (Nat.le_of_ble_eq_true rfl) dX2_init_17 ⟨Nat.le_trans (m := 1401) (by omega) (Nat.le_of_ble_eq_true rfl), Nat.le_trans (m := 18653) (by omega) (Nat.le_of_ble_eq_true rfl)⟩ ?_
  obtain ⟨h35, h⟩ := pq_gd h
  obtain ⟨h36, h⟩ := pq_gd h
  have h37 : ∀ q ∈ G31.1, q ∈ G0.1 ∨ s.heap.size ≤ q := fun q hq => (Decidable.not_not.mp h35 q hq).elim (fun z => h30 q z) (fun z => Or.inr (by omega))
  obtain ⟨g38, h⟩ := pq_gd h
  have k39 : pq_ok G31 2 a0 := by have h9 := Decidable.not_not.mp g38; exact h9
  obtain ⟨g40, h⟩ := pq_gd h
  have k41 : pq_ok G31 9 (s.heap.size + 1) := by have h9 := Decidable.not_not.mp g40; exact h9
  refine pz_putF (T := TX2) (N := 5) C 1 inu_X2_init_2 rfl (by decide) tyX2 tyX2_ok nmX2 (by decide) (List.mem_of_getElem? (i := 8) rfl) rfl k39 rfl hin2 rfl (tyX2_ok 1 (by decide)) rfl rfl dX2_init_20 ?_
  refine pz_nmG (fun G42 e43 => ?_)
  have h := pq_ls e43 h
  have k44 : pq_ok G42 2 a0 := by rw [e43]; exact k39
  have h45 : ∀ q ∈ G42.1, q ∈ G0.1 ∨ s.heap.size ≤ q := by rw [e43]; exact h37
  refine pv_iconst (v := 0) C dX2_init_23 (by decide) ?_
  refine pv_istore_n C [(1, .int (0 : Int32)), (0, .ref a0)] dX2_init_24 rfl (by decide) rfl ?_
  refine pv_sub [1, 0] rfl ?_
  exact r_X2_init_b25 C hr hlk hin2 6 _ _ (by omega) (by omega) _ _ _ (by omega) _ _ h45 k44 h
def F_X3_init (G0 : pq_G) (S : pq_N) (nx : Nat) (a0 : Nat) : Option pq_M := (pq_lt (pq_push G0 (nx) 7 0) fun G12 => (pq_lt (pq_zero S (nx)) fun S14 => (Option.bind (F_X7_init G12 S14 (nx + 1) (nx) (20 : Int32)) fun M => pq_l3 M fun G19 S20 n21 => (if ¬ (∀ q ∈ G19.1, q ∈ G12.1 ∨ (nx + 1) ≤ q) then none else (if n21 < (nx + 1) then none else (if ¬ (a0 ∈ G19.1 ∧ G19.2.1 a0 = 3) then none else (if ¬ ((nx) ∈ G19.1 ∧ G19.2.1 (nx) = 7) then none else (pq_lt (pq_ref G19 a0 0 (nx)) fun G30 => some (G30, S20, n21)))))))))
theorem inu_X3_init_3 : ∀ w ∈ u_ws RX3 TX3 1, w ∈ wsX3_init := pq_inu 19 rfl
theorem inu_X3_init_7 : ∀ w ∈ u_ws RX7 TX7 1, w ∈ wsX3_init := pq_inu 18 rfl
set_option maxHeartbeats 4000000 in
set_option maxRecDepth 100000 in
theorem r_X3_init {l : Launch} {D : va_G} {y : pq_Y} {G0 : pq_G} {S : pq_N} {nx : Nat} {a0 : Nat} (k0_ : pq_ok G0 3 a0) {M1 : pq_M} (h : F_X3_init G0 S nx a0 = some M1) : Met l yX3_init wsX3_init ({ frames := 2, cells := 2, slots := 21, locals := 42 } : Room) (pq_P D y G0 S nx [.ref a0]) (pq_QZ D y G0 nx M1) 2 21 (pq_A G0 nx) := by
  refine pz_enter RX3 1 (by decide) rfl rfl rfl rfl ?_
  intro p e s m below meth c C hsz hr hlk hin2
  subst hsz
  unfold F_X3_init at h
  have hz0 : s.heap.size ≤ s.heap.size := Nat.le_refl _
  have hG0 : ∀ q ∈ G0.1, q ∈ G0.1 ∨ s.heap.size ≤ q := fun q hq => Or.inl hq
  refine pv_sub (lo1 := [(0, .ref a0)]) [0] rfl ?_
  refine pv_aload_n C 0 dX3_init_0 rfl rfl ?_
  refine pz_obj C (List.mem_of_getElem? (i := 1) rfl) (List.mem_of_getElem? (i := 2) rfl) (List.mem_of_getElem? (i := 3) rfl) dX3_init_1 (Nat.le_of_ble_eq_true rfl) (Nat.le_of_ble_eq_true rfl) ?_
  refine pv_aload_n C 0 dX3_init_4 rfl rfl ?_
  refine pz_new C (ci := 7) (T := TX7) (N := 1) inu_X3_init_7 rfl (by decide) tyX7 tyX7_ok (List.mem_of_getElem? (i := 4) rfl) (List.mem_of_getElem? (i := 5) rfl) (List.mem_of_getElem? (i := 6) rfl) (fun j hj => by rcases (show j = 0 by omega) with rfl <;> rfl) (Nat.le_trans (m := 2) (by omega) (Nat.le_of_ble_eq_true rfl)) (Nat.le_trans (m := 21) (by omega) (Nat.le_of_ble_eq_true rfl)) dX3_init_5 (fun n11 => ?_)
  refine pz_nm (fun G12 e13 S14 e15 => ?_)
  have h := pq_ls e13 h
  have h := pq_ls e15 h
  have k16 : pq_ok G12 3 a0 := by rw [e13]; exact pq_okp n11 k0_
  have k17 : pq_ok G12 7 (s.heap.size) := by rw [e13]; exact pq_okn
  have h18 : ∀ q ∈ G12.1, q ∈ G0.1 ∨ s.heap.size ≤ q := by rw [e13]; exact pq_hG hG0 (by omega)
  refine pv_dup C dX3_init_8 rfl ?_
  refine pv_bipush (v := 20) C dX3_init_9 (by decide) ?_
  obtain ⟨⟨G19, S20, n21⟩, e22, h⟩ := pq_bz h
  have h := pq_l3s h
  refine pz_callI C [.int (20 : Int32)] h18 (r_X7_init 20 (by decide) (by decide) k17 e22) (cwI 1 C.1.2.2.2.2 gX3_init_X7_init rfl rfl rfl (C.1.2.2.2.2 _ (List.mem_of_getElem? (i := 6) rfl)) (C.1.2.2.2.2 _ (List.mem_of_getElem? (i := 8) rfl)) (C.1.2.2.2.2 _ (List.mem_of_getElem? (i := 9) rfl)) rfl (by decide +kernel) ⟨Nat.le_of_ble_eq_true rfl, Nat.le_of_ble_eq_true rfl⟩) rfl rfl (Nat.le_of_ble_eq_true rfl) dX3_init_11 ⟨Nat.le_trans (m := 2) (by omega) (Nat.le_of_ble_eq_true rfl), Nat.le_trans (m := 21) (by omega) (Nat.le_of_ble_eq_true rfl)⟩ ?_
  obtain ⟨h23, h⟩ := pq_gd h
  obtain ⟨h24, h⟩ := pq_gd h
  have h25 : ∀ q ∈ G19.1, q ∈ G0.1 ∨ s.heap.size ≤ q := fun q hq => (Decidable.not_not.mp h23 q hq).elim (fun z => h18 q z) (fun z => Or.inr (by omega))
  obtain ⟨g26, h⟩ := pq_gd h
  have k27 : pq_ok G19 3 a0 := by have h9 := Decidable.not_not.mp g26; exact h9
  obtain ⟨g28, h⟩ := pq_gd h
  have k29 : pq_ok G19 7 (s.heap.size) := by have h9 := Decidable.not_not.mp g28; exact h9
  refine pz_putF (T := TX3) (N := 1) C 0 inu_X3_init_3 rfl (by decide) tyX3 tyX3_ok nmX3 (by decide) (List.mem_of_getElem? (i := 7) rfl) rfl k27 rfl hin2 rfl (tyX3_ok 0 (by decide)) rfl rfl dX3_init_14 ?_
  refine pz_nmG (fun G30 e31 => ?_)
  have h := pq_ls e31 h
  have k32 : pq_ok G30 3 a0 := by rw [e31]; exact k27
  have h33 : ∀ q ∈ G30.1, q ∈ G0.1 ∨ s.heap.size ≤ q := by rw [e31]; exact h25
  refine pz_wide (k := 2) (n := 21) (by omega) (by omega) ?_
  exact pz_vret C hr hlk h dX3_init_17
def F_X8_init (G0 : pq_G) (S : pq_N) (nx : Nat) (a0 : Nat) : Option pq_M := (pq_lt (pq_push G0 (nx) 7 0) fun G12 => (pq_lt (pq_zero S (nx)) fun S14 => (Option.bind (F_X7_init G12 S14 (nx + 1) (nx) (61 : Int32)) fun M => pq_l3 M fun G19 S20 n21 => (if ¬ (∀ q ∈ G19.1, q ∈ G12.1 ∨ (nx + 1) ≤ q) then none else (if n21 < (nx + 1) then none else (if ¬ (a0 ∈ G19.1 ∧ G19.2.1 a0 = 8) then none else (if ¬ ((nx) ∈ G19.1 ∧ G19.2.1 (nx) = 7) then none else (pq_lt (pq_ref G19 a0 0 (nx)) fun G30 => some (G30, S20, n21)))))))))
theorem inu_X8_init_7 : ∀ w ∈ u_ws RX7 TX7 1, w ∈ wsX8_init := pq_inu 18 rfl
theorem inu_X8_init_8 : ∀ w ∈ u_ws RX8 TX8 4, w ∈ wsX8_init := pq_inu 19 rfl
set_option maxHeartbeats 4000000 in
set_option maxRecDepth 100000 in
theorem r_X8_init {l : Launch} {D : va_G} {y : pq_Y} {G0 : pq_G} {S : pq_N} {nx : Nat} {a0 : Nat} (k0_ : pq_ok G0 8 a0) {M1 : pq_M} (h : F_X8_init G0 S nx a0 = some M1) : Met l yX8_init wsX8_init ({ frames := 2, cells := 2, slots := 62, locals := 42 } : Room) (pq_P D y G0 S nx [.ref a0]) (pq_QZ D y G0 nx M1) 2 62 (pq_A G0 nx) := by
  refine pz_enter RX8 1 (by decide) rfl rfl rfl rfl ?_
  intro p e s m below meth c C hsz hr hlk hin2
  subst hsz
  unfold F_X8_init at h
  have hz0 : s.heap.size ≤ s.heap.size := Nat.le_refl _
  have hG0 : ∀ q ∈ G0.1, q ∈ G0.1 ∨ s.heap.size ≤ q := fun q hq => Or.inl hq
  refine pv_sub (lo1 := [(0, .ref a0)]) [0] rfl ?_
  refine pv_aload_n C 0 dX8_init_0 rfl rfl ?_
  refine pz_obj C (List.mem_of_getElem? (i := 1) rfl) (List.mem_of_getElem? (i := 2) rfl) (List.mem_of_getElem? (i := 3) rfl) dX8_init_1 (Nat.le_of_ble_eq_true rfl) (Nat.le_of_ble_eq_true rfl) ?_
  refine pv_aload_n C 0 dX8_init_4 rfl rfl ?_
  refine pz_new C (ci := 7) (T := TX7) (N := 1) inu_X8_init_7 rfl (by decide) tyX7 tyX7_ok (List.mem_of_getElem? (i := 4) rfl) (List.mem_of_getElem? (i := 5) rfl) (List.mem_of_getElem? (i := 6) rfl) (fun j hj => by rcases (show j = 0 by omega) with rfl <;> rfl) (Nat.le_trans (m := 2) (by omega) (Nat.le_of_ble_eq_true rfl)) (Nat.le_trans (m := 62) (by omega) (Nat.le_of_ble_eq_true rfl)) dX8_init_5 (fun n11 => ?_)
  refine pz_nm (fun G12 e13 S14 e15 => ?_)
  have h := pq_ls e13 h
  have h := pq_ls e15 h
  have k16 : pq_ok G12 8 a0 := by rw [e13]; exact pq_okp n11 k0_
  have k17 : pq_ok G12 7 (s.heap.size) := by rw [e13]; exact pq_okn
  have h18 : ∀ q ∈ G12.1, q ∈ G0.1 ∨ s.heap.size ≤ q := by rw [e13]; exact pq_hG hG0 (by omega)
  refine pv_dup C dX8_init_8 rfl ?_
  refine pv_bipush (v := 61) C dX8_init_9 (by decide) ?_
  obtain ⟨⟨G19, S20, n21⟩, e22, h⟩ := pq_bz h
  have h := pq_l3s h
  refine pz_callI C [.int (61 : Int32)] h18 (r_X7_init 61 (by decide) (by decide) k17 e22) (cwI 1 C.1.2.2.2.2 gX8_init_X7_init rfl rfl rfl (C.1.2.2.2.2 _ (List.mem_of_getElem? (i := 6) rfl)) (C.1.2.2.2.2 _ (List.mem_of_getElem? (i := 8) rfl)) (C.1.2.2.2.2 _ (List.mem_of_getElem? (i := 9) rfl)) rfl (by decide +kernel) ⟨Nat.le_of_ble_eq_true rfl, Nat.le_of_ble_eq_true rfl⟩) rfl rfl (Nat.le_of_ble_eq_true rfl) dX8_init_11 ⟨Nat.le_trans (m := 2) (by omega) (Nat.le_of_ble_eq_true rfl), Nat.le_trans (m := 62) (by omega) (Nat.le_of_ble_eq_true rfl)⟩ ?_
  obtain ⟨h23, h⟩ := pq_gd h
  obtain ⟨h24, h⟩ := pq_gd h
  have h25 : ∀ q ∈ G19.1, q ∈ G0.1 ∨ s.heap.size ≤ q := fun q hq => (Decidable.not_not.mp h23 q hq).elim (fun z => h18 q z) (fun z => Or.inr (by omega))
  obtain ⟨g26, h⟩ := pq_gd h
  have k27 : pq_ok G19 8 a0 := by have h9 := Decidable.not_not.mp g26; exact h9
  obtain ⟨g28, h⟩ := pq_gd h
  have k29 : pq_ok G19 7 (s.heap.size) := by have h9 := Decidable.not_not.mp g28; exact h9
  refine pz_putF (T := TX8) (N := 4) C 0 inu_X8_init_8 rfl (by decide) tyX8 tyX8_ok nmX8 (by decide) (List.mem_of_getElem? (i := 7) rfl) rfl k27 rfl hin2 rfl (tyX8_ok 0 (by decide)) rfl rfl dX8_init_14 ?_
  refine pz_nmG (fun G30 e31 => ?_)
  have h := pq_ls e31 h
  have k32 : pq_ok G30 8 a0 := by rw [e31]; exact k27
  have h33 : ∀ q ∈ G30.1, q ∈ G0.1 ∨ s.heap.size ≤ q := by rw [e31]; exact h25
  refine pz_wide (k := 2) (n := 62) (by omega) (by omega) ?_
  exact pz_vret C hr hlk h dX8_init_17
def F_X5_init (G0 : pq_G) (S : pq_N) (nx : Nat) (a0 : Nat) : Option pq_M := (pq_lt (pq_push G0 (nx) 8 0) fun G12 => (pq_lt (pq_zero S (nx)) fun S14 => (Option.bind (F_X8_init G12 S14 (nx + 1) (nx)) fun M => pq_l3 M fun G19 S20 n21 => (if ¬ (∀ q ∈ G19.1, q ∈ G12.1 ∨ (nx + 1) ≤ q) then none else (if n21 < (nx + 1) then none else (if ¬ (a0 ∈ G19.1 ∧ G19.2.1 a0 = 5) then none else (if ¬ ((nx) ∈ G19.1 ∧ G19.2.1 (nx) = 8) then none else (pq_lt (pq_ref G19 a0 0 (nx)) fun G30 => some (G30, S20, n21)))))))))
theorem inu_X5_init_5 : ∀ w ∈ u_ws RX5 TX5 3, w ∈ wsX5_init := pq_inu 29 rfl
theorem inu_X5_init_8 : ∀ w ∈ u_ws RX8 TX8 4, w ∈ wsX5_init := pq_inu 25 rfl
set_option maxHeartbeats 4000000 in
set_option maxRecDepth 100000 in
theorem r_X5_init {l : Launch} {D : va_G} {y : pq_Y} {G0 : pq_G} {S : pq_N} {nx : Nat} {a0 : Nat} (k0_ : pq_ok G0 5 a0) {M1 : pq_M} (h : F_X5_init G0 S nx a0 = some M1) : Met l yX5_init wsX5_init ({ frames := 3, cells := 3, slots := 66, locals := 62 } : Room) (pq_P D y G0 S nx [.ref a0]) (pq_QZ D y G0 nx M1) 3 66 (pq_A G0 nx) := by
  refine pz_enter RX5 1 (by decide) rfl rfl rfl rfl ?_
  intro p e s m below meth c C hsz hr hlk hin2
  subst hsz
  unfold F_X5_init at h
  have hz0 : s.heap.size ≤ s.heap.size := Nat.le_refl _
  have hG0 : ∀ q ∈ G0.1, q ∈ G0.1 ∨ s.heap.size ≤ q := fun q hq => Or.inl hq
  refine pv_sub (lo1 := [(0, .ref a0)]) [0] rfl ?_
  refine pv_aload_n C 0 dX5_init_0 rfl rfl ?_
  refine pz_obj C (List.mem_of_getElem? (i := 1) rfl) (List.mem_of_getElem? (i := 2) rfl) (List.mem_of_getElem? (i := 3) rfl) dX5_init_1 (Nat.le_of_ble_eq_true rfl) (Nat.le_of_ble_eq_true rfl) ?_
  refine pv_aload_n C 0 dX5_init_4 rfl rfl ?_
  refine pz_new C (ci := 8) (T := TX8) (N := 4) inu_X5_init_8 rfl (by decide) tyX8 tyX8_ok (List.mem_of_getElem? (i := 4) rfl) (List.mem_of_getElem? (i := 5) rfl) (List.mem_of_getElem? (i := 6) rfl) (fun j hj => by rcases (show j = 0 ∨ j = 1 ∨ j = 2 ∨ j = 3 by omega) with rfl | rfl | rfl | rfl <;> rfl) (Nat.le_trans (m := 3) (by omega) (Nat.le_of_ble_eq_true rfl)) (Nat.le_trans (m := 66) (by omega) (Nat.le_of_ble_eq_true rfl)) dX5_init_5 (fun n11 => ?_)
  refine pz_nm (fun G12 e13 S14 e15 => ?_)
  have h := pq_ls e13 h
  have h := pq_ls e15 h
  have k16 : pq_ok G12 5 a0 := by rw [e13]; exact pq_okp n11 k0_
  have k17 : pq_ok G12 8 (s.heap.size) := by rw [e13]; exact pq_okn
  have h18 : ∀ q ∈ G12.1, q ∈ G0.1 ∨ s.heap.size ≤ q := by rw [e13]; exact pq_hG hG0 (by omega)
  refine pv_dup C dX5_init_8 rfl ?_
  obtain ⟨⟨G19, S20, n21⟩, e22, h⟩ := pq_bz h
  have h := pq_l3s h
  refine pz_callIN C [] h18 (r_X8_init k17 e22) ⟨va_cnB 0 C.1.2.2.2.2 gX5_init_X8_init_n11 rfl rfl rfl (C.2.2.1 _ (List.mem_of_getElem? (i := 56) rfl)) (C.1.2.2.2.2 _ (List.mem_of_getElem? (i := 6) rfl)) (by decide +kernel) ⟨Nat.le_of_ble_eq_true rfl, Nat.le_of_ble_eq_true rfl⟩, rfl, (C.1.2.2.2.2 _ (List.mem_of_getElem? (i := 8) rfl))⟩ rfl rfl (Nat.le_of_ble_eq_true rfl) dX5_init_9 ⟨Nat.le_trans (m := 3) (by omega) (Nat.le_of_ble_eq_true rfl), Nat.le_trans (m := 66) (by omega) (Nat.le_of_ble_eq_true rfl)⟩ ?_
  obtain ⟨h23, h⟩ := pq_gd h
  obtain ⟨h24, h⟩ := pq_gd h
  have h25 : ∀ q ∈ G19.1, q ∈ G0.1 ∨ s.heap.size ≤ q := fun q hq => (Decidable.not_not.mp h23 q hq).elim (fun z => h18 q z) (fun z => Or.inr (by omega))
  obtain ⟨g26, h⟩ := pq_gd h
  have k27 : pq_ok G19 5 a0 := by have h9 := Decidable.not_not.mp g26; exact h9
  obtain ⟨g28, h⟩ := pq_gd h
  have k29 : pq_ok G19 8 (s.heap.size) := by have h9 := Decidable.not_not.mp g28; exact h9
  refine pz_putF (T := TX5) (N := 3) C 0 inu_X5_init_5 rfl (by decide) tyX5 tyX5_ok nmX5 (by decide) (List.mem_of_getElem? (i := 7) rfl) rfl k27 rfl hin2 rfl (tyX5_ok 0 (by decide)) rfl rfl dX5_init_12 ?_
  refine pz_nmG (fun G30 e31 => ?_)
  have h := pq_ls e31 h
  have k32 : pq_ok G30 5 a0 := by rw [e31]; exact k27
  have h33 : ∀ q ∈ G30.1, q ∈ G0.1 ∨ s.heap.size ≤ q := by rw [e31]; exact h25
  refine pz_wide (k := 3) (n := 66) (by omega) (by omega) ?_
  exact pz_vret C hr hlk h dX5_init_15
def F_X6_init (G0 : pq_G) (S : pq_N) (nx : Nat) (a0 : Nat) : Option pq_M := (pq_lt (pq_push G0 (nx) 4 0) fun G12 => (pq_lt (pq_zero S (nx)) fun S14 => (Option.bind (F_X4_init G12 S14 (nx + 1) (nx)) fun M => pq_l3 M fun G19 S20 n21 => (if ¬ (∀ q ∈ G19.1, q ∈ G12.1 ∨ (nx + 1) ≤ q) then none else (if n21 < (nx + 1) then none else (if ¬ (a0 ∈ G19.1 ∧ G19.2.1 a0 = 6) then none else (if ¬ ((nx) ∈ G19.1 ∧ G19.2.1 (nx) = 4) then none else (pq_lt (pq_ref G19 a0 0 (nx)) fun G30 => some (G30, S20, n21)))))))))
theorem inu_X6_init_4 : ∀ w ∈ u_ws RX4 TX4 8, w ∈ wsX6_init := pq_inu 28 rfl
theorem inu_X6_init_6 : ∀ w ∈ u_ws RX6 TX6 5, w ∈ wsX6_init := pq_inu 36 rfl
set_option maxHeartbeats 4000000 in
set_option maxRecDepth 100000 in
theorem r_X6_init {l : Launch} {D : va_G} {y : pq_Y} {G0 : pq_G} {S : pq_N} {nx : Nat} {a0 : Nat} (k0_ : pq_ok G0 6 a0) {M1 : pq_M} (h : F_X6_init G0 S nx a0 = some M1) : Met l yX6_init wsX6_init ({ frames := 3, cells := 9, slots := 120, locals := 62 } : Room) (pq_P D y G0 S nx [.ref a0]) (pq_QZ D y G0 nx M1) 9 120 (pq_A G0 nx) := by
  refine pz_enter RX6 1 (by decide) rfl rfl rfl rfl ?_
  intro p e s m below meth c C hsz hr hlk hin2
  subst hsz
  unfold F_X6_init at h
  have hz0 : s.heap.size ≤ s.heap.size := Nat.le_refl _
  have hG0 : ∀ q ∈ G0.1, q ∈ G0.1 ∨ s.heap.size ≤ q := fun q hq => Or.inl hq
  refine pv_sub (lo1 := [(0, .ref a0)]) [0] rfl ?_
  refine pv_aload_n C 0 dX6_init_0 rfl rfl ?_
  refine pz_obj C (List.mem_of_getElem? (i := 1) rfl) (List.mem_of_getElem? (i := 2) rfl) (List.mem_of_getElem? (i := 3) rfl) dX6_init_1 (Nat.le_of_ble_eq_true rfl) (Nat.le_of_ble_eq_true rfl) ?_
  refine pv_aload_n C 0 dX6_init_4 rfl rfl ?_
  refine pz_new C (ci := 4) (T := TX4) (N := 8) inu_X6_init_4 rfl (by decide) tyX4 tyX4_ok (List.mem_of_getElem? (i := 4) rfl) (List.mem_of_getElem? (i := 5) rfl) (List.mem_of_getElem? (i := 6) rfl) (fun j hj => by rcases (show j = 0 ∨ j = 1 ∨ j = 2 ∨ j = 3 ∨ j = 4 ∨ j = 5 ∨ j = 6 ∨ j = 7 by omega) with rfl | rfl | rfl | rfl | rfl | rfl | rfl | rfl <;> rfl) (Nat.le_trans (m := 9) (by omega) (Nat.le_of_ble_eq_true rfl)) (Nat.le_trans (m := 120) (by omega) (Nat.le_of_ble_eq_true rfl)) dX6_init_5 (fun n11 => ?_)
  refine pz_nm (fun G12 e13 S14 e15 => ?_)
  have h := pq_ls e13 h
  have h := pq_ls e15 h
  have k16 : pq_ok G12 6 a0 := by rw [e13]; exact pq_okp n11 k0_
  have k17 : pq_ok G12 4 (s.heap.size) := by rw [e13]; exact pq_okn
  have h18 : ∀ q ∈ G12.1, q ∈ G0.1 ∨ s.heap.size ≤ q := by rw [e13]; exact pq_hG hG0 (by omega)
  refine pv_dup C dX6_init_8 rfl ?_
  obtain ⟨⟨G19, S20, n21⟩, e22, h⟩ := pq_bz h
  have h := pq_l3s h
  refine pz_callIN C [] h18 (r_X4_init k17 e22) ⟨va_cnB 0 C.1.2.2.2.2 gX6_init_X4_init_n11 rfl rfl rfl (C.2.2.1 _ (List.mem_of_getElem? (i := 54) rfl)) (C.1.2.2.2.2 _ (List.mem_of_getElem? (i := 6) rfl)) (by decide +kernel) ⟨Nat.le_of_ble_eq_true rfl, Nat.le_of_ble_eq_true rfl⟩, rfl, (C.1.2.2.2.2 _ (List.mem_of_getElem? (i := 8) rfl))⟩ rfl rfl (Nat.le_of_ble_eq_true rfl) dX6_init_9 ⟨Nat.le_trans (m := 9) (by omega) (Nat.le_of_ble_eq_true rfl), Nat.le_trans (m := 120) (by omega) (Nat.le_of_ble_eq_true rfl)⟩ ?_
  obtain ⟨h23, h⟩ := pq_gd h
  obtain ⟨h24, h⟩ := pq_gd h
  have h25 : ∀ q ∈ G19.1, q ∈ G0.1 ∨ s.heap.size ≤ q := fun q hq => (Decidable.not_not.mp h23 q hq).elim (fun z => h18 q z) (fun z => Or.inr (by omega))
  obtain ⟨g26, h⟩ := pq_gd h
  have k27 : pq_ok G19 6 a0 := by have h9 := Decidable.not_not.mp g26; exact h9
  obtain ⟨g28, h⟩ := pq_gd h
  have k29 : pq_ok G19 4 (s.heap.size) := by have h9 := Decidable.not_not.mp g28; exact h9
  refine pz_putF (T := TX6) (N := 5) C 0 inu_X6_init_6 rfl (by decide) tyX6 tyX6_ok nmX6 (by decide) (List.mem_of_getElem? (i := 7) rfl) rfl k27 rfl hin2 rfl (tyX6_ok 0 (by decide)) rfl rfl dX6_init_12 ?_
  refine pz_nmG (fun G30 e31 => ?_)
  have h := pq_ls e31 h
  have k32 : pq_ok G30 6 a0 := by rw [e31]; exact k27
  have h33 : ∀ q ∈ G30.1, q ∈ G0.1 ∨ s.heap.size ≤ q := by rw [e31]; exact h25
  refine pz_wide (k := 9) (n := 120) (by omega) (by omega) ?_
  exact pz_vret C hr hlk h dX6_init_15
def F_X10_init (G0 : pq_G) (S : pq_N) (nx : Nat) (a0 : Nat) : Option pq_M := (pq_lt (pq_push G0 (nx) 9 0) fun G12 => (pq_lt (pq_zero S (nx)) fun S14 => (Option.bind (F_X9_init G12 S14 (nx + 1) (nx)) fun M => pq_l3 M fun G19 S20 n21 => (if ¬ (∀ q ∈ G19.1, q ∈ G12.1 ∨ (nx + 1) ≤ q) then none else (if n21 < (nx + 1) then none else (if ¬ (a0 ∈ G19.1 ∧ G19.2.1 a0 = 10) then none else (if ¬ ((nx) ∈ G19.1 ∧ G19.2.1 (nx) = 9) then none else (pq_lt (pq_ref G19 a0 0 (nx)) fun G30 => (pq_lt (pq_push G30 (n21) 2 0) fun G35 => (pq_lt (pq_zero S20 (n21)) fun S37 => (Option.bind (F_X2_init G35 S37 (n21 + 1) (n21)) fun M => pq_l3 M fun G42 S43 n44 => (if ¬ (∀ q ∈ G42.1, q ∈ G35.1 ∨ (n21 + 1) ≤ q) then none else (if n44 < (n21 + 1) then none else (if ¬ (a0 ∈ G42.1 ∧ G42.2.1 a0 = 10) then none else (if ¬ ((n21) ∈ G42.1 ∧ G42.2.1 (n21) = 2) then none else (pq_lt (pq_ref G42 a0 1 (n21)) fun G53 => (pq_lt (pq_push G53 (n44) 0 0) fun G58 => (pq_lt (pq_zero S43 (n44)) fun S60 => (Option.bind (F_X0_init G58 S60 (n44 + 1) (n44)) fun M => pq_l3 M fun G65 S66 n67 => (if ¬ (∀ q ∈ G65.1, q ∈ G58.1 ∨ (n44 + 1) ≤ q) then none else (if n67 < (n44 + 1) then none else (if ¬ (a0 ∈ G65.1 ∧ G65.2.1 a0 = 10) then none else (if ¬ ((n44) ∈ G65.1 ∧ G65.2.1 (n44) = 0) then none else (pq_lt (pq_ref G65 a0 2 (n44)) fun G76 => (pq_lt (pq_push G76 (n67) 6 0) fun G81 => (pq_lt (pq_zero S66 (n67)) fun S83 => (Option.bind (F_X6_init G81 S83 (n67 + 1) (n67)) fun M => pq_l3 M fun G88 S89 n90 => (if ¬ (∀ q ∈ G88.1, q ∈ G81.1 ∨ (n67 + 1) ≤ q) then none else (if n90 < (n67 + 1) then none else (if ¬ (a0 ∈ G88.1 ∧ G88.2.1 a0 = 10) then none else (if ¬ ((n67) ∈ G88.1 ∧ G88.2.1 (n67) = 6) then none else (pq_lt (pq_ref G88 a0 3 (n67)) fun G99 => (pq_lt (pq_push G99 (n90) 5 0) fun G104 => (pq_lt (pq_zero S89 (n90)) fun S106 => (Option.bind (F_X5_init G104 S106 (n90 + 1) (n90)) fun M => pq_l3 M fun G111 S112 n113 => (if ¬ (∀ q ∈ G111.1, q ∈ G104.1 ∨ (n90 + 1) ≤ q) then none else (if n113 < (n90 + 1) then none else (if ¬ (a0 ∈ G111.1 ∧ G111.2.1 a0 = 10) then none else (if ¬ ((n90) ∈ G111.1 ∧ G111.2.1 (n90) = 5) then none else (pq_lt (pq_ref G111 a0 4 (n90)) fun G122 => (pq_lt (pq_push G122 (n113) 3 0) fun G127 => (pq_lt (pq_zero S112 (n113)) fun S129 => (Option.bind (F_X3_init G127 S129 (n113 + 1) (n113)) fun M => pq_l3 M fun G134 S135 n136 => (if ¬ (∀ q ∈ G134.1, q ∈ G127.1 ∨ (n113 + 1) ≤ q) then none else (if n136 < (n113 + 1) then none else (if ¬ (a0 ∈ G134.1 ∧ G134.2.1 a0 = 10) then none else (if ¬ ((n113) ∈ G134.1 ∧ G134.2.1 (n113) = 3) then none else (pq_lt (pq_ref G134 a0 5 (n113)) fun G145 => (pq_lt (pq_push G145 (n136) 1 0) fun G150 => (pq_lt (pq_zero S135 (n136)) fun S152 => (Option.bind (F_X1_init G150 S152 (n136 + 1) (n136)) fun M => pq_l3 M fun G157 S158 n159 => (if ¬ (∀ q ∈ G157.1, q ∈ G150.1 ∨ (n136 + 1) ≤ q) then none else (if n159 < (n136 + 1) then none else (if ¬ (a0 ∈ G157.1 ∧ G157.2.1 a0 = 10) then none else (if ¬ ((n136) ∈ G157.1 ∧ G157.2.1 (n136) = 1) then none else (pq_lt (pq_ref G157 a0 6 (n136)) fun G168 => some (G168, S158, n159)))))))))))))))))))))))))))))))))))))))))))))))))))))))))
theorem inu_X10_init_0 : ∀ w ∈ u_ws RX0 TX0 2, w ∈ wsX10_init := pq_inu 122 rfl
theorem inu_X10_init_1 : ∀ w ∈ u_ws RX1 TX1 3, w ∈ wsX10_init := pq_inu 133 rfl
theorem inu_X10_init_2 : ∀ w ∈ u_ws RX2 TX2 5, w ∈ wsX10_init := pq_inu 117 rfl
theorem inu_X10_init_3 : ∀ w ∈ u_ws RX3 TX3 1, w ∈ wsX10_init := pq_inu 132 rfl
theorem inu_X10_init_5 : ∀ w ∈ u_ws RX5 TX5 3, w ∈ wsX10_init := pq_inu 129 rfl
theorem inu_X10_init_6 : ∀ w ∈ u_ws RX6 TX6 5, w ∈ wsX10_init := pq_inu 124 rfl
theorem inu_X10_init_9 : ∀ w ∈ u_ws RX9 TX9 4, w ∈ wsX10_init := pq_inu 106 rfl
theorem inu_X10_init_10 : ∀ w ∈ u_ws RX10 TX10 7, w ∈ wsX10_init := pq_inu 110 rfl
set_option maxHeartbeats 4000000 in
set_option maxRecDepth 100000 in
theorem r_X10_init {l : Launch} {D : va_G} {y : pq_Y} {G0 : pq_G} {S : pq_N} {nx : Nat} {a0 : Nat} (k0_ : pq_ok G0 10 a0) {M1 : pq_M} (h : F_X10_init G0 S nx a0 = some M1) : Met l yX10_init wsX10_init ({ frames := 5, cells := 1627, slots := 24046, locals := 104 } : Room) (pq_P D y G0 S nx [.ref a0]) (pq_QZ D y G0 nx M1) 1627 24046 (pq_A G0 nx) := by
  refine pz_enter RX10 1 (by decide) rfl rfl rfl rfl ?_
  intro p e s m below meth c C hsz hr hlk hin2
  subst hsz
  unfold F_X10_init at h
  have hz0 : s.heap.size ≤ s.heap.size := Nat.le_refl _
  have hG0 : ∀ q ∈ G0.1, q ∈ G0.1 ∨ s.heap.size ≤ q := fun q hq => Or.inl hq
  refine pv_sub (lo1 := [(0, .ref a0)]) [0] rfl ?_
  refine pv_aload_n C 0 dX10_init_0 rfl rfl ?_
  refine pz_obj C (List.mem_of_getElem? (i := 1) rfl) (List.mem_of_getElem? (i := 2) rfl) (List.mem_of_getElem? (i := 3) rfl) dX10_init_1 (Nat.le_of_ble_eq_true rfl) (Nat.le_of_ble_eq_true rfl) ?_
  refine pv_aload_n C 0 dX10_init_4 rfl rfl ?_
  refine pz_new C (ci := 9) (T := TX9) (N := 4) inu_X10_init_9 rfl (by decide) tyX9 tyX9_ok (List.mem_of_getElem? (i := 4) rfl) (List.mem_of_getElem? (i := 5) rfl) (List.mem_of_getElem? (i := 6) rfl) (fun j hj => by rcases (show j = 0 ∨ j = 1 ∨ j = 2 ∨ j = 3 by omega) with rfl | rfl | rfl | rfl <;> rfl) (Nat.le_trans (m := 1627) (by omega) (Nat.le_of_ble_eq_true rfl)) (Nat.le_trans (m := 24046) (by omega) (Nat.le_of_ble_eq_true rfl)) dX10_init_5 (fun n11 => ?_)
  refine pz_nm (fun G12 e13 S14 e15 => ?_)
  have h := pq_ls e13 h
  have h := pq_ls e15 h
  have k16 : pq_ok G12 10 a0 := by rw [e13]; exact pq_okp n11 k0_
  have k17 : pq_ok G12 9 (s.heap.size) := by rw [e13]; exact pq_okn
  have h18 : ∀ q ∈ G12.1, q ∈ G0.1 ∨ s.heap.size ≤ q := by rw [e13]; exact pq_hG hG0 (by omega)
  refine pv_dup C dX10_init_8 rfl ?_
  obtain ⟨⟨G19, S20, n21⟩, e22, h⟩ := pq_bz h
  have h := pq_l3s h
  refine pz_callI C [] h18 (r_X9_init k17 e22) (cwI 0 C.1.2.2.2.2 gX10_init_X9_init rfl rfl rfl (C.1.2.2.2.2 _ (List.mem_of_getElem? (i := 6) rfl)) (C.1.2.2.2.2 _ (List.mem_of_getElem? (i := 32) rfl)) (C.1.2.2.2.2 _ (List.mem_of_getElem? (i := 33) rfl)) rfl (by decide +kernel) ⟨Nat.le_of_ble_eq_true rfl, Nat.le_of_ble_eq_true rfl⟩) rfl rfl (Nat.le_of_ble_eq_true rfl) dX10_init_9 ⟨Nat.le_trans (m := 1627) (by omega) (Nat.le_of_ble_eq_true rfl), Nat.le_trans (m := 24046) (by omega) (Nat.le_of_ble_eq_true rfl)⟩ ?_
  obtain ⟨h23, h⟩ := pq_gd h
  obtain ⟨h24, h⟩ := pq_gd h
  have h25 : ∀ q ∈ G19.1, q ∈ G0.1 ∨ s.heap.size ≤ q := fun q hq => (Decidable.not_not.mp h23 q hq).elim (fun z => h18 q z) (fun z => Or.inr (by omega))
  obtain ⟨g26, h⟩ := pq_gd h
  have k27 : pq_ok G19 10 a0 := by have h9 := Decidable.not_not.mp g26; exact h9
  obtain ⟨g28, h⟩ := pq_gd h
  have k29 : pq_ok G19 9 (s.heap.size) := by have h9 := Decidable.not_not.mp g28; exact h9
  refine pz_putF (T := TX10) (N := 7) C 0 inu_X10_init_10 rfl (by decide) tyX10 tyX10_ok nmX10 (by decide) (List.mem_of_getElem? (i := 7) rfl) rfl k27 rfl hin2 rfl (tyX10_ok 0 (by decide)) rfl rfl dX10_init_12 ?_
  refine pz_nmG (fun G30 e31 => ?_)
  have h := pq_ls e31 h
  have k32 : pq_ok G30 10 a0 := by rw [e31]; exact k27
  have h33 : ∀ q ∈ G30.1, q ∈ G0.1 ∨ s.heap.size ≤ q := by rw [e31]; exact h25
  refine pv_aload_n C 0 dX10_init_15 rfl rfl ?_
  refine pz_new C (ci := 2) (T := TX2) (N := 5) inu_X10_init_2 rfl (by decide) tyX2 tyX2_ok (List.mem_of_getElem? (i := 8) rfl) (List.mem_of_getElem? (i := 9) rfl) (List.mem_of_getElem? (i := 10) rfl) (fun j hj => by rcases (show j = 0 ∨ j = 1 ∨ j = 2 ∨ j = 3 ∨ j = 4 by omega) with rfl | rfl | rfl | rfl | rfl <;> rfl) (Nat.le_trans (m := 1627) (by omega) (Nat.le_of_ble_eq_true rfl)) (Nat.le_trans (m := 24046) (by omega) (Nat.le_of_ble_eq_true rfl)) dX10_init_16 (fun n34 => ?_)
  refine pz_nm (fun G35 e36 S37 e38 => ?_)
  have h := pq_ls e36 h
  have h := pq_ls e38 h
  have k39 : pq_ok G35 10 a0 := by rw [e36]; exact pq_okp n34 k32
  have k40 : pq_ok G35 2 (n21) := by rw [e36]; exact pq_okn
  have h41 : ∀ q ∈ G35.1, q ∈ G0.1 ∨ s.heap.size ≤ q := by rw [e36]; exact pq_hG h33 (by omega)
  refine pv_dup C dX10_init_19 rfl ?_
  obtain ⟨⟨G42, S43, n44⟩, e45, h⟩ := pq_bz h
  have h := pq_l3s h
  refine pz_callI C [] h41 (r_X2_init k40 e45) (cwI 0 C.1.2.2.2.2 gX10_init_X2_init rfl rfl rfl (C.1.2.2.2.2 _ (List.mem_of_getElem? (i := 10) rfl)) (C.1.2.2.2.2 _ (List.mem_of_getElem? (i := 61) rfl)) (C.1.2.2.2.2 _ (List.mem_of_getElem? (i := 62) rfl)) rfl (by decide +kernel) ⟨Nat.le_of_ble_eq_true rfl, Nat.le_of_ble_eq_true rfl⟩) rfl rfl (Nat.le_of_ble_eq_true rfl) dX10_init_20 ⟨Nat.le_trans (m := 1627) (by omega) (Nat.le_of_ble_eq_true rfl), Nat.le_trans (m := 24046) (by omega) (Nat.le_of_ble_eq_true rfl)⟩ ?_
  obtain ⟨h46, h⟩ := pq_gd h
  obtain ⟨h47, h⟩ := pq_gd h
  have h48 : ∀ q ∈ G42.1, q ∈ G0.1 ∨ s.heap.size ≤ q := fun q hq => (Decidable.not_not.mp h46 q hq).elim (fun z => h41 q z) (fun z => Or.inr (by omega))
  obtain ⟨g49, h⟩ := pq_gd h
  have k50 : pq_ok G42 10 a0 := by have h9 := Decidable.not_not.mp g49; exact h9
  obtain ⟨g51, h⟩ := pq_gd h
  have k52 : pq_ok G42 2 (n21) := by have h9 := Decidable.not_not.mp g51; exact h9
  refine pz_putF (T := TX10) (N := 7) C 1 inu_X10_init_10 rfl (by decide) tyX10 tyX10_ok nmX10 (by decide) (List.mem_of_getElem? (i := 11) rfl) rfl k50 rfl hin2 rfl (tyX10_ok 1 (by decide)) rfl rfl dX10_init_23 ?_
  refine pz_nmG (fun G53 e54 => ?_)
  have h := pq_ls e54 h
  have k55 : pq_ok G53 10 a0 := by rw [e54]; exact k50
  have h56 : ∀ q ∈ G53.1, q ∈ G0.1 ∨ s.heap.size ≤ q := by rw [e54]; exact h48
  refine pv_aload_n C 0 dX10_init_26 rfl rfl ?_
  refine pz_new C (ci := 0) (T := TX0) (N := 2) inu_X10_init_0 rfl (by decide) tyX0 tyX0_ok (List.mem_of_getElem? (i := 12) rfl) (List.mem_of_getElem? (i := 13) rfl) (List.mem_of_getElem? (i := 14) rfl) (fun j hj => by rcases (show j = 0 ∨ j = 1 by omega) with rfl | rfl <;> rfl) (Nat.le_trans (m := 1627) (by omega) (Nat.le_of_ble_eq_true rfl)) (Nat.le_trans (m := 24046) (by omega) (Nat.le_of_ble_eq_true rfl)) dX10_init_27 (fun n57 => ?_)
  refine pz_nm (fun G58 e59 S60 e61 => ?_)
  have h := pq_ls e59 h
  have h := pq_ls e61 h
  have k62 : pq_ok G58 10 a0 := by rw [e59]; exact pq_okp n57 k55
  have k63 : pq_ok G58 0 (n44) := by rw [e59]; exact pq_okn
  have h64 : ∀ q ∈ G58.1, q ∈ G0.1 ∨ s.heap.size ≤ q := by rw [e59]; exact pq_hG h56 (by omega)
  refine pv_dup C dX10_init_30 rfl ?_
  obtain ⟨⟨G65, S66, n67⟩, e68, h⟩ := pq_bz h
  have h := pq_l3s h
  refine pz_callIN C [] h64 (r_X0_init k63 e68) ⟨va_cnB 0 C.1.2.2.2.2 gX10_init_X0_init_n25 rfl rfl rfl (C.2.2.1 _ (List.mem_of_getElem? (i := 52) rfl)) (C.1.2.2.2.2 _ (List.mem_of_getElem? (i := 14) rfl)) (by decide +kernel) ⟨Nat.le_of_ble_eq_true rfl, Nat.le_of_ble_eq_true rfl⟩, rfl, (C.1.2.2.2.2 _ (List.mem_of_getElem? (i := 69) rfl))⟩ rfl rfl (Nat.le_of_ble_eq_true rfl) dX10_init_31 ⟨Nat.le_trans (m := 1627) (by omega) (Nat.le_of_ble_eq_true rfl), Nat.le_trans (m := 24046) (by omega) (Nat.le_of_ble_eq_true rfl)⟩ ?_
  obtain ⟨h69, h⟩ := pq_gd h
  obtain ⟨h70, h⟩ := pq_gd h
  have h71 : ∀ q ∈ G65.1, q ∈ G0.1 ∨ s.heap.size ≤ q := fun q hq => (Decidable.not_not.mp h69 q hq).elim (fun z => h64 q z) (fun z => Or.inr (by omega))
  obtain ⟨g72, h⟩ := pq_gd h
  have k73 : pq_ok G65 10 a0 := by have h9 := Decidable.not_not.mp g72; exact h9
  obtain ⟨g74, h⟩ := pq_gd h
  have k75 : pq_ok G65 0 (n44) := by have h9 := Decidable.not_not.mp g74; exact h9
  refine pz_putF (T := TX10) (N := 7) C 2 inu_X10_init_10 rfl (by decide) tyX10 tyX10_ok nmX10 (by decide) (List.mem_of_getElem? (i := 15) rfl) rfl k73 rfl hin2 rfl (tyX10_ok 2 (by decide)) rfl rfl dX10_init_34 ?_
  refine pz_nmG (fun G76 e77 => ?_)
  have h := pq_ls e77 h
  have k78 : pq_ok G76 10 a0 := by rw [e77]; exact k73
  have h79 : ∀ q ∈ G76.1, q ∈ G0.1 ∨ s.heap.size ≤ q := by rw [e77]; exact h71
  refine pv_aload_n C 0 dX10_init_37 rfl rfl ?_
  refine pz_new C (ci := 6) (T := TX6) (N := 5) inu_X10_init_6 rfl (by decide) tyX6 tyX6_ok (List.mem_of_getElem? (i := 16) rfl) (List.mem_of_getElem? (i := 17) rfl) (List.mem_of_getElem? (i := 18) rfl) (fun j hj => by rcases (show j = 0 ∨ j = 1 ∨ j = 2 ∨ j = 3 ∨ j = 4 by omega) with rfl | rfl | rfl | rfl | rfl <;> rfl) (Nat.le_trans (m := 1627) (by omega) (Nat.le_of_ble_eq_true rfl)) (Nat.le_trans (m := 24046) (by omega) (Nat.le_of_ble_eq_true rfl)) dX10_init_38 (fun n80 => ?_)
  refine pz_nm (fun G81 e82 S83 e84 => ?_)
  have h := pq_ls e82 h
  have h := pq_ls e84 h
  have k85 : pq_ok G81 10 a0 := by rw [e82]; exact pq_okp n80 k78
  have k86 : pq_ok G81 6 (n67) := by rw [e82]; exact pq_okn
  have h87 : ∀ q ∈ G81.1, q ∈ G0.1 ∨ s.heap.size ≤ q := by rw [e82]; exact pq_hG h79 (by omega)
  refine pv_dup C dX10_init_41 rfl ?_
  obtain ⟨⟨G88, S89, n90⟩, e91, h⟩ := pq_bz h
  have h := pq_l3s h
  refine pz_callIN C [] h87 (r_X6_init k86 e91) ⟨va_cnB 0 C.1.2.2.2.2 gX10_init_X6_init_n32 rfl rfl rfl (C.2.2.1 _ (List.mem_of_getElem? (i := 53) rfl)) (C.1.2.2.2.2 _ (List.mem_of_getElem? (i := 18) rfl)) (by decide +kernel) ⟨Nat.le_of_ble_eq_true rfl, Nat.le_of_ble_eq_true rfl⟩, rfl, (C.1.2.2.2.2 _ (List.mem_of_getElem? (i := 75) rfl))⟩ rfl rfl (Nat.le_of_ble_eq_true rfl) dX10_init_42 ⟨Nat.le_trans (m := 1627) (by omega) (Nat.le_of_ble_eq_true rfl), Nat.le_trans (m := 24046) (by omega) (Nat.le_of_ble_eq_true rfl)⟩ ?_
  obtain ⟨h92, h⟩ := pq_gd h
  obtain ⟨h93, h⟩ := pq_gd h
  have h94 : ∀ q ∈ G88.1, q ∈ G0.1 ∨ s.heap.size ≤ q := fun q hq => (Decidable.not_not.mp h92 q hq).elim (fun z => h87 q z) (fun z => Or.inr (by omega))
  obtain ⟨g95, h⟩ := pq_gd h
  have k96 : pq_ok G88 10 a0 := by have h9 := Decidable.not_not.mp g95; exact h9
  obtain ⟨g97, h⟩ := pq_gd h
  have k98 : pq_ok G88 6 (n67) := by have h9 := Decidable.not_not.mp g97; exact h9
  refine pz_putF (T := TX10) (N := 7) C 3 inu_X10_init_10 rfl (by decide) tyX10 tyX10_ok nmX10 (by decide) (List.mem_of_getElem? (i := 19) rfl) rfl k96 rfl hin2 rfl (tyX10_ok 3 (by decide)) rfl rfl dX10_init_45 ?_
  refine pz_nmG (fun G99 e100 => ?_)
  have h := pq_ls e100 h
  have k101 : pq_ok G99 10 a0 := by rw [e100]; exact k96
  have h102 : ∀ q ∈ G99.1, q ∈ G0.1 ∨ s.heap.size ≤ q := by rw [e100]; exact h94
  refine pv_aload_n C 0 dX10_init_48 rfl rfl ?_
  refine pz_new C (ci := 5) (T := TX5) (N := 3) inu_X10_init_5 rfl (by decide) tyX5 tyX5_ok (List.mem_of_getElem? (i := 20) rfl) (List.mem_of_getElem? (i := 21) rfl) (List.mem_of_getElem? (i := 22) rfl) (fun j hj => by rcases (show j = 0 ∨ j = 1 ∨ j = 2 by omega) with rfl | rfl | rfl <;> rfl) (Nat.le_trans (m := 1627) (by omega) (Nat.le_of_ble_eq_true rfl)) (Nat.le_trans (m := 24046) (by omega) (Nat.le_of_ble_eq_true rfl)) dX10_init_49 (fun n103 => ?_)
  refine pz_nm (fun G104 e105 S106 e107 => ?_)
  have h := pq_ls e105 h
  have h := pq_ls e107 h
  have k108 : pq_ok G104 10 a0 := by rw [e105]; exact pq_okp n103 k101
  have k109 : pq_ok G104 5 (n90) := by rw [e105]; exact pq_okn
  have h110 : ∀ q ∈ G104.1, q ∈ G0.1 ∨ s.heap.size ≤ q := by rw [e105]; exact pq_hG h102 (by omega)
  refine pv_dup C dX10_init_52 rfl ?_
  obtain ⟨⟨G111, S112, n113⟩, e114, h⟩ := pq_bz h
  have h := pq_l3s h
  refine pz_callIN C [] h110 (r_X5_init k109 e114) ⟨va_cnB 0 C.1.2.2.2.2 gX10_init_X5_init_n39 rfl rfl rfl (C.2.2.1 _ (List.mem_of_getElem? (i := 55) rfl)) (C.1.2.2.2.2 _ (List.mem_of_getElem? (i := 22) rfl)) (by decide +kernel) ⟨Nat.le_of_ble_eq_true rfl, Nat.le_of_ble_eq_true rfl⟩, rfl, (C.1.2.2.2.2 _ (List.mem_of_getElem? (i := 80) rfl))⟩ rfl rfl (Nat.le_of_ble_eq_true rfl) dX10_init_53 ⟨Nat.le_trans (m := 1627) (by omega) (Nat.le_of_ble_eq_true rfl), Nat.le_trans (m := 24046) (by omega) (Nat.le_of_ble_eq_true rfl)⟩ ?_
  obtain ⟨h115, h⟩ := pq_gd h
  obtain ⟨h116, h⟩ := pq_gd h
  have h117 : ∀ q ∈ G111.1, q ∈ G0.1 ∨ s.heap.size ≤ q := fun q hq => (Decidable.not_not.mp h115 q hq).elim (fun z => h110 q z) (fun z => Or.inr (by omega))
  obtain ⟨g118, h⟩ := pq_gd h
  have k119 : pq_ok G111 10 a0 := by have h9 := Decidable.not_not.mp g118; exact h9
  obtain ⟨g120, h⟩ := pq_gd h
  have k121 : pq_ok G111 5 (n90) := by have h9 := Decidable.not_not.mp g120; exact h9
  refine pz_putF (T := TX10) (N := 7) C 4 inu_X10_init_10 rfl (by decide) tyX10 tyX10_ok nmX10 (by decide) (List.mem_of_getElem? (i := 23) rfl) rfl k119 rfl hin2 rfl (tyX10_ok 4 (by decide)) rfl rfl dX10_init_56 ?_
  refine pz_nmG (fun G122 e123 => ?_)
  have h := pq_ls e123 h
  have k124 : pq_ok G122 10 a0 := by rw [e123]; exact k119
  have h125 : ∀ q ∈ G122.1, q ∈ G0.1 ∨ s.heap.size ≤ q := by rw [e123]; exact h117
  refine pv_aload_n C 0 dX10_init_59 rfl rfl ?_
  refine pz_new C (ci := 3) (T := TX3) (N := 1) inu_X10_init_3 rfl (by decide) tyX3 tyX3_ok (List.mem_of_getElem? (i := 24) rfl) (List.mem_of_getElem? (i := 25) rfl) (List.mem_of_getElem? (i := 26) rfl) (fun j hj => by rcases (show j = 0 by omega) with rfl <;> rfl) (Nat.le_trans (m := 1627) (by omega) (Nat.le_of_ble_eq_true rfl)) (Nat.le_trans (m := 24046) (by omega) (Nat.le_of_ble_eq_true rfl)) dX10_init_60 (fun n126 => ?_)
  refine pz_nm (fun G127 e128 S129 e130 => ?_)
  have h := pq_ls e128 h
  have h := pq_ls e130 h
  have k131 : pq_ok G127 10 a0 := by rw [e128]; exact pq_okp n126 k124
  have k132 : pq_ok G127 3 (n113) := by rw [e128]; exact pq_okn
  have h133 : ∀ q ∈ G127.1, q ∈ G0.1 ∨ s.heap.size ≤ q := by rw [e128]; exact pq_hG h125 (by omega)
  refine pv_dup C dX10_init_63 rfl ?_
  obtain ⟨⟨G134, S135, n136⟩, e137, h⟩ := pq_bz h
  have h := pq_l3s h
  refine pz_callIN C [] h133 (r_X3_init k132 e137) ⟨va_cnB 0 C.1.2.2.2.2 gX10_init_X3_init_n46 rfl rfl rfl (C.2.2.1 _ (List.mem_of_getElem? (i := 57) rfl)) (C.1.2.2.2.2 _ (List.mem_of_getElem? (i := 26) rfl)) (by decide +kernel) ⟨Nat.le_of_ble_eq_true rfl, Nat.le_of_ble_eq_true rfl⟩, rfl, (C.1.2.2.2.2 _ (List.mem_of_getElem? (i := 93) rfl))⟩ rfl rfl (Nat.le_of_ble_eq_true rfl) dX10_init_64 ⟨Nat.le_trans (m := 1627) (by omega) (Nat.le_of_ble_eq_true rfl), Nat.le_trans (m := 24046) (by omega) (Nat.le_of_ble_eq_true rfl)⟩ ?_
  obtain ⟨h138, h⟩ := pq_gd h
  obtain ⟨h139, h⟩ := pq_gd h
  have h140 : ∀ q ∈ G134.1, q ∈ G0.1 ∨ s.heap.size ≤ q := fun q hq => (Decidable.not_not.mp h138 q hq).elim (fun z => h133 q z) (fun z => Or.inr (by omega))
  obtain ⟨g141, h⟩ := pq_gd h
  have k142 : pq_ok G134 10 a0 := by have h9 := Decidable.not_not.mp g141; exact h9
  obtain ⟨g143, h⟩ := pq_gd h
  have k144 : pq_ok G134 3 (n113) := by have h9 := Decidable.not_not.mp g143; exact h9
  refine pz_putF (T := TX10) (N := 7) C 5 inu_X10_init_10 rfl (by decide) tyX10 tyX10_ok nmX10 (by decide) (List.mem_of_getElem? (i := 27) rfl) rfl k142 rfl hin2 rfl (tyX10_ok 5 (by decide)) rfl rfl dX10_init_67 ?_
  refine pz_nmG (fun G145 e146 => ?_)
  have h := pq_ls e146 h
  have k147 : pq_ok G145 10 a0 := by rw [e146]; exact k142
  have h148 : ∀ q ∈ G145.1, q ∈ G0.1 ∨ s.heap.size ≤ q := by rw [e146]; exact h140
  refine pv_aload_n C 0 dX10_init_70 rfl rfl ?_
  refine pz_new C (ci := 1) (T := TX1) (N := 3) inu_X10_init_1 rfl (by decide) tyX1 tyX1_ok (List.mem_of_getElem? (i := 28) rfl) (List.mem_of_getElem? (i := 29) rfl) (List.mem_of_getElem? (i := 30) rfl) (fun j hj => by rcases (show j = 0 ∨ j = 1 ∨ j = 2 by omega) with rfl | rfl | rfl <;> rfl) (Nat.le_trans (m := 1627) (by omega) (Nat.le_of_ble_eq_true rfl)) (Nat.le_trans (m := 24046) (by omega) (Nat.le_of_ble_eq_true rfl)) dX10_init_71 (fun n149 => ?_)
  refine pz_nm (fun G150 e151 S152 e153 => ?_)
  have h := pq_ls e151 h
  have h := pq_ls e153 h
  have k154 : pq_ok G150 10 a0 := by rw [e151]; exact pq_okp n149 k147
  have k155 : pq_ok G150 1 (n136) := by rw [e151]; exact pq_okn
  have h156 : ∀ q ∈ G150.1, q ∈ G0.1 ∨ s.heap.size ≤ q := by rw [e151]; exact pq_hG h148 (by omega)
  refine pv_dup C dX10_init_74 rfl ?_
  obtain ⟨⟨G157, S158, n159⟩, e160, h⟩ := pq_bz h
  have h := pq_l3s h
  refine pz_callIN C [] h156 (r_X1_init k155 e160) ⟨va_cnB 0 C.1.2.2.2.2 gX10_init_X1_init_n53 rfl rfl rfl (C.2.2.1 _ (List.mem_of_getElem? (i := 58) rfl)) (C.1.2.2.2.2 _ (List.mem_of_getElem? (i := 30) rfl)) (by decide +kernel) ⟨Nat.le_of_ble_eq_true rfl, Nat.le_of_ble_eq_true rfl⟩, rfl, (C.1.2.2.2.2 _ (List.mem_of_getElem? (i := 99) rfl))⟩ rfl rfl (Nat.le_of_ble_eq_true rfl) dX10_init_75 ⟨Nat.le_trans (m := 1627) (by omega) (Nat.le_of_ble_eq_true rfl), Nat.le_trans (m := 24046) (by omega) (Nat.le_of_ble_eq_true rfl)⟩ ?_
  obtain ⟨h161, h⟩ := pq_gd h
  obtain ⟨h162, h⟩ := pq_gd h
  have h163 : ∀ q ∈ G157.1, q ∈ G0.1 ∨ s.heap.size ≤ q := fun q hq => (Decidable.not_not.mp h161 q hq).elim (fun z => h156 q z) (fun z => Or.inr (by omega))
  obtain ⟨g164, h⟩ := pq_gd h
  have k165 : pq_ok G157 10 a0 := by have h9 := Decidable.not_not.mp g164; exact h9
  obtain ⟨g166, h⟩ := pq_gd h
  have k167 : pq_ok G157 1 (n136) := by have h9 := Decidable.not_not.mp g166; exact h9
  refine pz_putF (T := TX10) (N := 7) C 6 inu_X10_init_10 rfl (by decide) tyX10 tyX10_ok nmX10 (by decide) (List.mem_of_getElem? (i := 31) rfl) rfl k165 rfl hin2 rfl (tyX10_ok 6 (by decide)) rfl rfl dX10_init_78 ?_
  refine pz_nmG (fun G168 e169 => ?_)
  have h := pq_ls e169 h
  have k170 : pq_ok G168 10 a0 := by rw [e169]; exact k165
  have h171 : ∀ q ∈ G168.1, q ∈ G0.1 ∨ s.heap.size ≤ q := by rw [e169]; exact h163
  refine pz_wide (k := 1627) (n := 24046) (by omega) (by omega) ?_
  exact pz_vret C hr hlk h dX10_init_81
