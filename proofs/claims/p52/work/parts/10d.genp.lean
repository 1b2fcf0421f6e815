def F_L_typeWord_b41 (G : pq_G)  (S : pq_N) (a0 : Nat) (x1 : Int32) (t0 : Int32) : Option (Int32 × pq_N) := (pq_bd (F_L_low G S (x1 >>> ((3 : Int32) &&& 31)) (9 : Int32)) fun v27 S28 => (if v27 = (8 : Int32) then (pq_bd (E_X10_append G S28 a0 (122 : Int32)) fun v31 S32 => some (v31, S32)) else some (t0, S28)))
def F_L_typeWord (G : pq_G) (S : pq_N) (a0 : Nat) (x1 : Int32) : Option (Int32 × pq_N) := (pq_bd (F_L_low G S x1 (3 : Int32)) fun v11 S12 => (pq_bd (E_X10_append G S12 a0 ((97 : Int32) + v11)) fun v14 S15 => (pq_bd (F_L_low G S15 (x1 >>> ((3 : Int32) &&& 31)) (3 : Int32)) fun v17 S18 => (if v17 ≤ (0 : Int32) then F_L_typeWord_b41 G S18 a0 x1 v14 else (pq_bd (F_L_low G S18 (x1 >>> ((5 : Int32) &&& 31)) (2 : Int32)) fun v21 S22 => (pq_bd (E_X10_append G S22 a0 ((97 : Int32) + v21)) fun v24 S25 => F_L_typeWord_b41 G S25 a0 x1 v24))))))
set_option maxHeartbeats 4000000 in
set_option maxRecDepth 100000 in
theorem r_L_typeWord_b41 {p : Program} {l : Launch} {e : Env} {s : State} {m : MethodId} {av : Array Value} {below : List Frame} {meth : Method} {c : Code} {D : va_G} {y : pq_Y} {G : pq_G} {r : Int32} {S1 : pq_N} (W0 : pq_WT G) (C : pq_C p s m av c D y RL wsL_typeWord cL_typeWord 3) (hr : meth.sig.returnType = (some .int)) (hlk : meth.locks = false) : ∀ (S : pq_N) (a0 : Nat) (x1 : Int32) (t0 : Int32), pq_ok G 10 a0 → F_L_typeWord_b41 G S a0 x1 t0 = some (r, S1) → pq_V p l e (headSpec wsL_typeWord ({ frames := 3, cells := 0, slots := 0, locals := 65 } : Room)).room s m av below meth c 0 0 (MQ below (pq_Qi D y G s.heap.size r S1) av s 0 0 (pq_A G s.heap.size)) D y 3 (pq_A G s.heap.size) (fun _ => True) G S 41 [(0, .ref a0), (1, .int x1)] [.int t0] := by
  intro S a0 x1 t0 k0_ h
  unfold F_L_typeWord_b41 at h
  refine pv_istore_n C [(2, .int t0), (0, .ref a0), (1, .int x1)] dL_typeWord_41 rfl (by decide) rfl ?_
  refine pv_iload_n C 2 dL_typeWord_42 rfl rfl ?_
  refine pv_iconst (v := 3) C dL_typeWord_43 (by decide) ?_
  refine pv_ishr C dL_typeWord_44 ?_
  refine pv_bipush (v := 9) C dL_typeWord_45 (by decide) ?_
  obtain ⟨v27, S28, e29, h⟩ := pq_bs h
  refine pv_calliS C [.int (x1 >>> ((3 : Int32) &&& 31)), .int (9 : Int32)] (fun sz => r_L_low W0  e29 sz) (va_cwS 2 C.1.2.2.2.2 gL_typeWord_L_low rfl rfl rfl (by decide +kernel) ⟨Nat.le_of_ble_eq_true rfl, Nat.le_of_ble_eq_true rfl⟩) rfl rfl (Nat.le_of_ble_eq_true rfl) dL_typeWord_47 ⟨Nat.le_of_ble_eq_true rfl, Nat.le_of_ble_eq_true rfl⟩ ?_
  refine pv_bipush (v := 8) C dL_typeWord_50 (by decide) ?_
  refine pv_icmp_ne (tgt := 64) C dL_typeWord_52 (by decide) (fun c30 => ?_) (fun c30 => ?_)
  · have h := pq_if c30 h
    refine pv_iload_n C 0 dL_typeWord_64 rfl rfl ?_
    exact pv_iret C hr hlk h dL_typeWord_65
  · have h := pq_it c30 h
    refine pv_aload_n C 1 dL_typeWord_55 rfl rfl ?_
    refine pv_bipush (v := 122) C dL_typeWord_56 (by decide) ?_
    obtain ⟨v31, S32, e33, h⟩ := pq_bs h
    refine pv_calliV C (ci := 10) rfl (by decide) k0_ [.int (122 : Int32)] (fun sz => e_X10_append W0 k0_ e33 sz) (cwV 1 C.1.2.2.2.2 gL_typeWord_X10_append rfl rfl rfl (by decide +kernel) ⟨Nat.le_of_ble_eq_true rfl, Nat.le_of_ble_eq_true rfl⟩) rfl rfl (Nat.le_of_ble_eq_true rfl) dL_typeWord_58 ⟨Nat.le_of_ble_eq_true rfl, Nat.le_of_ble_eq_true rfl⟩ ?_
    refine pv_goto (tgt := 65) C dL_typeWord_61 (by decide) ?_
    exact pv_iret C hr hlk h dL_typeWord_65
set_option maxHeartbeats 4000000 in
set_option maxRecDepth 100000 in
theorem r_L_typeWord {l : Launch} {D : va_G} {y : pq_Y} {G : pq_G} (W0 : pq_WT G) {S : pq_N} {a0 : Nat} {x1 : Int32} (k0_ : pq_ok G 10 a0) {r : Int32} {S1 : pq_N} (h : F_L_typeWord G S a0 x1 = some (r, S1)) (sz : Nat) : Met l yL_typeWord wsL_typeWord ({ frames := 3, cells := 0, slots := 0, locals := 65 } : Room) (pq_P D y G S sz [.ref a0, .int x1]) (pq_Qi D y G sz r S1) 0 0 (pq_A G sz) := by
  refine pq_enter RL 3 (by decide) rfl rfl rfl ?_
  intro p e s m below meth c C hsz hr hlk
  subst hsz
  unfold F_L_typeWord at h
  refine pv_sub (lo1 := [(0, .ref a0), (1, .int x1)]) [0, 1] rfl ?_
  refine pv_aload_n C 0 dL_typeWord_0 rfl rfl ?_
  refine pv_bipush (v := 97) C dL_typeWord_1 (by decide) ?_
  refine pv_iload_n C 1 dL_typeWord_3 rfl rfl ?_
  refine pv_iconst (v := 3) C dL_typeWord_4 (by decide) ?_
  obtain ⟨v11, S12, e13, h⟩ := pq_bs h
  refine pv_calliS C [.int x1, .int (3 : Int32)] (fun sz => r_L_low W0  e13 sz) (va_cwS 2 C.1.2.2.2.2 gL_typeWord_L_low rfl rfl rfl (by decide +kernel) ⟨Nat.le_of_ble_eq_true rfl, Nat.le_of_ble_eq_true rfl⟩) rfl rfl (Nat.le_of_ble_eq_true rfl) dL_typeWord_5 ⟨Nat.le_of_ble_eq_true rfl, Nat.le_of_ble_eq_true rfl⟩ ?_
  refine pv_iadd C dL_typeWord_8 ?_
  obtain ⟨v14, S15, e16, h⟩ := pq_bs h
  refine pv_calliV C (ci := 10) rfl (by decide) k0_ [.int ((97 : Int32) + v11)] (fun sz => e_X10_append W0 k0_ e16 sz) (cwV 1 C.1.2.2.2.2 gL_typeWord_X10_append rfl rfl rfl (by decide +kernel) ⟨Nat.le_of_ble_eq_true rfl, Nat.le_of_ble_eq_true rfl⟩) rfl rfl (Nat.le_of_ble_eq_true rfl) dL_typeWord_9 ⟨Nat.le_of_ble_eq_true rfl, Nat.le_of_ble_eq_true rfl⟩ ?_
  refine pv_istore_n C [(2, .int v14), (0, .ref a0), (1, .int x1)] dL_typeWord_12 rfl (by decide) rfl ?_
  refine pv_iload_n C 2 dL_typeWord_13 rfl rfl ?_
  refine pv_iconst (v := 3) C dL_typeWord_14 (by decide) ?_
  refine pv_ishr C dL_typeWord_15 ?_
  refine pv_iconst (v := 3) C dL_typeWord_16 (by decide) ?_
  obtain ⟨v17, S18, e19, h⟩ := pq_bs h
  refine pv_calliS C [.int (x1 >>> ((3 : Int32) &&& 31)), .int (3 : Int32)] (fun sz => r_L_low W0  e19 sz) (va_cwS 2 C.1.2.2.2.2 gL_typeWord_L_low rfl rfl rfl (by decide +kernel) ⟨Nat.le_of_ble_eq_true rfl, Nat.le_of_ble_eq_true rfl⟩) rfl rfl (Nat.le_of_ble_eq_true rfl) dL_typeWord_17 ⟨Nat.le_of_ble_eq_true rfl, Nat.le_of_ble_eq_true rfl⟩ ?_
  refine pv_if_le (tgt := 40) C dL_typeWord_20 (by decide) (fun c20 => ?_) (fun c20 => ?_)
  · have h := pq_it c20 h
    refine pv_iload_n C 0 dL_typeWord_40 rfl rfl ?_
    refine pv_sub [1, 2] rfl ?_
    exact r_L_typeWord_b41 W0 C hr hlk _ _ _ _ k0_ h
  · have h := pq_if c20 h
    refine pv_aload_n C 1 dL_typeWord_23 rfl rfl ?_
    refine pv_bipush (v := 97) C dL_typeWord_24 (by decide) ?_
    refine pv_iload_n C 2 dL_typeWord_26 rfl rfl ?_
    refine pv_iconst (v := 5) C dL_typeWord_27 (by decide) ?_
    refine pv_ishr C dL_typeWord_28 ?_
    refine pv_iconst (v := 2) C dL_typeWord_29 (by decide) ?_
    obtain ⟨v21, S22, e23, h⟩ := pq_bs h
    refine pv_calliS C [.int (x1 >>> ((5 : Int32) &&& 31)), .int (2 : Int32)] (fun sz => r_L_low W0  e23 sz) (va_cwS 2 C.1.2.2.2.2 gL_typeWord_L_low rfl rfl rfl (by decide +kernel) ⟨Nat.le_of_ble_eq_true rfl, Nat.le_of_ble_eq_true rfl⟩) rfl rfl (Nat.le_of_ble_eq_true rfl) dL_typeWord_30 ⟨Nat.le_of_ble_eq_true rfl, Nat.le_of_ble_eq_true rfl⟩ ?_
    refine pv_iadd C dL_typeWord_33 ?_
    obtain ⟨v24, S25, e26, h⟩ := pq_bs h
    refine pv_calliV C (ci := 10) rfl (by decide) k0_ [.int ((97 : Int32) + v21)] (fun sz => e_X10_append W0 k0_ e26 sz) (cwV 1 C.1.2.2.2.2 gL_typeWord_X10_append rfl rfl rfl (by decide +kernel) ⟨Nat.le_of_ble_eq_true rfl, Nat.le_of_ble_eq_true rfl⟩) rfl rfl (Nat.le_of_ble_eq_true rfl) dL_typeWord_34 ⟨Nat.le_of_ble_eq_true rfl, Nat.le_of_ble_eq_true rfl⟩ ?_
    refine pv_goto (tgt := 41) C dL_typeWord_37 (by decide) ?_
    refine pv_sub [1, 2] rfl ?_
    exact r_L_typeWord_b41 W0 C hr hlk _ _ _ _ k0_ h
def F_L_typeSame_b29 (G : pq_G)  : Nat → pq_N → Nat → Int32 → Int32 → Int32 → Int32 → Option (Int32 × pq_N)
  | 0, _, _, _, _, _, _ => none
  | n + 1, S, a0, x1, x2, x4, x5 => (if (3 : Int32) ≤ x5 then some (x4, S) else (pq_bd (E_X10_wordsOf G S a0 x1) fun v26 S27 => (if v26 = 0 then none else (pq_bd (E_X10_letterOf G S27 a0 x1 (x2 - x2 / v26 * v26) x5) fun v30 S31 => (if v30 = (-1 : Int32) then some (x4, S31) else (pq_bd (E_X10_wordsOf G S31 a0 x1) fun v34 S35 => (if v34 = 0 then none else (pq_bd (E_X10_letterOf G S35 a0 x1 (x2 - x2 / v34 * v34) x5) fun v38 S39 => (pq_bd (E_X10_append G S39 a0 v38) fun v41 S42 => (F_L_typeSame_b29 G n) S42 a0 x1 x2 v41 (x5 + (1 : Int32)))))))))))
def F_L_typeSame (G : pq_G) (S : pq_N) (a0 : Nat) (x1 : Int32) (x2 : Int32) (x3 : Int32) : Option (Int32 × pq_N) := (pq_bd (F_X10_pamphlets G S a0) fun v11 S12 => (if v11 ≤ x1 then (pq_bd (F_L_typeWord G S12 a0 x3) fun v15 S16 => some (v15, S16)) else (pq_bd (F_L_low G S12 x3 (6 : Int32)) fun v18 S19 => (if v18 = (0 : Int32) then (pq_bd (F_L_typeWord G S19 a0 x3) fun v22 S23 => some (v22, S23)) else F_L_typeSame_b29 G pq_fuel S19 a0 x1 x2 (0 : Int32) (0 : Int32)))))
set_option maxHeartbeats 4000000 in
set_option maxRecDepth 100000 in
theorem r_L_typeSame_b29 {p : Program} {l : Launch} {e : Env} {s : State} {m : MethodId} {av : Array Value} {below : List Frame} {meth : Method} {c : Code} {D : va_G} {y : pq_Y} {G : pq_G} {r : Int32} {S1 : pq_N} (W0 : pq_WT G) (C : pq_C p s m av c D y RL wsL_typeSame cL_typeSame 6) (hr : meth.sig.returnType = (some .int)) (hlk : meth.locks = false) (n : Nat) : ∀ (S : pq_N) (a0 : Nat) (x1 : Int32) (x2 : Int32) (x4 : Int32) (x5 : Int32), pq_ok G 10 a0 → F_L_typeSame_b29 G n S a0 x1 x2 x4 x5 = some (r, S1) → pq_V p l e (headSpec wsL_typeSame ({ frames := 4, cells := 0, slots := 0, locals := 87 } : Room)).room s m av below meth c 0 0 (MQ below (pq_Qi D y G s.heap.size r S1) av s 0 0 (pq_A G s.heap.size)) D y 6 (pq_A G s.heap.size) (fun _ => True) G S 29 [(0, .ref a0), (1, .int x1), (2, .int x2), (4, .int x4), (5, .int x5)] [] := by
  induction n with
  | zero =>
    intro S a0 x1 x2 x4 x5 k0_ h
    rw [F_L_typeSame_b29.eq_1] at h; cases h
  | succ n ih =>
    intro S a0 x1 x2 x4 x5 k0_ h
    rw [F_L_typeSame_b29.eq_2] at h
    refine pv_iload C 4 dL_typeSame_29 rfl ?_
    refine pv_iconst (v := 3) C dL_typeSame_31 (by decide) ?_
    refine pv_icmp_ge (tgt := 79) C dL_typeSame_32 (by decide) (fun c25 => ?_) (fun c25 => ?_)
    · have h := pq_it c25 h
      refine pv_iload C 3 dL_typeSame_79 rfl ?_
      exact pv_iret C hr hlk h dL_typeSame_81
    · have h := pq_if c25 h
      refine pv_aload_n C 0 dL_typeSame_35 rfl rfl ?_
      refine pv_iload_n C 1 dL_typeSame_36 rfl rfl ?_
      refine pv_iload_n C 2 dL_typeSame_37 rfl rfl ?_
      refine pv_aload_n C 0 dL_typeSame_38 rfl rfl ?_
      refine pv_iload_n C 1 dL_typeSame_39 rfl rfl ?_
      obtain ⟨v26, S27, e28, h⟩ := pq_bs h
      refine pv_calliV C (ci := 10) rfl (by decide) k0_ [.int x1] (fun sz => e_X10_wordsOf W0 k0_ e28 sz) (cwV 1 C.1.2.2.2.2 gL_typeSame_X10_wordsOf rfl rfl rfl (by decide +kernel) ⟨Nat.le_of_ble_eq_true rfl, Nat.le_of_ble_eq_true rfl⟩) rfl rfl (Nat.le_of_ble_eq_true rfl) dL_typeSame_40 ⟨Nat.le_of_ble_eq_true rfl, Nat.le_of_ble_eq_true rfl⟩ ?_
      obtain ⟨g29, h⟩ := pq_gd h
      refine pv_irem C dL_typeSame_43 g29 ?_
      refine pv_iload C 4 dL_typeSame_44 rfl ?_
      obtain ⟨v30, S31, e32, h⟩ := pq_bs h
      refine pv_calliV C (ci := 10) rfl (by decide) k0_ [.int x1, .int (x2 - x2 / v26 * v26), .int x5] (fun sz => e_X10_letterOf W0 k0_ e32 sz) (cwV 3 C.1.2.2.2.2 gL_typeSame_X10_letterOf rfl rfl rfl (by decide +kernel) ⟨Nat.le_of_ble_eq_true rfl, Nat.le_of_ble_eq_true rfl⟩) rfl rfl (Nat.le_of_ble_eq_true rfl) dL_typeSame_46 ⟨Nat.le_of_ble_eq_true rfl, Nat.le_of_ble_eq_true rfl⟩ ?_
      refine pv_iconst (v := -1) C dL_typeSame_49 (by decide) ?_
      refine pv_icmp_eq (tgt := 79) C dL_typeSame_50 (by decide) (fun c33 => ?_) (fun c33 => ?_)
      · have h := pq_it c33 h
        refine pv_iload C 3 dL_typeSame_79 rfl ?_
        exact pv_iret C hr hlk h dL_typeSame_81
      · have h := pq_if c33 h
        refine pv_aload_n C 0 dL_typeSame_53 rfl rfl ?_
        refine pv_aload_n C 0 dL_typeSame_54 rfl rfl ?_
        refine pv_iload_n C 1 dL_typeSame_55 rfl rfl ?_
        refine pv_iload_n C 2 dL_typeSame_56 rfl rfl ?_
        refine pv_aload_n C 0 dL_typeSame_57 rfl rfl ?_
        refine pv_iload_n C 1 dL_typeSame_58 rfl rfl ?_
        obtain ⟨v34, S35, e36, h⟩ := pq_bs h
        refine pv_calliV C (ci := 10) rfl (by decide) k0_ [.int x1] (fun sz => e_X10_wordsOf W0 k0_ e36 sz) (cwV 1 C.1.2.2.2.2 gL_typeSame_X10_wordsOf rfl rfl rfl (by decide +kernel) ⟨Nat.le_of_ble_eq_true rfl, Nat.le_of_ble_eq_true rfl⟩) rfl rfl (Nat.le_of_ble_eq_true rfl) dL_typeSame_59 ⟨Nat.le_of_ble_eq_true rfl, Nat.le_of_ble_eq_true rfl⟩ ?_
        obtain ⟨g37, h⟩ := pq_gd h
        refine pv_irem C dL_typeSame_62 g37 ?_
        refine pv_iload C 4 dL_typeSame_63 rfl ?_
        obtain ⟨v38, S39, e40, h⟩ := pq_bs h
        refine pv_calliV C (ci := 10) rfl (by decide) k0_ [.int x1, .int (x2 - x2 / v34 * v34), .int x5] (fun sz => e_X10_letterOf W0 k0_ e40 sz) (cwV 3 C.1.2.2.2.2 gL_typeSame_X10_letterOf rfl rfl rfl (by decide +kernel) ⟨Nat.le_of_ble_eq_true rfl, Nat.le_of_ble_eq_true rfl⟩) rfl rfl (Nat.le_of_ble_eq_true rfl) dL_typeSame_65 ⟨Nat.le_of_ble_eq_true rfl, Nat.le_of_ble_eq_true rfl⟩ ?_
        obtain ⟨v41, S42, e43, h⟩ := pq_bs h
        refine pv_calliV C (ci := 10) rfl (by decide) k0_ [.int v38] (fun sz => e_X10_append W0 k0_ e43 sz) (cwV 1 C.1.2.2.2.2 gL_typeSame_X10_append rfl rfl rfl (by decide +kernel) ⟨Nat.le_of_ble_eq_true rfl, Nat.le_of_ble_eq_true rfl⟩) rfl rfl (Nat.le_of_ble_eq_true rfl) dL_typeSame_68 ⟨Nat.le_of_ble_eq_true rfl, Nat.le_of_ble_eq_true rfl⟩ ?_
        refine pv_istore C [(4, .int v41), (0, .ref a0), (1, .int x1), (2, .int x2), (5, .int x5)] dL_typeSame_71 (by decide) rfl ?_
        refine pv_iinc (v := (x5 + (1 : Int32))) C 4 [(5, .int (x5 + (1 : Int32))), (4, .int v41), (0, .ref a0), (1, .int x1), (2, .int x2)] dL_typeSame_73 rfl rfl (by decide) rfl ?_
        refine pv_goto (tgt := 29) C dL_typeSame_76 (by decide) ?_
        refine pv_sub [2, 3, 4, 1, 0] rfl ?_
        exact ih _ _ _ _ _ _ k0_ h
set_option maxHeartbeats 4000000 in
set_option maxRecDepth 100000 in
theorem r_L_typeSame {l : Launch} {D : va_G} {y : pq_Y} {G : pq_G} (W0 : pq_WT G) {S : pq_N} {a0 : Nat} {x1 : Int32} {x2 : Int32} {x3 : Int32} (k0_ : pq_ok G 10 a0) {r : Int32} {S1 : pq_N} (h : F_L_typeSame G S a0 x1 x2 x3 = some (r, S1)) (sz : Nat) : Met l yL_typeSame wsL_typeSame ({ frames := 4, cells := 0, slots := 0, locals := 87 } : Room) (pq_P D y G S sz [.ref a0, .int x1, .int x2, .int x3]) (pq_Qi D y G sz r S1) 0 0 (pq_A G sz) := by
  refine pq_enter RL 6 (by decide) rfl rfl rfl ?_
  intro p e s m below meth c C hsz hr hlk
  subst hsz
  unfold F_L_typeSame at h
  refine pv_sub (lo1 := [(0, .ref a0), (1, .int x1), (2, .int x2), (3, .int x3)]) [0, 1, 2, 3] rfl ?_
  refine pv_iload_n C 1 dL_typeSame_0 rfl rfl ?_
  refine pv_aload_n C 0 dL_typeSame_1 rfl rfl ?_
  obtain ⟨v11, S12, e13, h⟩ := pq_bs h
  refine pv_calliV C (ci := 10) rfl (by decide) k0_ [] (fun sz => r_X10_pamphlets W0 k0_ e13 sz) (cwV 0 C.1.2.2.2.2 gL_typeSame_X10_pamphlets rfl rfl rfl (by decide +kernel) ⟨Nat.le_of_ble_eq_true rfl, Nat.le_of_ble_eq_true rfl⟩) rfl rfl (Nat.le_of_ble_eq_true rfl) dL_typeSame_2 ⟨Nat.le_of_ble_eq_true rfl, Nat.le_of_ble_eq_true rfl⟩ ?_
  refine pv_icmp_ge (tgt := 17) C dL_typeSame_5 (by decide) (fun c14 => ?_) (fun c14 => ?_)
  · have h := pq_it c14 h
    refine pv_aload_n C 0 dL_typeSame_17 rfl rfl ?_
    refine pv_iload_n C 3 dL_typeSame_18 rfl rfl ?_
    obtain ⟨v15, S16, e17, h⟩ := pq_bs h
    refine pv_calliS C [.ref a0, .int x3] (fun sz => r_L_typeWord W0 k0_ e17 sz) (va_cwS 2 C.1.2.2.2.2 gL_typeSame_L_typeWord rfl rfl rfl (by decide +kernel) ⟨Nat.le_of_ble_eq_true rfl, Nat.le_of_ble_eq_true rfl⟩) rfl rfl (Nat.le_of_ble_eq_true rfl) dL_typeSame_19 ⟨Nat.le_of_ble_eq_true rfl, Nat.le_of_ble_eq_true rfl⟩ ?_
    exact pv_iret C hr hlk h dL_typeSame_22
  · have h := pq_if c14 h
    refine pv_iload_n C 3 dL_typeSame_8 rfl rfl ?_
    refine pv_bipush (v := 6) C dL_typeSame_9 (by decide) ?_
    obtain ⟨v18, S19, e20, h⟩ := pq_bs h
    refine pv_calliS C [.int x3, .int (6 : Int32)] (fun sz => r_L_low W0  e20 sz) (va_cwS 2 C.1.2.2.2.2 gL_typeSame_L_low rfl rfl rfl (by decide +kernel) ⟨Nat.le_of_ble_eq_true rfl, Nat.le_of_ble_eq_true rfl⟩) rfl rfl (Nat.le_of_ble_eq_true rfl) dL_typeSame_11 ⟨Nat.le_of_ble_eq_true rfl, Nat.le_of_ble_eq_true rfl⟩ ?_
    refine pv_if_ne (tgt := 23) C dL_typeSame_14 (by decide) (fun c21 => ?_) (fun c21 => ?_)
    · have h := pq_if c21 h
      refine pv_iconst (v := 0) C dL_typeSame_23 (by decide) ?_
      refine pv_istore C [(4, .int (0 : Int32)), (0, .ref a0), (1, .int x1), (2, .int x2), (3, .int x3)] dL_typeSame_24 (by decide) rfl ?_
      refine pv_iconst (v := 0) C dL_typeSame_26 (by decide) ?_
      refine pv_istore C [(5, .int (0 : Int32)), (4, .int (0 : Int32)), (0, .ref a0), (1, .int x1), (2, .int x2), (3, .int x3)] dL_typeSame_27 (by decide) rfl ?_
      refine pv_sub [2, 3, 4, 1, 0] rfl ?_
      exact r_L_typeSame_b29 W0 C hr hlk pq_fuel _ _ _ _ _ _ k0_ h
    · have h := pq_it c21 h
      refine pv_aload_n C 0 dL_typeSame_17 rfl rfl ?_
      refine pv_iload_n C 3 dL_typeSame_18 rfl rfl ?_
      obtain ⟨v22, S23, e24, h⟩ := pq_bs h
      refine pv_calliS C [.ref a0, .int x3] (fun sz => r_L_typeWord W0 k0_ e24 sz) (va_cwS 2 C.1.2.2.2.2 gL_typeSame_L_typeWord rfl rfl rfl (by decide +kernel) ⟨Nat.le_of_ble_eq_true rfl, Nat.le_of_ble_eq_true rfl⟩) rfl rfl (Nat.le_of_ble_eq_true rfl) dL_typeSame_19 ⟨Nat.le_of_ble_eq_true rfl, Nat.le_of_ble_eq_true rfl⟩ ?_
      exact pv_iret C hr hlk h dL_typeSame_22
def F_L_typeQuotation_b80 (G : pq_G) (c32 : pq_N → Nat → Int32 → Int32 → Int32 → Int32 → Int32 → Int32 → Option (Int32 × pq_N)) (S : pq_N) (a0 : Nat) (x1 : Int32) (x2 : Int32) (x3 : Int32) (x4 : Int32) (x6 : Int32) (t0 : Int32) (t1 : Int32) (t2 : Int32) (t3 : Nat) : Option (Int32 × pq_N) := (pq_bd (F_L_typeSame G S t3 t2 (t1 + t0) ((x2 >>> (x6 &&& 31)) ^^^ ((7 : Int32) * x6))) fun v42 S43 => c32 S43 a0 x1 x2 x3 x4 v42 (x6 + (1 : Int32)))
def F_L_typeQuotation_b54 (G : pq_G) (c32 : pq_N → Nat → Int32 → Int32 → Int32 → Int32 → Int32 → Int32 → Option (Int32 × pq_N)) (S : pq_N) (a0 : Nat) (x1 : Int32) (x2 : Int32) (x3 : Int32) (x4 : Int32) (x6 : Int32) (t0 : Int32) : Option (Int32 × pq_N) := (pq_bd (F_L_low G S (x2 >>> ((9 : Int32) &&& 31)) (5 : Int32)) fun v38 S39 => (if v38 = (0 : Int32) then F_L_typeQuotation_b80 G c32 S39 a0 x1 x2 x3 x4 x6 x6 (x4 + x6) x1 a0 else F_L_typeQuotation_b80 G c32 S39 a0 x1 x2 x3 x4 x6 (0 : Int32) (x4 + x6) x1 a0))
def F_L_typeQuotation_b134 (G : pq_G)  (S : pq_N) (a0 : Nat) (x1 : Int32) (t0 : Int32) : Option (Int32 × pq_N) := (pq_bd (E_X10_append G S a0 ((48 : Int32) + (x1 - x1 / (10 : Int32) * (10 : Int32)))) fun v35 S36 => some (v35, S36))
def F_L_typeQuotation_b32 (G : pq_G)  : Nat → pq_N → Nat → Int32 → Int32 → Int32 → Int32 → Int32 → Int32 → Option (Int32 × pq_N)
  | 0, _, _, _, _, _, _, _, _ => none
  | n + 1, S, a0, x1, x2, x3, x4, x5, x6 => (if x3 ≤ x6 then (pq_bd (E_X10_append G S a0 (34 : Int32)) fun v21 S22 => (pq_bd (E_X10_append G S22 a0 (64 : Int32)) fun v24 S25 => (if x1 ≤ (9 : Int32) then F_L_typeQuotation_b134 G S25 a0 x1 (v21 + v24) else (pq_bd (E_X10_append G S25 a0 (49 : Int32)) fun v28 S29 => F_L_typeQuotation_b134 G S29 a0 x1 v28)))) else (if x6 ≤ (0 : Int32) then F_L_typeQuotation_b54 G ((F_L_typeQuotation_b32 G n)) S a0 x1 x2 x3 x4 x6 x5 else (pq_bd (E_X10_append G S a0 (32 : Int32)) fun v32 S33 => F_L_typeQuotation_b54 G ((F_L_typeQuotation_b32 G n)) S33 a0 x1 x2 x3 x4 x6 v32)))
def F_L_typeQuotation (G : pq_G) (S : pq_N) (a0 : Nat) (x1 : Int32) (x2 : Int32) : Option (Int32 × pq_N) := (pq_bd (F_L_low G S (x2 >>> ((2 : Int32) &&& 31)) (4 : Int32)) fun v11 S12 => (pq_bd (F_L_low G S12 (x2 >>> ((6 : Int32) &&& 31)) (20 : Int32)) fun v14 S15 => (pq_bd (E_X10_append G S15 a0 (34 : Int32)) fun v17 S18 => F_L_typeQuotation_b32 G pq_fuel S18 a0 x1 x2 ((1 : Int32) + v11) v14 v17 (0 : Int32))))
set_option maxHeartbeats 4000000 in
set_option maxRecDepth 100000 in
theorem r_L_typeQuotation_b80 {p : Program} {l : Launch} {e : Env} {s : State} {m : MethodId} {av : Array Value} {below : List Frame} {meth : Method} {c : Code} {D : va_G} {y : pq_Y} {G : pq_G} {r : Int32} {S1 : pq_N} (W0 : pq_WT G) (C : pq_C p s m av c D y RL wsL_typeQuotation cL_typeQuotation 7) (hr : meth.sig.returnType = (some .int)) (hlk : meth.locks = false) {c32 : pq_N → Nat → Int32 → Int32 → Int32 → Int32 → Int32 → Int32 → Option (Int32 × pq_N)} (hk32 : ∀ (S : pq_N) (a0 : Nat) (x1 : Int32) (x2 : Int32) (x3 : Int32) (x4 : Int32) (x5 : Int32) (x6 : Int32), pq_ok G 10 a0 → c32 S a0 x1 x2 x3 x4 x5 x6 = some (r, S1) → pq_V p l e (headSpec wsL_typeQuotation ({ frames := 5, cells := 0, slots := 0, locals := 112 } : Room)).room s m av below meth c 0 0 (MQ below (pq_Qi D y G s.heap.size r S1) av s 0 0 (pq_A G s.heap.size)) D y 7 (pq_A G s.heap.size) (fun _ => True) G S 32 [(0, .ref a0), (1, .int x1), (2, .int x2), (3, .int x3), (4, .int x4), (5, .int x5), (6, .int x6)] []) : ∀ (S : pq_N) (a0 : Nat) (x1 : Int32) (x2 : Int32) (x3 : Int32) (x4 : Int32) (x6 : Int32) (t0 : Int32) (t1 : Int32) (t2 : Int32) (t3 : Nat), pq_ok G 10 a0 → pq_ok G 10 t3 → F_L_typeQuotation_b80 G c32 S a0 x1 x2 x3 x4 x6 t0 t1 t2 t3 = some (r, S1) → pq_V p l e (headSpec wsL_typeQuotation ({ frames := 5, cells := 0, slots := 0, locals := 112 } : Room)).room s m av below meth c 0 0 (MQ below (pq_Qi D y G s.heap.size r S1) av s 0 0 (pq_A G s.heap.size)) D y 7 (pq_A G s.heap.size) (fun _ => True) G S 80 [(0, .ref a0), (1, .int x1), (2, .int x2), (3, .int x3), (4, .int x4), (6, .int x6)] [.int t0, .int t1, .int t2, .ref t3] := by
  intro S a0 x1 x2 x3 x4 x6 t0 t1 t2 t3 k0_ kt3_ h
  unfold F_L_typeQuotation_b80 at h
  refine pv_iadd C dL_typeQuotation_80 ?_
  refine pv_iload_n C 2 dL_typeQuotation_81 rfl rfl ?_
  refine pv_iload C 5 dL_typeQuotation_82 rfl ?_
  refine pv_ishr C dL_typeQuotation_84 ?_
  refine pv_bipush (v := 7) C dL_typeQuotation_85 (by decide) ?_
  refine pv_iload C 5 dL_typeQuotation_87 rfl ?_
  refine pv_imul C dL_typeQuotation_89 ?_
  refine pv_ixor C dL_typeQuotation_90 ?_
  obtain ⟨v42, S43, e44, h⟩ := pq_bs h
  refine pv_calliS C [.ref t3, .int t2, .int (t1 + t0), .int ((x2 >>> (x6 &&& 31)) ^^^ ((7 : Int32) * x6))] (fun sz => r_L_typeSame W0 kt3_ e44 sz) (va_cwS 4 C.1.2.2.2.2 gL_typeQuotation_L_typeSame rfl rfl rfl (by decide +kernel) ⟨Nat.le_of_ble_eq_true rfl, Nat.le_of_ble_eq_true rfl⟩) rfl rfl (Nat.le_of_ble_eq_true rfl) dL_typeQuotation_91 ⟨Nat.le_of_ble_eq_true rfl, Nat.le_of_ble_eq_true rfl⟩ ?_
  refine pv_istore C [(5, .int v42), (0, .ref a0), (1, .int x1), (2, .int x2), (3, .int x3), (4, .int x4), (6, .int x6)] dL_typeQuotation_94 (by decide) rfl ?_
  refine pv_iinc (v := (x6 + (1 : Int32))) C 6 [(6, .int (x6 + (1 : Int32))), (5, .int v42), (0, .ref a0), (1, .int x1), (2, .int x2), (3, .int x3), (4, .int x4)] dL_typeQuotation_96 rfl rfl (by decide) rfl ?_
  refine pv_goto (tgt := 32) C dL_typeQuotation_99 (by decide) ?_
  refine pv_sub [2, 3, 4, 5, 6, 1, 0] rfl ?_
  exact hk32 _ _ _ _ _ _ _ _ k0_ h
set_option maxHeartbeats 4000000 in
set_option maxRecDepth 100000 in
theorem r_L_typeQuotation_b54 {p : Program} {l : Launch} {e : Env} {s : State} {m : MethodId} {av : Array Value} {below : List Frame} {meth : Method} {c : Code} {D : va_G} {y : pq_Y} {G : pq_G} {r : Int32} {S1 : pq_N} (W0 : pq_WT G) (C : pq_C p s m av c D y RL wsL_typeQuotation cL_typeQuotation 7) (hr : meth.sig.returnType = (some .int)) (hlk : meth.locks = false) {c32 : pq_N → Nat → Int32 → Int32 → Int32 → Int32 → Int32 → Int32 → Option (Int32 × pq_N)} (hk32 : ∀ (S : pq_N) (a0 : Nat) (x1 : Int32) (x2 : Int32) (x3 : Int32) (x4 : Int32) (x5 : Int32) (x6 : Int32), pq_ok G 10 a0 → c32 S a0 x1 x2 x3 x4 x5 x6 = some (r, S1) → pq_V p l e (headSpec wsL_typeQuotation ({ frames := 5, cells := 0, slots := 0, locals := 112 } : Room)).room s m av below meth c 0 0 (MQ below (pq_Qi D y G s.heap.size r S1) av s 0 0 (pq_A G s.heap.size)) D y 7 (pq_A G s.heap.size) (fun _ => True) G S 32 [(0, .ref a0), (1, .int x1), (2, .int x2), (3, .int x3), (4, .int x4), (5, .int x5), (6, .int x6)] []) : ∀ (S : pq_N) (a0 : Nat) (x1 : Int32) (x2 : Int32) (x3 : Int32) (x4 : Int32) (x6 : Int32) (t0 : Int32), pq_ok G 10 a0 → F_L_typeQuotation_b54 G c32 S a0 x1 x2 x3 x4 x6 t0 = some (r, S1) → pq_V p l e (headSpec wsL_typeQuotation ({ frames := 5, cells := 0, slots := 0, locals := 112 } : Room)).room s m av below meth c 0 0 (MQ below (pq_Qi D y G s.heap.size r S1) av s 0 0 (pq_A G s.heap.size)) D y 7 (pq_A G s.heap.size) (fun _ => True) G S 54 [(0, .ref a0), (1, .int x1), (2, .int x2), (3, .int x3), (4, .int x4), (6, .int x6)] [.int t0] := by
  intro S a0 x1 x2 x3 x4 x6 t0 k0_ h
  unfold F_L_typeQuotation_b54 at h
  refine pv_istore C [(5, .int t0), (0, .ref a0), (1, .int x1), (2, .int x2), (3, .int x3), (4, .int x4), (6, .int x6)] dL_typeQuotation_54 (by decide) rfl ?_
  refine pv_aload_n C 1 dL_typeQuotation_56 rfl rfl ?_
  refine pv_iload_n C 2 dL_typeQuotation_57 rfl rfl ?_
  refine pv_iload C 5 dL_typeQuotation_58 rfl ?_
  refine pv_iload C 6 dL_typeQuotation_60 rfl ?_
  refine pv_iadd C dL_typeQuotation_62 ?_
  refine pv_iload_n C 3 dL_typeQuotation_63 rfl rfl ?_
  refine pv_bipush (v := 9) C dL_typeQuotation_64 (by decide) ?_
  refine pv_ishr C dL_typeQuotation_66 ?_
  refine pv_iconst (v := 5) C dL_typeQuotation_67 (by decide) ?_
  obtain ⟨v38, S39, e40, h⟩ := pq_bs h
  refine pv_calliS C [.int (x2 >>> ((9 : Int32) &&& 31)), .int (5 : Int32)] (fun sz => r_L_low W0  e40 sz) (va_cwS 2 C.1.2.2.2.2 gL_typeQuotation_L_low rfl rfl rfl (by decide +kernel) ⟨Nat.le_of_ble_eq_true rfl, Nat.le_of_ble_eq_true rfl⟩) rfl rfl (Nat.le_of_ble_eq_true rfl) dL_typeQuotation_68 ⟨Nat.le_of_ble_eq_true rfl, Nat.le_of_ble_eq_true rfl⟩ ?_
  refine pv_if_ne (tgt := 79) C dL_typeQuotation_71 (by decide) (fun c41 => ?_) (fun c41 => ?_)
  · have h := pq_if c41 h
    refine pv_iconst (v := 0) C dL_typeQuotation_79 (by decide) ?_
    refine pv_sub [1, 2, 3, 4, 5, 6] rfl ?_
    exact r_L_typeQuotation_b80 W0 C hr hlk hk32 _ _ _ _ _ _ _ _ _ _ _ k0_ k0_ h
  · have h := pq_it c41 h
    refine pv_iload C 6 dL_typeQuotation_74 rfl ?_
    refine pv_goto (tgt := 80) C dL_typeQuotation_76 (by decide) ?_
    refine pv_sub [1, 2, 3, 4, 5, 6] rfl ?_
    exact r_L_typeQuotation_b80 W0 C hr hlk hk32 _ _ _ _ _ _ _ _ _ _ _ k0_ k0_ h
set_option maxHeartbeats 4000000 in
set_option maxRecDepth 100000 in
theorem r_L_typeQuotation_b134 {p : Program} {l : Launch} {e : Env} {s : State} {m : MethodId} {av : Array Value} {below : List Frame} {meth : Method} {c : Code} {D : va_G} {y : pq_Y} {G : pq_G} {r : Int32} {S1 : pq_N} (W0 : pq_WT G) (C : pq_C p s m av c D y RL wsL_typeQuotation cL_typeQuotation 7) (hr : meth.sig.returnType = (some .int)) (hlk : meth.locks = false) : ∀ (S : pq_N) (a0 : Nat) (x1 : Int32) (t0 : Int32), pq_ok G 10 a0 → F_L_typeQuotation_b134 G S a0 x1 t0 = some (r, S1) → pq_V p l e (headSpec wsL_typeQuotation ({ frames := 5, cells := 0, slots := 0, locals := 112 } : Room)).room s m av below meth c 0 0 (MQ below (pq_Qi D y G s.heap.size r S1) av s 0 0 (pq_A G s.heap.size)) D y 7 (pq_A G s.heap.size) (fun _ => True) G S 134 [(0, .ref a0), (1, .int x1)] [.int t0] := by
  intro S a0 x1 t0 k0_ h
  unfold F_L_typeQuotation_b134 at h
  refine pv_istore C [(5, .int t0), (0, .ref a0), (1, .int x1)] dL_typeQuotation_134 (by decide) rfl ?_
  refine pv_aload_n C 1 dL_typeQuotation_136 rfl rfl ?_
  refine pv_bipush (v := 48) C dL_typeQuotation_137 (by decide) ?_
  refine pv_iload_n C 2 dL_typeQuotation_139 rfl rfl ?_
  refine pv_bipush (v := 10) C dL_typeQuotation_140 (by decide) ?_
  refine pv_irem C dL_typeQuotation_142 (by decide) ?_
  refine pv_iadd C dL_typeQuotation_143 ?_
  obtain ⟨v35, S36, e37, h⟩ := pq_bs h
  refine pv_calliV C (ci := 10) rfl (by decide) k0_ [.int ((48 : Int32) + (x1 - x1 / (10 : Int32) * (10 : Int32)))] (fun sz => e_X10_append W0 k0_ e37 sz) (cwV 1 C.1.2.2.2.2 gL_typeQuotation_X10_append rfl rfl rfl (by decide +kernel) ⟨Nat.le_of_ble_eq_true rfl, Nat.le_of_ble_eq_true rfl⟩) rfl rfl (Nat.le_of_ble_eq_true rfl) dL_typeQuotation_144 ⟨Nat.le_of_ble_eq_true rfl, Nat.le_of_ble_eq_true rfl⟩ ?_
  exact pv_iret C hr hlk h dL_typeQuotation_147
set_option maxHeartbeats 4000000 in
set_option maxRecDepth 100000 in
theorem r_L_typeQuotation_b32 {p : Program} {l : Launch} {e : Env} {s : State} {m : MethodId} {av : Array Value} {below : List Frame} {meth : Method} {c : Code} {D : va_G} {y : pq_Y} {G : pq_G} {r : Int32} {S1 : pq_N} (W0 : pq_WT G) (C : pq_C p s m av c D y RL wsL_typeQuotation cL_typeQuotation 7) (hr : meth.sig.returnType = (some .int)) (hlk : meth.locks = false) (n : Nat) : ∀ (S : pq_N) (a0 : Nat) (x1 : Int32) (x2 : Int32) (x3 : Int32) (x4 : Int32) (x5 : Int32) (x6 : Int32), pq_ok G 10 a0 → F_L_typeQuotation_b32 G n S a0 x1 x2 x3 x4 x5 x6 = some (r, S1) → pq_V p l e (headSpec wsL_typeQuotation ({ frames := 5, cells := 0, slots := 0, locals := 112 } : Room)).room s m av below meth c 0 0 (MQ below (pq_Qi D y G s.heap.size r S1) av s 0 0 (pq_A G s.heap.size)) D y 7 (pq_A G s.heap.size) (fun _ => True) G S 32 [(0, .ref a0), (1, .int x1), (2, .int x2), (3, .int x3), (4, .int x4), (5, .int x5), (6, .int x6)] [] := by
  induction n with
  | zero =>
    intro S a0 x1 x2 x3 x4 x5 x6 k0_ h
    rw [F_L_typeQuotation_b32.eq_1] at h; cases h
  | succ n ih =>
    intro S a0 x1 x2 x3 x4 x5 x6 k0_ h
    rw [F_L_typeQuotation_b32.eq_2] at h
    refine pv_iload C 6 dL_typeQuotation_32 rfl ?_
    refine pv_iload_n C 3 dL_typeQuotation_34 rfl rfl ?_
    refine pv_icmp_ge (tgt := 102) C dL_typeQuotation_35 (by decide) (fun c20 => ?_) (fun c20 => ?_)
    · have h := pq_it c20 h
      refine pv_aload_n C 0 dL_typeQuotation_102 rfl rfl ?_
      refine pv_bipush (v := 34) C dL_typeQuotation_103 (by decide) ?_
      obtain ⟨v21, S22, e23, h⟩ := pq_bs h
      refine pv_calliV C (ci := 10) rfl (by decide) k0_ [.int (34 : Int32)] (fun sz => e_X10_append W0 k0_ e23 sz) (cwV 1 C.1.2.2.2.2 gL_typeQuotation_X10_append rfl rfl rfl (by decide +kernel) ⟨Nat.le_of_ble_eq_true rfl, Nat.le_of_ble_eq_true rfl⟩) rfl rfl (Nat.le_of_ble_eq_true rfl) dL_typeQuotation_105 ⟨Nat.le_of_ble_eq_true rfl, Nat.le_of_ble_eq_true rfl⟩ ?_
      refine pv_aload_n C 0 dL_typeQuotation_108 rfl rfl ?_
      refine pv_bipush (v := 64) C dL_typeQuotation_109 (by decide) ?_
      obtain ⟨v24, S25, e26, h⟩ := pq_bs h
      refine pv_calliV C (ci := 10) rfl (by decide) k0_ [.int (64 : Int32)] (fun sz => e_X10_append W0 k0_ e26 sz) (cwV 1 C.1.2.2.2.2 gL_typeQuotation_X10_append rfl rfl rfl (by decide +kernel) ⟨Nat.le_of_ble_eq_true rfl, Nat.le_of_ble_eq_true rfl⟩) rfl rfl (Nat.le_of_ble_eq_true rfl) dL_typeQuotation_111 ⟨Nat.le_of_ble_eq_true rfl, Nat.le_of_ble_eq_true rfl⟩ ?_
      refine pv_iadd C dL_typeQuotation_114 ?_
      refine pv_istore C [(5, .int (v21 + v24)), (0, .ref a0), (1, .int x1), (2, .int x2), (3, .int x3), (4, .int x4), (6, .int x6)] dL_typeQuotation_115 (by decide) rfl ?_
      refine pv_iload_n C 2 dL_typeQuotation_117 rfl rfl ?_
      refine pv_bipush (v := 9) C dL_typeQuotation_118 (by decide) ?_
      refine pv_icmp_le (tgt := 132) C dL_typeQuotation_120 (by decide) (fun c27 => ?_) (fun c27 => ?_)
      · have h := pq_it c27 h
        refine pv_iload C 0 dL_typeQuotation_132 rfl ?_
        refine pv_sub [1, 2] rfl ?_
        exact r_L_typeQuotation_b134 W0 C hr hlk _ _ _ _ k0_ h
      · have h := pq_if c27 h
        refine pv_aload_n C 1 dL_typeQuotation_123 rfl rfl ?_
        refine pv_bipush (v := 49) C dL_typeQuotation_124 (by decide) ?_
        obtain ⟨v28, S29, e30, h⟩ := pq_bs h
        refine pv_calliV C (ci := 10) rfl (by decide) k0_ [.int (49 : Int32)] (fun sz => e_X10_append W0 k0_ e30 sz) (cwV 1 C.1.2.2.2.2 gL_typeQuotation_X10_append rfl rfl rfl (by decide +kernel) ⟨Nat.le_of_ble_eq_true rfl, Nat.le_of_ble_eq_true rfl⟩) rfl rfl (Nat.le_of_ble_eq_true rfl) dL_typeQuotation_126 ⟨Nat.le_of_ble_eq_true rfl, Nat.le_of_ble_eq_true rfl⟩ ?_
        refine pv_goto (tgt := 134) C dL_typeQuotation_129 (by decide) ?_
        refine pv_sub [1, 2] rfl ?_
        exact r_L_typeQuotation_b134 W0 C hr hlk _ _ _ _ k0_ h
    · have h := pq_if c20 h
      refine pv_iload C 6 dL_typeQuotation_38 rfl ?_
      refine pv_if_le (tgt := 52) C dL_typeQuotation_40 (by decide) (fun c31 => ?_) (fun c31 => ?_)
      · have h := pq_it c31 h
        refine pv_iload C 5 dL_typeQuotation_52 rfl ?_
        refine pv_sub [0, 1, 2, 3, 4, 6] rfl ?_
        exact r_L_typeQuotation_b54 W0 C hr hlk ih _ _ _ _ _ _ _ _ k0_ h
      · have h := pq_if c31 h
        refine pv_aload_n C 0 dL_typeQuotation_43 rfl rfl ?_
        refine pv_bipush (v := 32) C dL_typeQuotation_44 (by decide) ?_
        obtain ⟨v32, S33, e34, h⟩ := pq_bs h
        refine pv_calliV C (ci := 10) rfl (by decide) k0_ [.int (32 : Int32)] (fun sz => e_X10_append W0 k0_ e34 sz) (cwV 1 C.1.2.2.2.2 gL_typeQuotation_X10_append rfl rfl rfl (by decide +kernel) ⟨Nat.le_of_ble_eq_true rfl, Nat.le_of_ble_eq_true rfl⟩) rfl rfl (Nat.le_of_ble_eq_true rfl) dL_typeQuotation_46 ⟨Nat.le_of_ble_eq_true rfl, Nat.le_of_ble_eq_true rfl⟩ ?_
        refine pv_goto (tgt := 54) C dL_typeQuotation_49 (by decide) ?_
        refine pv_sub [0, 1, 2, 3, 4, 6] rfl ?_
        exact r_L_typeQuotation_b54 W0 C hr hlk ih _ _ _ _ _ _ _ _ k0_ h
set_option maxHeartbeats 4000000 in
set_option maxRecDepth 100000 in
theorem r_L_typeQuotation {l : Launch} {D : va_G} {y : pq_Y} {G : pq_G} (W0 : pq_WT G) {S : pq_N} {a0 : Nat} {x1 : Int32} {x2 : Int32} (k0_ : pq_ok G 10 a0) {r : Int32} {S1 : pq_N} (h : F_L_typeQuotation G S a0 x1 x2 = some (r, S1)) (sz : Nat) : Met l yL_typeQuotation wsL_typeQuotation ({ frames := 5, cells := 0, slots := 0, locals := 112 } : Room) (pq_P D y G S sz [.ref a0, .int x1, .int x2]) (pq_Qi D y G sz r S1) 0 0 (pq_A G sz) := by
  refine pq_enter RL 7 (by decide) rfl rfl rfl ?_
  intro p e s m below meth c C hsz hr hlk
  subst hsz
  unfold F_L_typeQuotation at h
  refine pv_sub (lo1 := [(0, .ref a0), (1, .int x1), (2, .int x2)]) [0, 1, 2] rfl ?_
  refine pv_iconst (v := 1) C dL_typeQuotation_0 (by decide) ?_
  refine pv_iload_n C 2 dL_typeQuotation_1 rfl rfl ?_
  refine pv_iconst (v := 2) C dL_typeQuotation_2 (by decide) ?_
  refine pv_ishr C dL_typeQuotation_3 ?_
  refine pv_iconst (v := 4) C dL_typeQuotation_4 (by decide) ?_
  obtain ⟨v11, S12, e13, h⟩ := pq_bs h
  refine pv_calliS C [.int (x2 >>> ((2 : Int32) &&& 31)), .int (4 : Int32)] (fun sz => r_L_low W0  e13 sz) (va_cwS 2 C.1.2.2.2.2 gL_typeQuotation_L_low rfl rfl rfl (by decide +kernel) ⟨Nat.le_of_ble_eq_true rfl, Nat.le_of_ble_eq_true rfl⟩) rfl rfl (Nat.le_of_ble_eq_true rfl) dL_typeQuotation_5 ⟨Nat.le_of_ble_eq_true rfl, Nat.le_of_ble_eq_true rfl⟩ ?_
  refine pv_iadd C dL_typeQuotation_8 ?_
  refine pv_istore_n C [(3, .int ((1 : Int32) + v11)), (0, .ref a0), (1, .int x1), (2, .int x2)] dL_typeQuotation_9 rfl (by decide) rfl ?_
  refine pv_iload_n C 3 dL_typeQuotation_10 rfl rfl ?_
  refine pv_bipush (v := 6) C dL_typeQuotation_11 (by decide) ?_
  refine pv_ishr C dL_typeQuotation_13 ?_
  refine pv_bipush (v := 20) C dL_typeQuotation_14 (by decide) ?_
  obtain ⟨v14, S15, e16, h⟩ := pq_bs h
  refine pv_calliS C [.int (x2 >>> ((6 : Int32) &&& 31)), .int (20 : Int32)] (fun sz => r_L_low W0  e16 sz) (va_cwS 2 C.1.2.2.2.2 gL_typeQuotation_L_low rfl rfl rfl (by decide +kernel) ⟨Nat.le_of_ble_eq_true rfl, Nat.le_of_ble_eq_true rfl⟩) rfl rfl (Nat.le_of_ble_eq_true rfl) dL_typeQuotation_16 ⟨Nat.le_of_ble_eq_true rfl, Nat.le_of_ble_eq_true rfl⟩ ?_
  refine pv_istore C [(4, .int v14), (3, .int ((1 : Int32) + v11)), (0, .ref a0), (1, .int x1), (2, .int x2)] dL_typeQuotation_19 (by decide) rfl ?_
  refine pv_aload_n C 2 dL_typeQuotation_21 rfl rfl ?_
  refine pv_bipush (v := 34) C dL_typeQuotation_22 (by decide) ?_
  obtain ⟨v17, S18, e19, h⟩ := pq_bs h
  refine pv_calliV C (ci := 10) rfl (by decide) k0_ [.int (34 : Int32)] (fun sz => e_X10_append W0 k0_ e19 sz) (cwV 1 C.1.2.2.2.2 gL_typeQuotation_X10_append rfl rfl rfl (by decide +kernel) ⟨Nat.le_of_ble_eq_true rfl, Nat.le_of_ble_eq_true rfl⟩) rfl rfl (Nat.le_of_ble_eq_true rfl) dL_typeQuotation_24 ⟨Nat.le_of_ble_eq_true rfl, Nat.le_of_ble_eq_true rfl⟩ ?_
  refine pv_istore C [(5, .int v17), (4, .int v14), (3, .int ((1 : Int32) + v11)), (0, .ref a0), (1, .int x1), (2, .int x2)] dL_typeQuotation_27 (by decide) rfl ?_
  refine pv_iconst (v := 0) C dL_typeQuotation_29 (by decide) ?_
  refine pv_istore C [(6, .int (0 : Int32)), (5, .int v17), (4, .int v14), (3, .int ((1 : Int32) + v11)), (0, .ref a0), (1, .int x1), (2, .int x2)] dL_typeQuotation_30 (by decide) rfl ?_
  refine pv_sub [4, 5, 6, 3, 2, 1, 0] rfl ?_
  exact r_L_typeQuotation_b32 W0 C hr hlk pq_fuel _ _ _ _ _ _ _ _ k0_ h
def F_L_prints_b168 (G : pq_G) (c36 : pq_N → Nat → Int32 → Int32 → Int32 → Int32 → Int32 → Int32 → Int32 → Option (Int32 × pq_N)) (S : pq_N) (a0 : Nat) (x1 : Int32) (x2 : Int32) (x3 : Int32) (x4 : Int32) (x5 : Int32) (x6 : Int32) (x7 : Int32) (t0 : Int32) : Option (Int32 × pq_N) := (if x4 = (1 : Int32) then c36 S a0 x1 x2 x3 x4 x5 x6 (x7 + (1 : Int32)) else (if x4 = (3 : Int32) then c36 S a0 x1 x2 x3 x4 x5 x6 (x7 + (1 : Int32)) else (if t0 = (0 : Int32) then c36 S a0 x1 x2 x3 x4 x5 x6 (x7 + (1 : Int32)) else c36 S a0 x1 x2 x3 t0 x5 x6 (x7 + (1 : Int32)))))
def F_L_prints_b130 (G : pq_G) (c36 : pq_N → Nat → Int32 → Int32 → Int32 → Int32 → Int32 → Int32 → Int32 → Option (Int32 × pq_N)) (S : pq_N) (a0 : Nat) (x1 : Int32) (x2 : Int32) (x3 : Int32) (x4 : Int32) (x5 : Int32) (x7 : Int32) (x8 : Int32) (x9 : Int32) : Option (Int32 × pq_N) := (pq_bd (F_L_typeQuotation G S a0 x9 x8) fun v89 S90 => (if x9 < x3 then (pq_bd (E_X10_dayOf G S90 a0 x9) fun v93 S94 => (pq_bd (F_X10_day G S94 a0) fun v96 S97 => (if v93 = v96 then F_L_prints_b168 G c36 S97 a0 x1 x2 x3 x4 x5 v89 x7 (4 : Int32) else F_L_prints_b168 G c36 S97 a0 x1 x2 x3 x4 x5 v89 x7 (0 : Int32)))) else F_L_prints_b168 G c36 S90 a0 x1 x2 x3 x4 x5 v89 x7 (3 : Int32)))
def F_L_prints_b199 (G : pq_G) (c36 : pq_N → Nat → Int32 → Int32 → Int32 → Int32 → Int32 → Int32 → Int32 → Option (Int32 × pq_N)) (S : pq_N) (a0 : Nat) (x1 : Int32) (x2 : Int32) (x3 : Int32) (x4 : Int32) (x5 : Int32) (x7 : Int32) (x8 : Int32) : Option (Int32 × pq_N) := (pq_bd (F_L_typeWord G S a0 x8) fun v86 S87 => c36 S87 a0 x1 x2 x3 x4 x5 v86 (x7 + (1 : Int32)))
def F_L_prints_b105 (G : pq_G) (c36 : pq_N → Nat → Int32 → Int32 → Int32 → Int32 → Int32 → Int32 → Int32 → Option (Int32 × pq_N)) (S : pq_N) (a0 : Nat) (x1 : Int32) (x2 : Int32) (x3 : Int32) (x4 : Int32) (x5 : Int32) (x7 : Int32) (x8 : Int32) (x9 : Int32) (t0 : Int32) : Option (Int32 × pq_N) := (pq_bd (F_L_low G S x8 (5 : Int32)) fun v77 S78 => (if (2 : Int32) ≤ v77 then F_L_prints_b199 G c36 S78 a0 x1 x2 x3 x4 x5 x7 x8 else (if (0 : Int32) < x3 then F_L_prints_b130 G c36 S78 a0 x1 x2 x3 x4 x5 x7 x8 x9 else (pq_bd (F_L_low G S78 x8 (5 : Int32)) fun v82 S83 => (if v82 = (0 : Int32) then F_L_prints_b130 G c36 S83 a0 x1 x2 x3 x4 x5 x7 x8 x9 else F_L_prints_b199 G c36 S83 a0 x1 x2 x3 x4 x5 x7 x8)))))
def F_L_prints_b84 (G : pq_G) (c36 : pq_N → Nat → Int32 → Int32 → Int32 → Int32 → Int32 → Int32 → Int32 → Option (Int32 × pq_N)) (S : pq_N) (a0 : Nat) (x1 : Int32) (x2 : Int32) (x3 : Int32) (x4 : Int32) (x5 : Int32) (x6 : Int32) (x7 : Int32) (x8 : Int32) (t0 : Int32) (t1 : Int32) : Option (Int32 × pq_N) := (pq_bd (F_L_low G S t1 t0) fun v70 S71 => (if x7 ≤ (0 : Int32) then F_L_prints_b105 G c36 S71 a0 x1 x2 x3 x4 x5 x7 x8 v70 x6 else (pq_bd (E_X10_append G S71 a0 (32 : Int32)) fun v74 S75 => F_L_prints_b105 G c36 S75 a0 x1 x2 x3 x4 x5 x7 x8 v70 v74)))
def F_L_prints_b244 (G : pq_G)  (S : pq_N) (a0 : Nat) (x3 : Int32) (x4 : Int32) (x6 : Int32) (x7 : Int32) (t0 : Int32) : Option (Int32 × pq_N) := (pq_bd (F_L_tryPrint G S a0 x7) fun v40 S41 => (if t0 = (0 : Int32) then some ((0 : Int32), S41) else (if x4 ≤ (0 : Int32) then (if v40 = x3 then (pq_bd (E_X10_authorOf G S41 a0 x3) fun v46 S47 => (if v46 = x7 then (pq_bd (E_X10_dayOf G S47 a0 x3) fun v50 S51 => (pq_bd (F_X10_day G S51 a0) fun v53 S54 => (if v50 = v53 then (pq_bd (F_X10_clearText G S54 a0) fun v57 S58 => (if v57 = (0 : Int32) then some ((1 : Int32), S58) else some ((0 : Int32), S58))) else some ((0 : Int32), S54)))) else some ((0 : Int32), S47))) else some ((0 : Int32), S41)) else (if v40 = (-7002 : Int32) then (pq_bd (F_X10_pamphlets G S41 a0) fun v62 S63 => (if v62 = x3 then (pq_bd (F_X10_clearText G S63 a0) fun v66 S67 => (if v66 = x6 then some ((1 : Int32), S67) else some ((0 : Int32), S67))) else some ((0 : Int32), S63))) else some ((0 : Int32), S41)))))
def F_L_prints_b36 (G : pq_G)  : Nat → pq_N → Nat → Int32 → Int32 → Int32 → Int32 → Int32 → Int32 → Int32 → Option (Int32 × pq_N)
  | 0, _, _, _, _, _, _, _, _, _ => none
  | n + 1, S, a0, x1, x2, x3, x4, x5, x6, x7 => (if x5 ≤ x7 then (pq_bd (F_L_low G S x2 (8 : Int32)) fun v22 S23 => (pq_bd (F_X10_errorPosition G S23 a0) fun v25 S26 => (if v25 = x6 then (pq_bd (F_X10_whyNotPrinted G S26 a0) fun v29 S30 => (if v29 = x4 then F_L_prints_b244 G S30 a0 x3 x4 x6 v22 (1 : Int32) else F_L_prints_b244 G S30 a0 x3 x4 x6 v22 (0 : Int32))) else F_L_prints_b244 G S26 a0 x3 x4 x6 v22 (0 : Int32)))) else (pq_lt ((x1 >>> (((3 : Int32) * x7) &&& 31)) ^^^ (x2 >>> (((2 : Int32) * x7) &&& 31))) fun i33 => (pq_bd (F_L_low G S (i33 >>> ((5 : Int32) &&& 31)) (9 : Int32)) fun v35 S36 => (if v35 = (0 : Int32) then F_L_prints_b84 G ((F_L_prints_b36 G n)) S36 a0 x1 x2 x3 x4 x5 x6 x7 i33 (20 : Int32) (i33 >>> ((3 : Int32) &&& 31)) else (if x3 = (0 : Int32) then F_L_prints_b84 G ((F_L_prints_b36 G n)) S36 a0 x1 x2 x3 x4 x5 x6 x7 i33 (20 : Int32) (i33 >>> ((3 : Int32) &&& 31)) else F_L_prints_b84 G ((F_L_prints_b36 G n)) S36 a0 x1 x2 x3 x4 x5 x6 x7 i33 x3 (i33 >>> ((3 : Int32) &&& 31)))))))
def F_L_prints_b16 (G : pq_G)  (S : pq_N) (a0 : Nat) (x1 : Int32) (x2 : Int32) (x3 : Int32) (t0 : Int32) : Option (Int32 × pq_N) := (pq_bd (F_L_low G S x1 (4 : Int32)) fun v15 S16 => (pq_bd (F_X10_clearText G S16 a0) fun v18 S19 => F_L_prints_b36 G pq_fuel S19 a0 x1 x2 x3 t0 ((1 : Int32) + v15) v18 (0 : Int32)))
def F_L_prints (G : pq_G) (S : pq_N) (a0 : Nat) (x1 : Int32) (x2 : Int32) : Option (Int32 × pq_N) := (pq_bd (F_X10_pamphlets G S a0) fun v11 S12 => (if v11 = (20 : Int32) then F_L_prints_b16 G S12 a0 x1 x2 v11 (1 : Int32) else F_L_prints_b16 G S12 a0 x1 x2 v11 (0 : Int32)))
set_option maxHeartbeats 4000000 in
set_option maxRecDepth 100000 in
theorem r_L_prints_b168 {p : Program} {l : Launch} {e : Env} {s : State} {m : MethodId} {av : Array Value} {below : List Frame} {meth : Method} {c : Code} {D : va_G} {y : pq_Y} {G : pq_G} {r : Int32} {S1 : pq_N} (hl : l.stackTraces = false) (hX : pq_X (pq_A G s.heap.size) s s.heap) (W0 : pq_WT G) (C : pq_C p s m av c D y RL wsL_prints cL_prints 11) (hr : meth.sig.returnType = (some .boolean)) (hlk : meth.locks = false) {c36 : pq_N → Nat → Int32 → Int32 → Int32 → Int32 → Int32 → Int32 → Int32 → Option (Int32 × pq_N)} (hk36 : ∀ (S : pq_N) (a0 : Nat) (x1 : Int32) (x2 : Int32) (x3 : Int32) (x4 : Int32) (x5 : Int32) (x6 : Int32) (x7 : Int32), pq_ok G 10 a0 → c36 S a0 x1 x2 x3 x4 x5 x6 x7 = some (r, S1) → pq_V p l e (headSpec wsL_prints ({ frames := 8, cells := 1, slots := 6, locals := 173 } : Room)).room s m av below meth c 0 0 (MQ below (pq_Qi D y G s.heap.size r S1) av s 1 6 (pq_A G s.heap.size)) D y 11 (pq_A G s.heap.size) (fun _ => True) G S 36 [(0, .ref a0), (1, .int x1), (2, .int x2), (3, .int x3), (4, .int x4), (5, .int x5), (6, .int x6), (7, .int x7)] []) : ∀ (S : pq_N) (a0 : Nat) (x1 : Int32) (x2 : Int32) (x3 : Int32) (x4 : Int32) (x5 : Int32) (x6 : Int32) (x7 : Int32) (t0 : Int32), pq_ok G 10 a0 → F_L_prints_b168 G c36 S a0 x1 x2 x3 x4 x5 x6 x7 t0 = some (r, S1) → pq_V p l e (headSpec wsL_prints ({ frames := 8, cells := 1, slots := 6, locals := 173 } : Room)).room s m av below meth c 0 0 (MQ below (pq_Qi D y G s.heap.size r S1) av s 1 6 (pq_A G s.heap.size)) D y 11 (pq_A G s.heap.size) (fun _ => True) G S 168 [(0, .ref a0), (1, .int x1), (2, .int x2), (3, .int x3), (4, .int x4), (5, .int x5), (6, .int x6), (7, .int x7)] [.int t0] := by
  intro S a0 x1 x2 x3 x4 x5 x6 x7 t0 k0_ h
  unfold F_L_prints_b168 at h
  refine pv_istore C [(10, .int t0), (0, .ref a0), (1, .int x1), (2, .int x2), (3, .int x3), (4, .int x4), (5, .int x5), (6, .int x6), (7, .int x7)] dL_prints_168 (by decide) rfl ?_
  refine pv_iload C 5 dL_prints_170 rfl ?_
  refine pv_iconst (v := 1) C dL_prints_172 (by decide) ?_
  refine pv_icmp_eq (tgt := 187) C dL_prints_173 (by decide) (fun c100 => ?_) (fun c100 => ?_)
  · have h := pq_it c100 h
    refine pv_iload C 5 dL_prints_187 rfl ?_
    refine pv_goto (tgt := 194) C dL_prints_189 (by decide) ?_
    refine pv_istore C [(4, .int x4), (10, .int t0), (0, .ref a0), (1, .int x1), (2, .int x2), (3, .int x3), (5, .int x5), (6, .int x6), (7, .int x7)] dL_prints_194 (by decide) rfl ?_
    refine pv_goto (tgt := 207) C dL_prints_196 (by decide) ?_
    refine pv_iinc (v := (x7 + (1 : Int32))) C 8 [(7, .int (x7 + (1 : Int32))), (4, .int x4), (10, .int t0), (0, .ref a0), (1, .int x1), (2, .int x2), (3, .int x3), (5, .int x5), (6, .int x6)] dL_prints_207 rfl rfl (by decide) rfl ?_
    refine pv_goto (tgt := 36) C dL_prints_210 (by decide) ?_
    refine pv_sub [3, 4, 5, 6, 1, 7, 8, 0] rfl ?_
    exact hk36 _ _ _ _ _ _ _ _ _ k0_ h
  · have h := pq_if c100 h
    refine pv_iload C 5 dL_prints_176 rfl ?_
    refine pv_iconst (v := 3) C dL_prints_178 (by decide) ?_
    refine pv_icmp_eq (tgt := 187) C dL_prints_179 (by decide) (fun c101 => ?_) (fun c101 => ?_)
    · have h := pq_it c101 h
      refine pv_iload C 5 dL_prints_187 rfl ?_
      refine pv_goto (tgt := 194) C dL_prints_189 (by decide) ?_
      refine pv_istore C [(4, .int x4), (10, .int t0), (0, .ref a0), (1, .int x1), (2, .int x2), (3, .int x3), (5, .int x5), (6, .int x6), (7, .int x7)] dL_prints_194 (by decide) rfl ?_
      refine pv_goto (tgt := 207) C dL_prints_196 (by decide) ?_
      refine pv_iinc (v := (x7 + (1 : Int32))) C 8 [(7, .int (x7 + (1 : Int32))), (4, .int x4), (10, .int t0), (0, .ref a0), (1, .int x1), (2, .int x2), (3, .int x3), (5, .int x5), (6, .int x6)] dL_prints_207 rfl rfl (by decide) rfl ?_
      refine pv_goto (tgt := 36) C dL_prints_210 (by decide) ?_
      refine pv_sub [3, 4, 5, 6, 1, 7, 8, 0] rfl ?_
      exact hk36 _ _ _ _ _ _ _ _ _ k0_ h
    · have h := pq_if c101 h
      refine pv_iload C 0 dL_prints_182 rfl ?_
      refine pv_if_ne (tgt := 192) C dL_prints_184 (by decide) (fun c102 => ?_) (fun c102 => ?_)
      · have h := pq_if c102 h
        refine pv_iload C 0 dL_prints_192 rfl ?_
        refine pv_istore C [(4, .int t0), (10, .int t0), (0, .ref a0), (1, .int x1), (2, .int x2), (3, .int x3), (5, .int x5), (6, .int x6), (7, .int x7)] dL_prints_194 (by decide) rfl ?_
        refine pv_goto (tgt := 207) C dL_prints_196 (by decide) ?_
        refine pv_iinc (v := (x7 + (1 : Int32))) C 8 [(7, .int (x7 + (1 : Int32))), (4, .int t0), (10, .int t0), (0, .ref a0), (1, .int x1), (2, .int x2), (3, .int x3), (5, .int x5), (6, .int x6)] dL_prints_207 rfl rfl (by decide) rfl ?_
        refine pv_goto (tgt := 36) C dL_prints_210 (by decide) ?_
        refine pv_sub [3, 4, 5, 6, 1, 7, 8, 0] rfl ?_
        exact hk36 _ _ _ _ _ _ _ _ _ k0_ h
      · have h := pq_it c102 h
        refine pv_iload C 5 dL_prints_187 rfl ?_
        refine pv_goto (tgt := 194) C dL_prints_189 (by decide) ?_
        refine pv_istore C [(4, .int x4), (10, .int t0), (0, .ref a0), (1, .int x1), (2, .int x2), (3, .int x3), (5, .int x5), (6, .int x6), (7, .int x7)] dL_prints_194 (by decide) rfl ?_
        refine pv_goto (tgt := 207) C dL_prints_196 (by decide) ?_
        refine pv_iinc (v := (x7 + (1 : Int32))) C 8 [(7, .int (x7 + (1 : Int32))), (4, .int x4), (10, .int t0), (0, .ref a0), (1, .int x1), (2, .int x2), (3, .int x3), (5, .int x5), (6, .int x6)] dL_prints_207 rfl rfl (by decide) rfl ?_
        refine pv_goto (tgt := 36) C dL_prints_210 (by decide) ?_
        refine pv_sub [3, 4, 5, 6, 1, 7, 8, 0] rfl ?_
        exact hk36 _ _ _ _ _ _ _ _ _ k0_ h
set_option maxHeartbeats 4000000 in
set_option maxRecDepth 100000 in
theorem r_L_prints_b130 {p : Program} {l : Launch} {e : Env} {s : State} {m : MethodId} {av : Array Value} {below : List Frame} {meth : Method} {c : Code} {D : va_G} {y : pq_Y} {G : pq_G} {r : Int32} {S1 : pq_N} (hl : l.stackTraces = false) (hX : pq_X (pq_A G s.heap.size) s s.heap) (W0 : pq_WT G) (C : pq_C p s m av c D y RL wsL_prints cL_prints 11) (hr : meth.sig.returnType = (some .boolean)) (hlk : meth.locks = false) {c36 : pq_N → Nat → Int32 → Int32 → Int32 → Int32 → Int32 → Int32 → Int32 → Option (Int32 × pq_N)} (hk36 : ∀ (S : pq_N) (a0 : Nat) (x1 : Int32) (x2 : Int32) (x3 : Int32) (x4 : Int32) (x5 : Int32) (x6 : Int32) (x7 : Int32), pq_ok G 10 a0 → c36 S a0 x1 x2 x3 x4 x5 x6 x7 = some (r, S1) → pq_V p l e (headSpec wsL_prints ({ frames := 8, cells := 1, slots := 6, locals := 173 } : Room)).room s m av below meth c 0 0 (MQ below (pq_Qi D y G s.heap.size r S1) av s 1 6 (pq_A G s.heap.size)) D y 11 (pq_A G s.heap.size) (fun _ => True) G S 36 [(0, .ref a0), (1, .int x1), (2, .int x2), (3, .int x3), (4, .int x4), (5, .int x5), (6, .int x6), (7, .int x7)] []) : ∀ (S : pq_N) (a0 : Nat) (x1 : Int32) (x2 : Int32) (x3 : Int32) (x4 : Int32) (x5 : Int32) (x7 : Int32) (x8 : Int32) (x9 : Int32), pq_ok G 10 a0 → F_L_prints_b130 G c36 S a0 x1 x2 x3 x4 x5 x7 x8 x9 = some (r, S1) → pq_V p l e (headSpec wsL_prints ({ frames := 8, cells := 1, slots := 6, locals := 173 } : Room)).room s m av below meth c 0 0 (MQ below (pq_Qi D y G s.heap.size r S1) av s 1 6 (pq_A G s.heap.size)) D y 11 (pq_A G s.heap.size) (fun _ => True) G S 130 [(0, .ref a0), (1, .int x1), (2, .int x2), (3, .int x3), (4, .int x4), (5, .int x5), (7, .int x7), (8, .int x8), (9, .int x9)] [] := by
  intro S a0 x1 x2 x3 x4 x5 x7 x8 x9 k0_ h
  unfold F_L_prints_b130 at h
  refine pv_aload_n C 0 dL_prints_130 rfl rfl ?_
  refine pv_iload C 8 dL_prints_131 rfl ?_
  refine pv_iload C 7 dL_prints_133 rfl ?_
  obtain ⟨v89, S90, e91, h⟩ := pq_bs h
  refine pv_calliS C [.ref a0, .int x9, .int x8] (fun sz => r_L_typeQuotation W0 k0_ e91 sz) (va_cwS 3 C.1.2.2.2.2 gL_prints_L_typeQuotation rfl rfl rfl (by decide +kernel) ⟨Nat.le_of_ble_eq_true rfl, Nat.le_of_ble_eq_true rfl⟩) rfl rfl (Nat.le_of_ble_eq_true rfl) dL_prints_135 ⟨Nat.le_of_ble_eq_true rfl, Nat.le_of_ble_eq_true rfl⟩ ?_
  refine pv_istore C [(6, .int v89), (0, .ref a0), (1, .int x1), (2, .int x2), (3, .int x3), (4, .int x4), (5, .int x5), (7, .int x7), (8, .int x8), (9, .int x9)] dL_prints_138 (by decide) rfl ?_
  refine pv_iload C 9 dL_prints_140 rfl ?_
  refine pv_iload_n C 4 dL_prints_142 rfl rfl ?_
  refine pv_icmp_lt (tgt := 150) C dL_prints_143 (by decide) (fun c92 => ?_) (fun c92 => ?_)
  · have h := pq_it c92 h
    refine pv_aload_n C 1 dL_prints_150 rfl rfl ?_
    refine pv_iload C 9 dL_prints_151 rfl ?_
    obtain ⟨v93, S94, e95, h⟩ := pq_bs h
    refine pv_calliV C (ci := 10) rfl (by decide) k0_ [.int x9] (fun sz => e_X10_dayOf W0 k0_ e95 sz) (cwV 1 C.1.2.2.2.2 gL_prints_X10_dayOf rfl rfl rfl (by decide +kernel) ⟨Nat.le_of_ble_eq_true rfl, Nat.le_of_ble_eq_true rfl⟩) rfl rfl (Nat.le_of_ble_eq_true rfl) dL_prints_153 ⟨Nat.le_of_ble_eq_true rfl, Nat.le_of_ble_eq_true rfl⟩ ?_
    refine pv_aload_n C 1 dL_prints_156 rfl rfl ?_
    obtain ⟨v96, S97, e98, h⟩ := pq_bs h
    refine pv_calliV C (ci := 10) rfl (by decide) k0_ [] (fun sz => r_X10_day W0 k0_ e98 sz) (cwV 0 C.1.2.2.2.2 gL_prints_X10_day rfl rfl rfl (by decide +kernel) ⟨Nat.le_of_ble_eq_true rfl, Nat.le_of_ble_eq_true rfl⟩) rfl rfl (Nat.le_of_ble_eq_true rfl) dL_prints_157 ⟨Nat.le_of_ble_eq_true rfl, Nat.le_of_ble_eq_true rfl⟩ ?_
    refine pv_icmp_ne (tgt := 167) C dL_prints_160 (by decide) (fun c99 => ?_) (fun c99 => ?_)
    · have h := pq_if c99 h
      refine pv_iconst (v := 0) C dL_prints_167 (by decide) ?_
      refine pv_sub [1, 2, 3, 4, 5, 6, 0, 7] rfl ?_
      exact r_L_prints_b168 hl hX W0 C hr hlk hk36 _ _ _ _ _ _ _ _ _ _ k0_ h
    · have h := pq_it c99 h
      refine pv_iconst (v := 4) C dL_prints_163 (by decide) ?_
      refine pv_goto (tgt := 168) C dL_prints_164 (by decide) ?_
      refine pv_sub [1, 2, 3, 4, 5, 6, 0, 7] rfl ?_
      exact r_L_prints_b168 hl hX W0 C hr hlk hk36 _ _ _ _ _ _ _ _ _ _ k0_ h
  · have h := pq_if c92 h
    refine pv_iconst (v := 3) C dL_prints_146 (by decide) ?_
    refine pv_goto (tgt := 168) C dL_prints_147 (by decide) ?_
    refine pv_sub [1, 2, 3, 4, 5, 6, 0, 7] rfl ?_
    exact r_L_prints_b168 hl hX W0 C hr hlk hk36 _ _ _ _ _ _ _ _ _ _ k0_ h
set_option maxHeartbeats 4000000 in
set_option maxRecDepth 100000 in
theorem r_L_prints_b199 {p : Program} {l : Launch} {e : Env} {s : State} {m : MethodId} {av : Array Value} {below : List Frame} {meth : Method} {c : Code} {D : va_G} {y : pq_Y} {G : pq_G} {r : Int32} {S1 : pq_N} (hl : l.stackTraces = false) (hX : pq_X (pq_A G s.heap.size) s s.heap) (W0 : pq_WT G) (C : pq_C p s m av c D y RL wsL_prints cL_prints 11) (hr : meth.sig.returnType = (some .boolean)) (hlk : meth.locks = false) {c36 : pq_N → Nat → Int32 → Int32 → Int32 → Int32 → Int32 → Int32 → Int32 → Option (Int32 × pq_N)} (hk36 : ∀ (S : pq_N) (a0 : Nat) (x1 : Int32) (x2 : Int32) (x3 : Int32) (x4 : Int32) (x5 : Int32) (x6 : Int32) (x7 : Int32), pq_ok G 10 a0 → c36 S a0 x1 x2 x3 x4 x5 x6 x7 = some (r, S1) → pq_V p l e (headSpec wsL_prints ({ frames := 8, cells := 1, slots := 6, locals := 173 } : Room)).room s m av below meth c 0 0 (MQ below (pq_Qi D y G s.heap.size r S1) av s 1 6 (pq_A G s.heap.size)) D y 11 (pq_A G s.heap.size) (fun _ => True) G S 36 [(0, .ref a0), (1, .int x1), (2, .int x2), (3, .int x3), (4, .int x4), (5, .int x5), (6, .int x6), (7, .int x7)] []) : ∀ (S : pq_N) (a0 : Nat) (x1 : Int32) (x2 : Int32) (x3 : Int32) (x4 : Int32) (x5 : Int32) (x7 : Int32) (x8 : Int32), pq_ok G 10 a0 → F_L_prints_b199 G c36 S a0 x1 x2 x3 x4 x5 x7 x8 = some (r, S1) → pq_V p l e (headSpec wsL_prints ({ frames := 8, cells := 1, slots := 6, locals := 173 } : Room)).room s m av below meth c 0 0 (MQ below (pq_Qi D y G s.heap.size r S1) av s 1 6 (pq_A G s.heap.size)) D y 11 (pq_A G s.heap.size) (fun _ => True) G S 199 [(0, .ref a0), (1, .int x1), (2, .int x2), (3, .int x3), (4, .int x4), (5, .int x5), (7, .int x7), (8, .int x8)] [] := by
  intro S a0 x1 x2 x3 x4 x5 x7 x8 k0_ h
  unfold F_L_prints_b199 at h
  refine pv_aload_n C 0 dL_prints_199 rfl rfl ?_
  refine pv_iload C 7 dL_prints_200 rfl ?_
  obtain ⟨v86, S87, e88, h⟩ := pq_bs h
  refine pv_calliS C [.ref a0, .int x8] (fun sz => r_L_typeWord W0 k0_ e88 sz) (va_cwS 2 C.1.2.2.2.2 gL_prints_L_typeWord rfl rfl rfl (by decide +kernel) ⟨Nat.le_of_ble_eq_true rfl, Nat.le_of_ble_eq_true rfl⟩) rfl rfl (Nat.le_of_ble_eq_true rfl) dL_prints_202 ⟨Nat.le_of_ble_eq_true rfl, Nat.le_of_ble_eq_true rfl⟩ ?_
  refine pv_istore C [(6, .int v86), (0, .ref a0), (1, .int x1), (2, .int x2), (3, .int x3), (4, .int x4), (5, .int x5), (7, .int x7), (8, .int x8)] dL_prints_205 (by decide) rfl ?_
  refine pv_iinc (v := (x7 + (1 : Int32))) C 7 [(7, .int (x7 + (1 : Int32))), (6, .int v86), (0, .ref a0), (1, .int x1), (2, .int x2), (3, .int x3), (4, .int x4), (5, .int x5), (8, .int x8)] dL_prints_207 rfl rfl (by decide) rfl ?_
  refine pv_goto (tgt := 36) C dL_prints_210 (by decide) ?_
  refine pv_sub [2, 3, 4, 5, 6, 7, 1, 0] rfl ?_
  exact hk36 _ _ _ _ _ _ _ _ _ k0_ h
set_option maxHeartbeats 4000000 in
set_option maxRecDepth 100000 in
theorem r_L_prints_b105 {p : Program} {l : Launch} {e : Env} {s : State} {m : MethodId} {av : Array Value} {below : List Frame} {meth : Method} {c : Code} {D : va_G} {y : pq_Y} {G : pq_G} {r : Int32} {S1 : pq_N} (hl : l.stackTraces = false) (hX : pq_X (pq_A G s.heap.size) s s.heap) (W0 : pq_WT G) (C : pq_C p s m av c D y RL wsL_prints cL_prints 11) (hr : meth.sig.returnType = (some .boolean)) (hlk : meth.locks = false) {c36 : pq_N → Nat → Int32 → Int32 → Int32 → Int32 → Int32 → Int32 → Int32 → Option (Int32 × pq_N)} (hk36 : ∀ (S : pq_N) (a0 : Nat) (x1 : Int32) (x2 : Int32) (x3 : Int32) (x4 : Int32) (x5 : Int32) (x6 : Int32) (x7 : Int32), pq_ok G 10 a0 → c36 S a0 x1 x2 x3 x4 x5 x6 x7 = some (r, S1) → pq_V p l e (headSpec wsL_prints ({ frames := 8, cells := 1, slots := 6, locals := 173 } : Room)).room s m av below meth c 0 0 (MQ below (pq_Qi D y G s.heap.size r S1) av s 1 6 (pq_A G s.heap.size)) D y 11 (pq_A G s.heap.size) (fun _ => True) G S 36 [(0, .ref a0), (1, .int x1), (2, .int x2), (3, .int x3), (4, .int x4), (5, .int x5), (6, .int x6), (7, .int x7)] []) : ∀ (S : pq_N) (a0 : Nat) (x1 : Int32) (x2 : Int32) (x3 : Int32) (x4 : Int32) (x5 : Int32) (x7 : Int32) (x8 : Int32) (x9 : Int32) (t0 : Int32), pq_ok G 10 a0 → F_L_prints_b105 G c36 S a0 x1 x2 x3 x4 x5 x7 x8 x9 t0 = some (r, S1) → pq_V p l e (headSpec wsL_prints ({ frames := 8, cells := 1, slots := 6, locals := 173 } : Room)).room s m av below meth c 0 0 (MQ below (pq_Qi D y G s.heap.size r S1) av s 1 6 (pq_A G s.heap.size)) D y 11 (pq_A G s.heap.size) (fun _ => True) G S 105 [(0, .ref a0), (1, .int x1), (2, .int x2), (3, .int x3), (4, .int x4), (5, .int x5), (7, .int x7), (8, .int x8), (9, .int x9)] [.int t0] := by
  intro S a0 x1 x2 x3 x4 x5 x7 x8 x9 t0 k0_ h
  unfold F_L_prints_b105 at h
  refine pv_istore C [(6, .int t0), (0, .ref a0), (1, .int x1), (2, .int x2), (3, .int x3), (4, .int x4), (5, .int x5), (7, .int x7), (8, .int x8), (9, .int x9)] dL_prints_105 (by decide) rfl ?_
  refine pv_iload C 8 dL_prints_107 rfl ?_
  refine pv_iconst (v := 5) C dL_prints_109 (by decide) ?_
  obtain ⟨v77, S78, e79, h⟩ := pq_bs h
  refine pv_calliS C [.int x8, .int (5 : Int32)] (fun sz => r_L_low W0  e79 sz) (va_cwS 2 C.1.2.2.2.2 gL_prints_L_low rfl rfl rfl (by decide +kernel) ⟨Nat.le_of_ble_eq_true rfl, Nat.le_of_ble_eq_true rfl⟩) rfl rfl (Nat.le_of_ble_eq_true rfl) dL_prints_110 ⟨Nat.le_of_ble_eq_true rfl, Nat.le_of_ble_eq_true rfl⟩ ?_
  refine pv_iconst (v := 2) C dL_prints_113 (by decide) ?_
  refine pv_icmp_ge (tgt := 199) C dL_prints_114 (by decide) (fun c80 => ?_) (fun c80 => ?_)
  · have h := pq_it c80 h
    refine pv_sub [1, 2, 3, 4, 5, 6, 7, 8] rfl ?_
    exact r_L_prints_b199 hl hX W0 C hr hlk hk36 _ _ _ _ _ _ _ _ _ k0_ h
  · have h := pq_if c80 h
    refine pv_iload_n C 4 dL_prints_117 rfl rfl ?_
    refine pv_if_gt (tgt := 130) C dL_prints_118 (by decide) (fun c81 => ?_) (fun c81 => ?_)
    · have h := pq_it c81 h
      refine pv_sub [1, 2, 3, 4, 5, 6, 7, 8, 9] rfl ?_
      exact r_L_prints_b130 hl hX W0 C hr hlk hk36 _ _ _ _ _ _ _ _ _ _ k0_ h
    · have h := pq_if c81 h
      refine pv_iload C 8 dL_prints_121 rfl ?_
      refine pv_iconst (v := 5) C dL_prints_123 (by decide) ?_
      obtain ⟨v82, S83, e84, h⟩ := pq_bs h
      refine pv_calliS C [.int x8, .int (5 : Int32)] (fun sz => r_L_low W0  e84 sz) (va_cwS 2 C.1.2.2.2.2 gL_prints_L_low rfl rfl rfl (by decide +kernel) ⟨Nat.le_of_ble_eq_true rfl, Nat.le_of_ble_eq_true rfl⟩) rfl rfl (Nat.le_of_ble_eq_true rfl) dL_prints_124 ⟨Nat.le_of_ble_eq_true rfl, Nat.le_of_ble_eq_true rfl⟩ ?_
      refine pv_if_ne (tgt := 199) C dL_prints_127 (by decide) (fun c85 => ?_) (fun c85 => ?_)
      · have h := pq_if c85 h
        refine pv_sub [1, 2, 3, 4, 5, 6, 7, 8] rfl ?_
        exact r_L_prints_b199 hl hX W0 C hr hlk hk36 _ _ _ _ _ _ _ _ _ k0_ h
      · have h := pq_it c85 h
        refine pv_sub [1, 2, 3, 4, 5, 6, 7, 8, 9] rfl ?_
        exact r_L_prints_b130 hl hX W0 C hr hlk hk36 _ _ _ _ _ _ _ _ _ _ k0_ h
set_option maxHeartbeats 4000000 in
set_option maxRecDepth 100000 in
theorem r_L_prints_b84 {p : Program} {l : Launch} {e : Env} {s : State} {m : MethodId} {av : Array Value} {below : List Frame} {meth : Method} {c : Code} {D : va_G} {y : pq_Y} {G : pq_G} {r : Int32} {S1 : pq_N} (hl : l.stackTraces = false) (hX : pq_X (pq_A G s.heap.size) s s.heap) (W0 : pq_WT G) (C : pq_C p s m av c D y RL wsL_prints cL_prints 11) (hr : meth.sig.returnType = (some .boolean)) (hlk : meth.locks = false) {c36 : pq_N → Nat → Int32 → Int32 → Int32 → Int32 → Int32 → Int32 → Int32 → Option (Int32 × pq_N)} (hk36 : ∀ (S : pq_N) (a0 : Nat) (x1 : Int32) (x2 : Int32) (x3 : Int32) (x4 : Int32) (x5 : Int32) (x6 : Int32) (x7 : Int32), pq_ok G 10 a0 → c36 S a0 x1 x2 x3 x4 x5 x6 x7 = some (r, S1) → pq_V p l e (headSpec wsL_prints ({ frames := 8, cells := 1, slots := 6, locals := 173 } : Room)).room s m av below meth c 0 0 (MQ below (pq_Qi D y G s.heap.size r S1) av s 1 6 (pq_A G s.heap.size)) D y 11 (pq_A G s.heap.size) (fun _ => True) G S 36 [(0, .ref a0), (1, .int x1), (2, .int x2), (3, .int x3), (4, .int x4), (5, .int x5), (6, .int x6), (7, .int x7)] []) : ∀ (S : pq_N) (a0 : Nat) (x1 : Int32) (x2 : Int32) (x3 : Int32) (x4 : Int32) (x5 : Int32) (x6 : Int32) (x7 : Int32) (x8 : Int32) (t0 : Int32) (t1 : Int32), pq_ok G 10 a0 → F_L_prints_b84 G c36 S a0 x1 x2 x3 x4 x5 x6 x7 x8 t0 t1 = some (r, S1) → pq_V p l e (headSpec wsL_prints ({ frames := 8, cells := 1, slots := 6, locals := 173 } : Room)).room s m av below meth c 0 0 (MQ below (pq_Qi D y G s.heap.size r S1) av s 1 6 (pq_A G s.heap.size)) D y 11 (pq_A G s.heap.size) (fun _ => True) G S 84 [(0, .ref a0), (1, .int x1), (2, .int x2), (3, .int x3), (4, .int x4), (5, .int x5), (6, .int x6), (7, .int x7), (8, .int x8)] [.int t0, .int t1] := by
  intro S a0 x1 x2 x3 x4 x5 x6 x7 x8 t0 t1 k0_ h
  unfold F_L_prints_b84 at h
  obtain ⟨v70, S71, e72, h⟩ := pq_bs h
  refine pv_calliS C [.int t1, .int t0] (fun sz => r_L_low W0  e72 sz) (va_cwS 2 C.1.2.2.2.2 gL_prints_L_low rfl rfl rfl (by decide +kernel) ⟨Nat.le_of_ble_eq_true rfl, Nat.le_of_ble_eq_true rfl⟩) rfl rfl (Nat.le_of_ble_eq_true rfl) dL_prints_84 ⟨Nat.le_of_ble_eq_true rfl, Nat.le_of_ble_eq_true rfl⟩ ?_
  refine pv_istore C [(9, .int v70), (0, .ref a0), (1, .int x1), (2, .int x2), (3, .int x3), (4, .int x4), (5, .int x5), (6, .int x6), (7, .int x7), (8, .int x8)] dL_prints_87 (by decide) rfl ?_
  refine pv_iload C 8 dL_prints_89 rfl ?_
  refine pv_if_le (tgt := 103) C dL_prints_91 (by decide) (fun c73 => ?_) (fun c73 => ?_)
  · have h := pq_it c73 h
    refine pv_iload C 7 dL_prints_103 rfl ?_
    refine pv_sub [1, 2, 3, 4, 5, 6, 8, 9, 0] rfl ?_
    exact r_L_prints_b105 hl hX W0 C hr hlk hk36 _ _ _ _ _ _ _ _ _ _ _ k0_ h
  · have h := pq_if c73 h
    refine pv_aload_n C 1 dL_prints_94 rfl rfl ?_
    refine pv_bipush (v := 32) C dL_prints_95 (by decide) ?_
    obtain ⟨v74, S75, e76, h⟩ := pq_bs h
    refine pv_calliV C (ci := 10) rfl (by decide) k0_ [.int (32 : Int32)] (fun sz => e_X10_append W0 k0_ e76 sz) (cwV 1 C.1.2.2.2.2 gL_prints_X10_append rfl rfl rfl (by decide +kernel) ⟨Nat.le_of_ble_eq_true rfl, Nat.le_of_ble_eq_true rfl⟩) rfl rfl (Nat.le_of_ble_eq_true rfl) dL_prints_97 ⟨Nat.le_of_ble_eq_true rfl, Nat.le_of_ble_eq_true rfl⟩ ?_
    refine pv_goto (tgt := 105) C dL_prints_100 (by decide) ?_
    refine pv_sub [1, 2, 3, 4, 5, 6, 8, 9, 0] rfl ?_
    exact r_L_prints_b105 hl hX W0 C hr hlk hk36 _ _ _ _ _ _ _ _ _ _ _ k0_ h
set_option maxHeartbeats 4000000 in
set_option maxRecDepth 100000 in
theorem r_L_prints_b244 {p : Program} {l : Launch} {e : Env} {s : State} {m : MethodId} {av : Array Value} {below : List Frame} {meth : Method} {c : Code} {D : va_G} {y : pq_Y} {G : pq_G} {r : Int32} {S1 : pq_N} (hl : l.stackTraces = false) (hX : pq_X (pq_A G s.heap.size) s s.heap) (W0 : pq_WT G) (C : pq_C p s m av c D y RL wsL_prints cL_prints 11) (hr : meth.sig.returnType = (some .boolean)) (hlk : meth.locks = false) : ∀ (S : pq_N) (a0 : Nat) (x3 : Int32) (x4 : Int32) (x6 : Int32) (x7 : Int32) (t0 : Int32), pq_ok G 10 a0 → F_L_prints_b244 G S a0 x3 x4 x6 x7 t0 = some (r, S1) → pq_V p l e (headSpec wsL_prints ({ frames := 8, cells := 1, slots := 6, locals := 173 } : Room)).room s m av below meth c 0 0 (MQ below (pq_Qi D y G s.heap.size r S1) av s 1 6 (pq_A G s.heap.size)) D y 11 (pq_A G s.heap.size) (fun _ => True) G S 244 [(0, .ref a0), (3, .int x3), (4, .int x4), (6, .int x6), (7, .int x7)] [.int t0] := by
  intro S a0 x3 x4 x6 x7 t0 k0_ h
  unfold F_L_prints_b244 at h
  refine pv_istore C [(8, .int t0), (0, .ref a0), (3, .int x3), (4, .int x4), (6, .int x6), (7, .int x7)] dL_prints_244 (by decide) rfl ?_
  refine pv_aload_n C 1 dL_prints_246 rfl rfl ?_
  refine pv_iload C 5 dL_prints_247 rfl ?_
  obtain ⟨v40, S41, e42, h⟩ := pq_bs h
  refine pv_hcalli C (kc := 1) (ks := 6) hX [.ref a0, .int x7] (fun sz => r_L_tryPrint hl W0 k0_ e42 sz) (vx_cwSW 2 C.1.2.2.2.2 gL_prints_L_tryPrint rfl rfl rfl (by decide +kernel) ⟨Nat.le_of_ble_eq_true rfl, Nat.le_of_ble_eq_true rfl⟩) rfl rfl (Nat.le_of_ble_eq_true rfl) dL_prints_249 ⟨Nat.le_of_ble_eq_true rfl, Nat.le_of_ble_eq_true rfl⟩ ?_
  refine pv_istore C [(9, .int v40), (8, .int t0), (0, .ref a0), (3, .int x3), (4, .int x4), (6, .int x6), (7, .int x7)] dL_prints_252 (by decide) rfl ?_
  refine pv_iload C 1 dL_prints_254 rfl ?_
  refine pv_if_eq (tgt := 331) C dL_prints_256 (by decide) (fun c43 => ?_) (fun c43 => ?_)
  · have h := pq_it c43 h
    refine pv_iconst (v := 0) C dL_prints_331 (by decide) ?_
    refine pv_wide (k := 1) (n := 6) (Nat.le_of_ble_eq_true rfl) (Nat.le_of_ble_eq_true rfl) ?_
    exact pv_zret C hr rfl hlk h dL_prints_332
  · have h := pq_if c43 h
    refine pv_iload C 4 dL_prints_259 rfl ?_
    refine pv_if_le (tgt := 292) C dL_prints_261 (by decide) (fun c44 => ?_) (fun c44 => ?_)
    · have h := pq_it c44 h
      refine pv_iload C 0 dL_prints_292 rfl ?_
      refine pv_iload_n C 3 dL_prints_294 rfl rfl ?_
      refine pv_icmp_ne (tgt := 331) C dL_prints_295 (by decide) (fun c45 => ?_) (fun c45 => ?_)
      · have h := pq_if c45 h
        refine pv_iconst (v := 0) C dL_prints_331 (by decide) ?_
        refine pv_wide (k := 1) (n := 6) (Nat.le_of_ble_eq_true rfl) (Nat.le_of_ble_eq_true rfl) ?_
        exact pv_zret C hr rfl hlk h dL_prints_332
      · have h := pq_it c45 h
        refine pv_aload_n C 2 dL_prints_298 rfl rfl ?_
        refine pv_iload_n C 3 dL_prints_299 rfl rfl ?_
        obtain ⟨v46, S47, e48, h⟩ := pq_bs h
        refine pv_calliV C (ci := 10) rfl (by decide) k0_ [.int x3] (fun sz => e_X10_authorOf W0 k0_ e48 sz) (cwV 1 C.1.2.2.2.2 gL_prints_X10_authorOf rfl rfl rfl (by decide +kernel) ⟨Nat.le_of_ble_eq_true rfl, Nat.le_of_ble_eq_true rfl⟩) rfl rfl (Nat.le_of_ble_eq_true rfl) dL_prints_300 ⟨Nat.le_of_ble_eq_true rfl, Nat.le_of_ble_eq_true rfl⟩ ?_
        refine pv_iload C 6 dL_prints_303 rfl ?_
        refine pv_icmp_ne (tgt := 331) C dL_prints_305 (by decide) (fun c49 => ?_) (fun c49 => ?_)
        · have h := pq_if c49 h
          refine pv_iconst (v := 0) C dL_prints_331 (by decide) ?_
          refine pv_wide (k := 1) (n := 6) (Nat.le_of_ble_eq_true rfl) (Nat.le_of_ble_eq_true rfl) ?_
          exact pv_zret C hr rfl hlk h dL_prints_332
        · have h := pq_it c49 h
          refine pv_aload_n C 2 dL_prints_308 rfl rfl ?_
          refine pv_iload_n C 3 dL_prints_309 rfl rfl ?_
          obtain ⟨v50, S51, e52, h⟩ := pq_bs h
          refine pv_calliV C (ci := 10) rfl (by decide) k0_ [.int x3] (fun sz => e_X10_dayOf W0 k0_ e52 sz) (cwV 1 C.1.2.2.2.2 gL_prints_X10_dayOf rfl rfl rfl (by decide +kernel) ⟨Nat.le_of_ble_eq_true rfl, Nat.le_of_ble_eq_true rfl⟩) rfl rfl (Nat.le_of_ble_eq_true rfl) dL_prints_310 ⟨Nat.le_of_ble_eq_true rfl, Nat.le_of_ble_eq_true rfl⟩ ?_
          refine pv_aload_n C 2 dL_prints_313 rfl rfl ?_
          obtain ⟨v53, S54, e55, h⟩ := pq_bs h
          refine pv_calliV C (ci := 10) rfl (by decide) k0_ [] (fun sz => r_X10_day W0 k0_ e55 sz) (cwV 0 C.1.2.2.2.2 gL_prints_X10_day rfl rfl rfl (by decide +kernel) ⟨Nat.le_of_ble_eq_true rfl, Nat.le_of_ble_eq_true rfl⟩) rfl rfl (Nat.le_of_ble_eq_true rfl) dL_prints_314 ⟨Nat.le_of_ble_eq_true rfl, Nat.le_of_ble_eq_true rfl⟩ ?_
          refine pv_icmp_ne (tgt := 331) C dL_prints_317 (by decide) (fun c56 => ?_) (fun c56 => ?_)
          · have h := pq_if c56 h
            refine pv_iconst (v := 0) C dL_prints_331 (by decide) ?_
            refine pv_wide (k := 1) (n := 6) (Nat.le_of_ble_eq_true rfl) (Nat.le_of_ble_eq_true rfl) ?_
            exact pv_zret C hr rfl hlk h dL_prints_332
          · have h := pq_it c56 h
            refine pv_aload_n C 2 dL_prints_320 rfl rfl ?_
            obtain ⟨v57, S58, e59, h⟩ := pq_bs h
            refine pv_calliV C (ci := 10) rfl (by decide) k0_ [] (fun sz => r_X10_clearText W0 k0_ e59 sz) (cwV 0 C.1.2.2.2.2 gL_prints_X10_clearText rfl rfl rfl (by decide +kernel) ⟨Nat.le_of_ble_eq_true rfl, Nat.le_of_ble_eq_true rfl⟩) rfl rfl (Nat.le_of_ble_eq_true rfl) dL_prints_321 ⟨Nat.le_of_ble_eq_true rfl, Nat.le_of_ble_eq_true rfl⟩ ?_
            refine pv_if_ne (tgt := 331) C dL_prints_324 (by decide) (fun c60 => ?_) (fun c60 => ?_)
            · have h := pq_if c60 h
              refine pv_iconst (v := 0) C dL_prints_331 (by decide) ?_
              refine pv_wide (k := 1) (n := 6) (Nat.le_of_ble_eq_true rfl) (Nat.le_of_ble_eq_true rfl) ?_
              exact pv_zret C hr rfl hlk h dL_prints_332
            · have h := pq_it c60 h
              refine pv_iconst (v := 1) C dL_prints_327 (by decide) ?_
              refine pv_goto (tgt := 332) C dL_prints_328 (by decide) ?_
              refine pv_wide (k := 1) (n := 6) (Nat.le_of_ble_eq_true rfl) (Nat.le_of_ble_eq_true rfl) ?_
              exact pv_zret C hr rfl hlk h dL_prints_332
    · have h := pq_if c44 h
      refine pv_iload C 0 dL_prints_264 rfl ?_
      refine pv_sipush (v := -7002) C dL_prints_266 (by decide) ?_
      refine pv_icmp_ne (tgt := 331) C dL_prints_269 (by decide) (fun c61 => ?_) (fun c61 => ?_)
      · have h := pq_if c61 h
        refine pv_iconst (v := 0) C dL_prints_331 (by decide) ?_
        refine pv_wide (k := 1) (n := 6) (Nat.le_of_ble_eq_true rfl) (Nat.le_of_ble_eq_true rfl) ?_
        exact pv_zret C hr rfl hlk h dL_prints_332
      · have h := pq_it c61 h
        refine pv_aload_n C 2 dL_prints_272 rfl rfl ?_
        obtain ⟨v62, S63, e64, h⟩ := pq_bs h
        refine pv_calliV C (ci := 10) rfl (by decide) k0_ [] (fun sz => r_X10_pamphlets W0 k0_ e64 sz) (cwV 0 C.1.2.2.2.2 gL_prints_X10_pamphlets rfl rfl rfl (by decide +kernel) ⟨Nat.le_of_ble_eq_true rfl, Nat.le_of_ble_eq_true rfl⟩) rfl rfl (Nat.le_of_ble_eq_true rfl) dL_prints_273 ⟨Nat.le_of_ble_eq_true rfl, Nat.le_of_ble_eq_true rfl⟩ ?_
        refine pv_iload_n C 3 dL_prints_276 rfl rfl ?_
        refine pv_icmp_ne (tgt := 331) C dL_prints_277 (by decide) (fun c65 => ?_) (fun c65 => ?_)
        · have h := pq_if c65 h
          refine pv_iconst (v := 0) C dL_prints_331 (by decide) ?_
          refine pv_wide (k := 1) (n := 6) (Nat.le_of_ble_eq_true rfl) (Nat.le_of_ble_eq_true rfl) ?_
          exact pv_zret C hr rfl hlk h dL_prints_332
        · have h := pq_it c65 h
          refine pv_aload_n C 2 dL_prints_280 rfl rfl ?_
          obtain ⟨v66, S67, e68, h⟩ := pq_bs h
          refine pv_calliV C (ci := 10) rfl (by decide) k0_ [] (fun sz => r_X10_clearText W0 k0_ e68 sz) (cwV 0 C.1.2.2.2.2 gL_prints_X10_clearText rfl rfl rfl (by decide +kernel) ⟨Nat.le_of_ble_eq_true rfl, Nat.le_of_ble_eq_true rfl⟩) rfl rfl (Nat.le_of_ble_eq_true rfl) dL_prints_281 ⟨Nat.le_of_ble_eq_true rfl, Nat.le_of_ble_eq_true rfl⟩ ?_
          refine pv_iload C 5 dL_prints_284 rfl ?_
          refine pv_icmp_ne (tgt := 331) C dL_prints_286 (by decide) (fun c69 => ?_) (fun c69 => ?_)
          · have h := pq_if c69 h
            refine pv_iconst (v := 0) C dL_prints_331 (by decide) ?_
            refine pv_wide (k := 1) (n := 6) (Nat.le_of_ble_eq_true rfl) (Nat.le_of_ble_eq_true rfl) ?_
            exact pv_zret C hr rfl hlk h dL_prints_332
          · have h := pq_it c69 h
            refine pv_goto (tgt := 327) C dL_prints_289 (by decide) ?_
            refine pv_iconst (v := 1) C dL_prints_327 (by decide) ?_
            refine pv_goto (tgt := 332) C dL_prints_328 (by decide) ?_
            refine pv_wide (k := 1) (n := 6) (Nat.le_of_ble_eq_true rfl) (Nat.le_of_ble_eq_true rfl) ?_
            exact pv_zret C hr rfl hlk h dL_prints_332
set_option maxHeartbeats 4000000 in
set_option maxRecDepth 100000 in
theorem r_L_prints_b36 {p : Program} {l : Launch} {e : Env} {s : State} {m : MethodId} {av : Array Value} {below : List Frame} {meth : Method} {c : Code} {D : va_G} {y : pq_Y} {G : pq_G} {r : Int32} {S1 : pq_N} (hl : l.stackTraces = false) (hX : pq_X (pq_A G s.heap.size) s s.heap) (W0 : pq_WT G) (C : pq_C p s m av c D y RL wsL_prints cL_prints 11) (hr : meth.sig.returnType = (some .boolean)) (hlk : meth.locks = false) (n : Nat) : ∀ (S : pq_N) (a0 : Nat) (x1 : Int32) (x2 : Int32) (x3 : Int32) (x4 : Int32) (x5 : Int32) (x6 : Int32) (x7 : Int32), pq_ok G 10 a0 → F_L_prints_b36 G n S a0 x1 x2 x3 x4 x5 x6 x7 = some (r, S1) → pq_V p l e (headSpec wsL_prints ({ frames := 8, cells := 1, slots := 6, locals := 173 } : Room)).room s m av below meth c 0 0 (MQ below (pq_Qi D y G s.heap.size r S1) av s 1 6 (pq_A G s.heap.size)) D y 11 (pq_A G s.heap.size) (fun _ => True) G S 36 [(0, .ref a0), (1, .int x1), (2, .int x2), (3, .int x3), (4, .int x4), (5, .int x5), (6, .int x6), (7, .int x7)] [] := by
  induction n with
  | zero =>
    intro S a0 x1 x2 x3 x4 x5 x6 x7 k0_ h
    rw [F_L_prints_b36.eq_1] at h; cases h
  | succ n ih =>
    intro S a0 x1 x2 x3 x4 x5 x6 x7 k0_ h
    rw [F_L_prints_b36.eq_2] at h
    refine pv_iload C 7 dL_prints_36 rfl ?_
    refine pv_iload C 5 dL_prints_38 rfl ?_
    refine pv_icmp_ge (tgt := 213) C dL_prints_40 (by decide) (fun c21 => ?_) (fun c21 => ?_)
    · have h := pq_it c21 h
      refine pv_iload_n C 2 dL_prints_213 rfl rfl ?_
      refine pv_bipush (v := 8) C dL_prints_214 (by decide) ?_
      obtain ⟨v22, S23, e24, h⟩ := pq_bs h
      refine pv_calliS C [.int x2, .int (8 : Int32)] (fun sz => r_L_low W0  e24 sz) (va_cwS 2 C.1.2.2.2.2 gL_prints_L_low rfl rfl rfl (by decide +kernel) ⟨Nat.le_of_ble_eq_true rfl, Nat.le_of_ble_eq_true rfl⟩) rfl rfl (Nat.le_of_ble_eq_true rfl) dL_prints_216 ⟨Nat.le_of_ble_eq_true rfl, Nat.le_of_ble_eq_true rfl⟩ ?_
      refine pv_istore C [(7, .int v22), (0, .ref a0), (1, .int x1), (2, .int x2), (3, .int x3), (4, .int x4), (5, .int x5), (6, .int x6)] dL_prints_219 (by decide) rfl ?_
      refine pv_aload_n C 1 dL_prints_221 rfl rfl ?_
      obtain ⟨v25, S26, e27, h⟩ := pq_bs h
      refine pv_calliV C (ci := 10) rfl (by decide) k0_ [] (fun sz => r_X10_errorPosition W0 k0_ e27 sz) (cwV 0 C.1.2.2.2.2 gL_prints_X10_errorPosition rfl rfl rfl (by decide +kernel) ⟨Nat.le_of_ble_eq_true rfl, Nat.le_of_ble_eq_true rfl⟩) rfl rfl (Nat.le_of_ble_eq_true rfl) dL_prints_222 ⟨Nat.le_of_ble_eq_true rfl, Nat.le_of_ble_eq_true rfl⟩ ?_
      refine pv_iload C 7 dL_prints_225 rfl ?_
      refine pv_icmp_ne (tgt := 243) C dL_prints_227 (by decide) (fun c28 => ?_) (fun c28 => ?_)
      · have h := pq_if c28 h
        refine pv_iconst (v := 0) C dL_prints_243 (by decide) ?_
        refine pv_sub [1, 4, 5, 7, 0] rfl ?_
        exact r_L_prints_b244 hl hX W0 C hr hlk _ _ _ _ _ _ _ k0_ h
      · have h := pq_it c28 h
        refine pv_aload_n C 1 dL_prints_230 rfl rfl ?_
        obtain ⟨v29, S30, e31, h⟩ := pq_bs h
        refine pv_calliV C (ci := 10) rfl (by decide) k0_ [] (fun sz => r_X10_whyNotPrinted W0 k0_ e31 sz) (cwV 0 C.1.2.2.2.2 gL_prints_X10_whyNotPrinted rfl rfl rfl (by decide +kernel) ⟨Nat.le_of_ble_eq_true rfl, Nat.le_of_ble_eq_true rfl⟩) rfl rfl (Nat.le_of_ble_eq_true rfl) dL_prints_231 ⟨Nat.le_of_ble_eq_true rfl, Nat.le_of_ble_eq_true rfl⟩ ?_
        refine pv_iload C 5 dL_prints_234 rfl ?_
        refine pv_icmp_ne (tgt := 243) C dL_prints_236 (by decide) (fun c32 => ?_) (fun c32 => ?_)
        · have h := pq_if c32 h
          refine pv_iconst (v := 0) C dL_prints_243 (by decide) ?_
          refine pv_sub [1, 4, 5, 7, 0] rfl ?_
          exact r_L_prints_b244 hl hX W0 C hr hlk _ _ _ _ _ _ _ k0_ h
        · have h := pq_it c32 h
          refine pv_iconst (v := 1) C dL_prints_239 (by decide) ?_
          refine pv_goto (tgt := 244) C dL_prints_240 (by decide) ?_
          refine pv_sub [1, 4, 5, 7, 0] rfl ?_
          exact r_L_prints_b244 hl hX W0 C hr hlk _ _ _ _ _ _ _ k0_ h
    · have h := pq_if c21 h
      refine pv_iload_n C 1 dL_prints_43 rfl rfl ?_
      refine pv_iconst (v := 3) C dL_prints_44 (by decide) ?_
      refine pv_iload C 7 dL_prints_45 rfl ?_
      refine pv_imul C dL_prints_47 ?_
      refine pv_ishr C dL_prints_48 ?_
      refine pv_iload_n C 2 dL_prints_49 rfl rfl ?_
      refine pv_iconst (v := 2) C dL_prints_50 (by decide) ?_
      refine pv_iload C 7 dL_prints_51 rfl ?_
      refine pv_imul C dL_prints_53 ?_
      refine pv_ishr C dL_prints_54 ?_
      refine pv_ixor C dL_prints_55 ?_
      refine pv_nmi (fun i33 e34 => ?_)
      have h := pq_ls e34 h
      refine pv_istore C [(8, .int i33), (0, .ref a0), (1, .int x1), (2, .int x2), (3, .int x3), (4, .int x4), (5, .int x5), (6, .int x6), (7, .int x7)] dL_prints_56 (by decide) rfl ?_
      refine pv_iload C 0 dL_prints_58 rfl ?_
      refine pv_iconst (v := 3) C dL_prints_60 (by decide) ?_
      refine pv_ishr C dL_prints_61 ?_
      refine pv_iload C 0 dL_prints_62 rfl ?_
      refine pv_iconst (v := 5) C dL_prints_64 (by decide) ?_
      refine pv_ishr C dL_prints_65 ?_
      refine pv_bipush (v := 9) C dL_prints_66 (by decide) ?_
      obtain ⟨v35, S36, e37, h⟩ := pq_bs h
      refine pv_calliS C [.int (i33 >>> ((5 : Int32) &&& 31)), .int (9 : Int32)] (fun sz => r_L_low W0  e37 sz) (va_cwS 2 C.1.2.2.2.2 gL_prints_L_low rfl rfl rfl (by decide +kernel) ⟨Nat.le_of_ble_eq_true rfl, Nat.le_of_ble_eq_true rfl⟩) rfl rfl (Nat.le_of_ble_eq_true rfl) dL_prints_68 ⟨Nat.le_of_ble_eq_true rfl, Nat.le_of_ble_eq_true rfl⟩ ?_
      refine pv_if_eq (tgt := 78) C dL_prints_71 (by decide) (fun c38 => ?_) (fun c38 => ?_)
      · have h := pq_it c38 h
        refine pv_bipush (v := 20) C dL_prints_78 (by decide) ?_
        refine pv_goto (tgt := 84) C dL_prints_80 (by decide) ?_
        refine pv_sub [1, 2, 3, 4, 5, 6, 7, 8, 0] rfl ?_
        exact r_L_prints_b84 hl hX W0 C hr hlk ih _ _ _ _ _ _ _ _ _ _ _ _ k0_ h
      · have h := pq_if c38 h
        refine pv_iload_n C 4 dL_prints_74 rfl rfl ?_
        refine pv_if_ne (tgt := 83) C dL_prints_75 (by decide) (fun c39 => ?_) (fun c39 => ?_)
        · have h := pq_if c39 h
          refine pv_iload_n C 4 dL_prints_83 rfl rfl ?_
          refine pv_sub [1, 2, 3, 4, 5, 6, 7, 8, 0] rfl ?_
          exact r_L_prints_b84 hl hX W0 C hr hlk ih _ _ _ _ _ _ _ _ _ _ _ _ k0_ h
        · have h := pq_it c39 h
          refine pv_bipush (v := 20) C dL_prints_78 (by decide) ?_
          refine pv_goto (tgt := 84) C dL_prints_80 (by decide) ?_
          refine pv_sub [1, 2, 3, 4, 5, 6, 7, 8, 0] rfl ?_
          exact r_L_prints_b84 hl hX W0 C hr hlk ih _ _ _ _ _ _ _ _ _ _ _ _ k0_ h
set_option maxHeartbeats 4000000 in
set_option maxRecDepth 100000 in
theorem r_L_prints_b16 {p : Program} {l : Launch} {e : Env} {s : State} {m : MethodId} {av : Array Value} {below : List Frame} {meth : Method} {c : Code} {D : va_G} {y : pq_Y} {G : pq_G} {r : Int32} {S1 : pq_N} (hl : l.stackTraces = false) (hX : pq_X (pq_A G s.heap.size) s s.heap) (W0 : pq_WT G) (C : pq_C p s m av c D y RL wsL_prints cL_prints 11) (hr : meth.sig.returnType = (some .boolean)) (hlk : meth.locks = false) : ∀ (S : pq_N) (a0 : Nat) (x1 : Int32) (x2 : Int32) (x3 : Int32) (t0 : Int32), pq_ok G 10 a0 → F_L_prints_b16 G S a0 x1 x2 x3 t0 = some (r, S1) → pq_V p l e (headSpec wsL_prints ({ frames := 8, cells := 1, slots := 6, locals := 173 } : Room)).room s m av below meth c 0 0 (MQ below (pq_Qi D y G s.heap.size r S1) av s 1 6 (pq_A G s.heap.size)) D y 11 (pq_A G s.heap.size) (fun _ => True) G S 16 [(0, .ref a0), (1, .int x1), (2, .int x2), (3, .int x3)] [.int t0] := by
  intro S a0 x1 x2 x3 t0 k0_ h
  unfold F_L_prints_b16 at h
  refine pv_istore C [(4, .int t0), (0, .ref a0), (1, .int x1), (2, .int x2), (3, .int x3)] dL_prints_16 (by decide) rfl ?_
  refine pv_iconst (v := 1) C dL_prints_18 (by decide) ?_
  refine pv_iload_n C 2 dL_prints_19 rfl rfl ?_
  refine pv_iconst (v := 4) C dL_prints_20 (by decide) ?_
  obtain ⟨v15, S16, e17, h⟩ := pq_bs h
  refine pv_calliS C [.int x1, .int (4 : Int32)] (fun sz => r_L_low W0  e17 sz) (va_cwS 2 C.1.2.2.2.2 gL_prints_L_low rfl rfl rfl (by decide +kernel) ⟨Nat.le_of_ble_eq_true rfl, Nat.le_of_ble_eq_true rfl⟩) rfl rfl (Nat.le_of_ble_eq_true rfl) dL_prints_21 ⟨Nat.le_of_ble_eq_true rfl, Nat.le_of_ble_eq_true rfl⟩ ?_
  refine pv_iadd C dL_prints_24 ?_
  refine pv_istore C [(5, .int ((1 : Int32) + v15)), (4, .int t0), (0, .ref a0), (1, .int x1), (2, .int x2), (3, .int x3)] dL_prints_25 (by decide) rfl ?_
  refine pv_aload_n C 2 dL_prints_27 rfl rfl ?_
  obtain ⟨v18, S19, e20, h⟩ := pq_bs h
  refine pv_calliV C (ci := 10) rfl (by decide) k0_ [] (fun sz => r_X10_clearText W0 k0_ e20 sz) (cwV 0 C.1.2.2.2.2 gL_prints_X10_clearText rfl rfl rfl (by decide +kernel) ⟨Nat.le_of_ble_eq_true rfl, Nat.le_of_ble_eq_true rfl⟩) rfl rfl (Nat.le_of_ble_eq_true rfl) dL_prints_28 ⟨Nat.le_of_ble_eq_true rfl, Nat.le_of_ble_eq_true rfl⟩ ?_
  refine pv_istore C [(6, .int v18), (5, .int ((1 : Int32) + v15)), (4, .int t0), (0, .ref a0), (1, .int x1), (2, .int x2), (3, .int x3)] dL_prints_31 (by decide) rfl ?_
  refine pv_iconst (v := 0) C dL_prints_33 (by decide) ?_
  refine pv_istore C [(7, .int (0 : Int32)), (6, .int v18), (5, .int ((1 : Int32) + v15)), (4, .int t0), (0, .ref a0), (1, .int x1), (2, .int x2), (3, .int x3)] dL_prints_34 (by decide) rfl ?_
  refine pv_sub [4, 5, 6, 7, 3, 2, 1, 0] rfl ?_
  exact r_L_prints_b36 hl hX W0 C hr hlk pq_fuel _ _ _ _ _ _ _ _ _ k0_ h
set_option maxHeartbeats 4000000 in
set_option maxRecDepth 100000 in
theorem r_L_prints {l : Launch} (hl : l.stackTraces = false) {D : va_G} {y : pq_Y} {G : pq_G} (W0 : pq_WT G) {S : pq_N} {a0 : Nat} {x1 : Int32} {x2 : Int32} (k0_ : pq_ok G 10 a0) {r : Int32} {S1 : pq_N} (h : F_L_prints G S a0 x1 x2 = some (r, S1)) (sz : Nat) : Met l yL_prints wsL_prints ({ frames := 8, cells := 1, slots := 6, locals := 173 } : Room) (pq_PX D y G S sz [.ref a0, .int x1, .int x2]) (pq_Qi D y G sz r S1) 1 6 (pq_A G sz) := by
  refine pq_enterP RL 11 (by decide) rfl rfl rfl ?_
  intro p e s m below meth c C hsz hr hlk hX
  subst hsz
  unfold F_L_prints at h
  refine pv_sub (lo1 := [(0, .ref a0), (1, .int x1), (2, .int x2)]) [0, 1, 2] rfl ?_
  refine pv_aload_n C 0 dL_prints_0 rfl rfl ?_
  obtain ⟨v11, S12, e13, h⟩ := pq_bs h
  refine pv_calliV C (ci := 10) rfl (by decide) k0_ [] (fun sz => r_X10_pamphlets W0 k0_ e13 sz) (cwV 0 C.1.2.2.2.2 gL_prints_X10_pamphlets rfl rfl rfl (by decide +kernel) ⟨Nat.le_of_ble_eq_true rfl, Nat.le_of_ble_eq_true rfl⟩) rfl rfl (Nat.le_of_ble_eq_true rfl) dL_prints_1 ⟨Nat.le_of_ble_eq_true rfl, Nat.le_of_ble_eq_true rfl⟩ ?_
  refine pv_istore_n C [(3, .int v11), (0, .ref a0), (1, .int x1), (2, .int x2)] dL_prints_4 rfl (by decide) rfl ?_
  refine pv_iload_n C 0 dL_prints_5 rfl rfl ?_
  refine pv_bipush (v := 20) C dL_prints_6 (by decide) ?_
  refine pv_icmp_ne (tgt := 15) C dL_prints_8 (by decide) (fun c14 => ?_) (fun c14 => ?_)
  · have h := pq_if c14 h
    refine pv_iconst (v := 0) C dL_prints_15 (by decide) ?_
    refine pv_sub [1, 2, 3, 0] rfl ?_
    exact r_L_prints_b16 hl hX W0 C hr hlk _ _ _ _ _ _ k0_ h
  · have h := pq_it c14 h
    refine pv_iconst (v := 1) C dL_prints_11 (by decide) ?_
    refine pv_goto (tgt := 16) C dL_prints_12 (by decide) ?_
    refine pv_sub [1, 2, 3, 0] rfl ?_
    exact r_L_prints_b16 hl hX W0 C hr hlk _ _ _ _ _ _ k0_ h
def F_L_mends_b94 (G : pq_G)  (S : pq_N) (a0 : Nat) (x7 : Int64) (x9 : Int32) : Option (Int32 × pq_N) := (if x9 = (-7002 : Int32) then (pq_bd (F_L_tale G S a0) fun v52 S53 => (if (lg_cmp v52 x7) = (0 : Int32) then some ((1 : Int32), S53) else some ((0 : Int32), S53))) else some ((0 : Int32), S))
def F_L_mends (G : pq_G) (S : pq_N) (a0 : Nat) (x1 : Int32) (x2 : Int32) : Option (Int32 × pq_N) := (pq_bd (E_X10_quotationsOf G S a0 x1) fun v11 S12 => (if v11 = (0 : Int32) then (pq_bd (F_L_tryMend G S12 a0 x1 (0 : Int32)) fun v47 S48 => (if v47 = (-7003 : Int32) then some ((1 : Int32), S48) else some ((0 : Int32), S48))) else (pq_bd (F_L_low G S12 x2 v11) fun v15 S16 => (pq_bd (E_X10_changesByTable G S16 a0 x1 v15) fun v18 S19 => (pq_bd (E_X10_wordsOf G S19 a0 x1) fun v21 S22 => (pq_bd (E_X10_lengthOf G S22 a0 x1 v15) fun v24 S25 => (pq_bd (E_X10_passageLength G S25 a0 x1 v15) fun v27 S28 => (pq_bd (F_L_tale G S28 a0) fun v30 S31 => (pq_bd (F_L_tryMend G S31 a0 x1 v15) fun v33 S34 => (if v18 = (0 : Int32) then F_L_mends_b94 G S34 a0 v30 v33 else (if ((v21 - v24) + v27) ≤ (60 : Int32) then (if v33 = v18 then (pq_bd (E_X10_changesByTable G S34 a0 x1 v15) fun v39 S40 => (if v39 = (0 : Int32) then (pq_bd (E_X10_wordsOf G S40 a0 x1) fun v43 S44 => (if v43 = ((v21 - v24) + v27) then some ((1 : Int32), S44) else some ((0 : Int32), S44))) else some ((0 : Int32), S40))) else some ((0 : Int32), S34)) else F_L_mends_b94 G S34 a0 v30 v33)))))))))))
set_option maxHeartbeats 4000000 in
set_option maxRecDepth 100000 in
theorem r_L_mends_b94 {p : Program} {l : Launch} {e : Env} {s : State} {m : MethodId} {av : Array Value} {below : List Frame} {meth : Method} {c : Code} {D : va_G} {y : pq_Y} {G : pq_G} {r : Int32} {S1 : pq_N} (hl : l.stackTraces = false) (hX : pq_X (pq_A G s.heap.size) s s.heap) (W0 : pq_WT G) (C : pq_C p s m av c D y RL wsL_mends cL_mends 10) (hr : meth.sig.returnType = (some .boolean)) (hlk : meth.locks = false) : ∀ (S : pq_N) (a0 : Nat) (x7 : Int64) (x9 : Int32), pq_ok G 10 a0 → F_L_mends_b94 G S a0 x7 x9 = some (r, S1) → pq_V p l e (headSpec wsL_mends ({ frames := 10, cells := 3, slots := 18, locals := 179 } : Room)).room s m av below meth c 3 18 (MQ below (pq_Qi D y G s.heap.size r S1) av s 3 18 (pq_A G s.heap.size)) D y 10 (pq_A G s.heap.size) (fun _ => True) G S 94 [(0, .ref a0), (7, .long x7), (9, .int x9)] [] := by
  intro S a0 x7 x9 k0_ h
  unfold F_L_mends_b94 at h
  refine pv_iload C 2 dL_mends_94 rfl ?_
  refine pv_sipush (v := -7002) C dL_mends_96 (by decide) ?_
  refine pv_icmp_ne (tgt := 116) C dL_mends_99 (by decide) (fun c51 => ?_) (fun c51 => ?_)
  · have h := pq_if c51 h
    refine pv_iconst (v := 0) C dL_mends_116 (by decide) ?_
    refine pv_wide (k := 3) (n := 18) (Nat.le_of_ble_eq_true rfl) (Nat.le_of_ble_eq_true rfl) ?_
    exact pv_zret C hr rfl hlk h dL_mends_117
  · have h := pq_it c51 h
    refine pv_aload_n C 0 dL_mends_102 rfl rfl ?_
    obtain ⟨v52, S53, e54, h⟩ := pq_bs h
    refine pv_calllS C [.ref a0] (fun sz => r_L_tale W0 k0_ e54 sz) (va_cwS 1 C.1.2.2.2.2 gL_mends_L_tale rfl rfl rfl (by decide +kernel) ⟨Nat.le_of_ble_eq_true rfl, Nat.le_of_ble_eq_true rfl⟩) rfl rfl (Nat.le_of_ble_eq_true rfl) dL_mends_103 ⟨Nat.le_of_ble_eq_true rfl, Nat.le_of_ble_eq_true rfl⟩ ?_
    refine pv_lload C 1 dL_mends_106 rfl ?_
    refine pv_lcmp C dL_mends_108 ?_
    refine pv_if_ne (tgt := 116) C dL_mends_109 (by decide) (fun c55 => ?_) (fun c55 => ?_)
    · have h := pq_if c55 h
      refine pv_iconst (v := 0) C dL_mends_116 (by decide) ?_
      refine pv_wide (k := 3) (n := 18) (Nat.le_of_ble_eq_true rfl) (Nat.le_of_ble_eq_true rfl) ?_
      exact pv_zret C hr rfl hlk h dL_mends_117
    · have h := pq_it c55 h
      refine pv_iconst (v := 1) C dL_mends_112 (by decide) ?_
      refine pv_goto (tgt := 117) C dL_mends_113 (by decide) ?_
      refine pv_wide (k := 3) (n := 18) (Nat.le_of_ble_eq_true rfl) (Nat.le_of_ble_eq_true rfl) ?_
      exact pv_zret C hr rfl hlk h dL_mends_117
set_option maxHeartbeats 4000000 in
set_option maxRecDepth 100000 in
theorem r_L_mends {l : Launch} (hl : l.stackTraces = false) {D : va_G} {y : pq_Y} {G : pq_G} (W0 : pq_WT G) {S : pq_N} {a0 : Nat} {x1 : Int32} {x2 : Int32} (k0_ : pq_ok G 10 a0) {r : Int32} {S1 : pq_N} (h : F_L_mends G S a0 x1 x2 = some (r, S1)) (sz : Nat) : Met l yL_mends wsL_mends ({ frames := 10, cells := 3, slots := 18, locals := 179 } : Room) (pq_PX D y G S sz [.ref a0, .int x1, .int x2]) (pq_Qi D y G sz r S1) 3 18 (pq_A G sz) := by
  refine pq_enterP RL 10 (by decide) rfl rfl rfl ?_
  intro p e s m below meth c C hsz hr hlk hX
  subst hsz
  unfold F_L_mends at h
  refine pv_sub (lo1 := [(0, .ref a0), (1, .int x1), (2, .int x2)]) [0, 1, 2] rfl ?_
  refine pv_aload_n C 0 dL_mends_0 rfl rfl ?_
  refine pv_iload_n C 1 dL_mends_1 rfl rfl ?_
  obtain ⟨v11, S12, e13, h⟩ := pq_bs h
  refine pv_calliV C (ci := 10) rfl (by decide) k0_ [.int x1] (fun sz => e_X10_quotationsOf W0 k0_ e13 sz) (cwV 1 C.1.2.2.2.2 gL_mends_X10_quotationsOf rfl rfl rfl (by decide +kernel) ⟨Nat.le_of_ble_eq_true rfl, Nat.le_of_ble_eq_true rfl⟩) rfl rfl (Nat.le_of_ble_eq_true rfl) dL_mends_2 ⟨Nat.le_of_ble_eq_true rfl, Nat.le_of_ble_eq_true rfl⟩ ?_
  refine pv_istore_n C [(3, .int v11), (0, .ref a0), (1, .int x1), (2, .int x2)] dL_mends_5 rfl (by decide) rfl ?_
  refine pv_iload_n C 0 dL_mends_6 rfl rfl ?_
  refine pv_if_ne (tgt := 28) C dL_mends_7 (by decide) (fun c14 => ?_) (fun c14 => ?_)
  · have h := pq_if c14 h
    refine pv_iload_n C 3 dL_mends_28 rfl rfl ?_
    refine pv_iload_n C 0 dL_mends_29 rfl rfl ?_
    obtain ⟨v15, S16, e17, h⟩ := pq_bs h
    refine pv_calliS C [.int x2, .int v11] (fun sz => r_L_low W0  e17 sz) (va_cwS 2 C.1.2.2.2.2 gL_mends_L_low rfl rfl rfl (by decide +kernel) ⟨Nat.le_of_ble_eq_true rfl, Nat.le_of_ble_eq_true rfl⟩) rfl rfl (Nat.le_of_ble_eq_true rfl) dL_mends_30 ⟨Nat.le_of_ble_eq_true rfl, Nat.le_of_ble_eq_true rfl⟩ ?_
    refine pv_istore C [(4, .int v15), (3, .int v11), (0, .ref a0), (1, .int x1), (2, .int x2)] dL_mends_33 (by decide) rfl ?_
    refine pv_aload_n C 2 dL_mends_35 rfl rfl ?_
    refine pv_iload_n C 3 dL_mends_36 rfl rfl ?_
    refine pv_iload C 0 dL_mends_37 rfl ?_
    obtain ⟨v18, S19, e20, h⟩ := pq_bs h
    refine pv_calliV C (ci := 10) rfl (by decide) k0_ [.int x1, .int v15] (fun sz => e_X10_changesByTable W0 k0_ e20 sz) (cwV 2 C.1.2.2.2.2 gL_mends_X10_changesByTable rfl rfl rfl (by decide +kernel) ⟨Nat.le_of_ble_eq_true rfl, Nat.le_of_ble_eq_true rfl⟩) rfl rfl (Nat.le_of_ble_eq_true rfl) dL_mends_39 ⟨Nat.le_of_ble_eq_true rfl, Nat.le_of_ble_eq_true rfl⟩ ?_
    refine pv_istore C [(5, .int v18), (4, .int v15), (3, .int v11), (0, .ref a0), (1, .int x1), (2, .int x2)] dL_mends_42 (by decide) rfl ?_
    refine pv_aload_n C 3 dL_mends_44 rfl rfl ?_
    refine pv_iload_n C 4 dL_mends_45 rfl rfl ?_
    obtain ⟨v21, S22, e23, h⟩ := pq_bs h
    refine pv_calliV C (ci := 10) rfl (by decide) k0_ [.int x1] (fun sz => e_X10_wordsOf W0 k0_ e23 sz) (cwV 1 C.1.2.2.2.2 gL_mends_X10_wordsOf rfl rfl rfl (by decide +kernel) ⟨Nat.le_of_ble_eq_true rfl, Nat.le_of_ble_eq_true rfl⟩) rfl rfl (Nat.le_of_ble_eq_true rfl) dL_mends_46 ⟨Nat.le_of_ble_eq_true rfl, Nat.le_of_ble_eq_true rfl⟩ ?_
    refine pv_aload_n C 3 dL_mends_49 rfl rfl ?_
    refine pv_iload_n C 4 dL_mends_50 rfl rfl ?_
    refine pv_iload C 1 dL_mends_51 rfl ?_
    obtain ⟨v24, S25, e26, h⟩ := pq_bs h
    refine pv_calliV C (ci := 10) rfl (by decide) k0_ [.int x1, .int v15] (fun sz => e_X10_lengthOf W0 k0_ e26 sz) (cwV 2 C.1.2.2.2.2 gL_mends_X10_lengthOf rfl rfl rfl (by decide +kernel) ⟨Nat.le_of_ble_eq_true rfl, Nat.le_of_ble_eq_true rfl⟩) rfl rfl (Nat.le_of_ble_eq_true rfl) dL_mends_53 ⟨Nat.le_of_ble_eq_true rfl, Nat.le_of_ble_eq_true rfl⟩ ?_
    refine pv_isub C dL_mends_56 ?_
    refine pv_aload_n C 3 dL_mends_57 rfl rfl ?_
    refine pv_iload_n C 4 dL_mends_58 rfl rfl ?_
    refine pv_iload C 1 dL_mends_59 rfl ?_
    obtain ⟨v27, S28, e29, h⟩ := pq_bs h
    refine pv_calliV C (ci := 10) rfl (by decide) k0_ [.int x1, .int v15] (fun sz => e_X10_passageLength W0 k0_ e29 sz) (cwV 2 C.1.2.2.2.2 gL_mends_X10_passageLength rfl rfl rfl (by decide +kernel) ⟨Nat.le_of_ble_eq_true rfl, Nat.le_of_ble_eq_true rfl⟩) rfl rfl (Nat.le_of_ble_eq_true rfl) dL_mends_61 ⟨Nat.le_of_ble_eq_true rfl, Nat.le_of_ble_eq_true rfl⟩ ?_
    refine pv_iadd C dL_mends_64 ?_
    refine pv_istore C [(6, .int ((v21 - v24) + v27)), (5, .int v18), (4, .int v15), (3, .int v11), (0, .ref a0), (1, .int x1), (2, .int x2)] dL_mends_65 (by decide) rfl ?_
    refine pv_aload_n C 4 dL_mends_67 rfl rfl ?_
    obtain ⟨v30, S31, e32, h⟩ := pq_bs h
    refine pv_calllS C [.ref a0] (fun sz => r_L_tale W0 k0_ e32 sz) (va_cwS 1 C.1.2.2.2.2 gL_mends_L_tale rfl rfl rfl (by decide +kernel) ⟨Nat.le_of_ble_eq_true rfl, Nat.le_of_ble_eq_true rfl⟩) rfl rfl (Nat.le_of_ble_eq_true rfl) dL_mends_68 ⟨Nat.le_of_ble_eq_true rfl, Nat.le_of_ble_eq_true rfl⟩ ?_
    refine pv_lstore C [(7, .long v30), (6, .int ((v21 - v24) + v27)), (5, .int v18), (4, .int v15), (3, .int v11), (0, .ref a0), (1, .int x1), (2, .int x2)] dL_mends_71 (by decide) rfl ?_
    refine pv_aload_n C 5 dL_mends_73 rfl rfl ?_
    refine pv_iload_n C 6 dL_mends_74 rfl rfl ?_
    refine pv_iload C 3 dL_mends_75 rfl ?_
    obtain ⟨v33, S34, e35, h⟩ := pq_bs h
    refine pv_hcalli C (kc := 3) (ks := 18) hX [.ref a0, .int x1, .int v15] (fun sz => r_L_tryMend hl W0 k0_ e35 sz) (vx_cwSW 3 C.1.2.2.2.2 gL_mends_L_tryMend rfl rfl rfl (by decide +kernel) ⟨Nat.le_of_ble_eq_true rfl, Nat.le_of_ble_eq_true rfl⟩) rfl rfl (Nat.le_of_ble_eq_true rfl) dL_mends_77 ⟨Nat.le_of_ble_eq_true rfl, Nat.le_of_ble_eq_true rfl⟩ ?_
    refine pv_istore C [(9, .int v33), (7, .long v30), (6, .int ((v21 - v24) + v27)), (5, .int v18), (4, .int v15), (3, .int v11), (0, .ref a0), (1, .int x1), (2, .int x2)] dL_mends_80 (by decide) rfl ?_
    refine pv_iload C 3 dL_mends_82 rfl ?_
    refine pv_if_eq (tgt := 94) C dL_mends_84 (by decide) (fun c36 => ?_) (fun c36 => ?_)
    · have h := pq_it c36 h
      refine pv_sub [6, 1, 0] rfl ?_
      exact r_L_mends_b94 hl hX W0 C hr hlk _ _ _ _ k0_ h
    · have h := pq_if c36 h
      refine pv_iload C 2 dL_mends_87 rfl ?_
      refine pv_bipush (v := 60) C dL_mends_89 (by decide) ?_
      refine pv_icmp_le (tgt := 118) C dL_mends_91 (by decide) (fun c37 => ?_) (fun c37 => ?_)
      · have h := pq_it c37 h
        refine pv_iload C 0 dL_mends_118 rfl ?_
        refine pv_iload C 3 dL_mends_120 rfl ?_
        refine pv_icmp_ne (tgt := 149) C dL_mends_122 (by decide) (fun c38 => ?_) (fun c38 => ?_)
        · have h := pq_if c38 h
          refine pv_iconst (v := 0) C dL_mends_149 (by decide) ?_
          refine pv_wide (k := 3) (n := 18) (Nat.le_of_ble_eq_true rfl) (Nat.le_of_ble_eq_true rfl) ?_
          exact pv_zret C hr rfl hlk h dL_mends_150
        · have h := pq_it c38 h
          refine pv_aload_n C 6 dL_mends_125 rfl rfl ?_
          refine pv_iload_n C 7 dL_mends_126 rfl rfl ?_
          refine pv_iload C 4 dL_mends_127 rfl ?_
          obtain ⟨v39, S40, e41, h⟩ := pq_bs h
          refine pv_calliV C (ci := 10) rfl (by decide) k0_ [.int x1, .int v15] (fun sz => e_X10_changesByTable W0 k0_ e41 sz) (cwV 2 C.1.2.2.2.2 gL_mends_X10_changesByTable rfl rfl rfl (by decide +kernel) ⟨Nat.le_of_ble_eq_true rfl, Nat.le_of_ble_eq_true rfl⟩) rfl rfl (Nat.le_of_ble_eq_true rfl) dL_mends_129 ⟨Nat.le_of_ble_eq_true rfl, Nat.le_of_ble_eq_true rfl⟩ ?_
          refine pv_if_ne (tgt := 149) C dL_mends_132 (by decide) (fun c42 => ?_) (fun c42 => ?_)
          · have h := pq_if c42 h
            refine pv_iconst (v := 0) C dL_mends_149 (by decide) ?_
            refine pv_wide (k := 3) (n := 18) (Nat.le_of_ble_eq_true rfl) (Nat.le_of_ble_eq_true rfl) ?_
            exact pv_zret C hr rfl hlk h dL_mends_150
          · have h := pq_it c42 h
            refine pv_aload_n C 6 dL_mends_135 rfl rfl ?_
            refine pv_iload_n C 7 dL_mends_136 rfl rfl ?_
            obtain ⟨v43, S44, e45, h⟩ := pq_bs h
            refine pv_calliV C (ci := 10) rfl (by decide) k0_ [.int x1] (fun sz => e_X10_wordsOf W0 k0_ e45 sz) (cwV 1 C.1.2.2.2.2 gL_mends_X10_wordsOf rfl rfl rfl (by decide +kernel) ⟨Nat.le_of_ble_eq_true rfl, Nat.le_of_ble_eq_true rfl⟩) rfl rfl (Nat.le_of_ble_eq_true rfl) dL_mends_137 ⟨Nat.le_of_ble_eq_true rfl, Nat.le_of_ble_eq_true rfl⟩ ?_
            refine pv_iload C 2 dL_mends_140 rfl ?_
            refine pv_icmp_ne (tgt := 149) C dL_mends_142 (by decide) (fun c46 => ?_) (fun c46 => ?_)
            · have h := pq_if c46 h
              refine pv_iconst (v := 0) C dL_mends_149 (by decide) ?_
              refine pv_wide (k := 3) (n := 18) (Nat.le_of_ble_eq_true rfl) (Nat.le_of_ble_eq_true rfl) ?_
              exact pv_zret C hr rfl hlk h dL_mends_150
            · have h := pq_it c46 h
              refine pv_iconst (v := 1) C dL_mends_145 (by decide) ?_
              refine pv_goto (tgt := 150) C dL_mends_146 (by decide) ?_
              refine pv_wide (k := 3) (n := 18) (Nat.le_of_ble_eq_true rfl) (Nat.le_of_ble_eq_true rfl) ?_
              exact pv_zret C hr rfl hlk h dL_mends_150
      · have h := pq_if c37 h
        refine pv_sub [6, 1, 0] rfl ?_
        exact r_L_mends_b94 hl hX W0 C hr hlk _ _ _ _ k0_ h
  · have h := pq_it c14 h
    refine pv_aload_n C 1 dL_mends_10 rfl rfl ?_
    refine pv_iload_n C 2 dL_mends_11 rfl rfl ?_
    refine pv_iconst (v := 0) C dL_mends_12 (by decide) ?_
    obtain ⟨v47, S48, e49, h⟩ := pq_bs h
    refine pv_hcalli C (kc := 3) (ks := 18) hX [.ref a0, .int x1, .int (0 : Int32)] (fun sz => r_L_tryMend hl W0 k0_ e49 sz) (vx_cwSW 3 C.1.2.2.2.2 gL_mends_L_tryMend rfl rfl rfl (by decide +kernel) ⟨Nat.le_of_ble_eq_true rfl, Nat.le_of_ble_eq_true rfl⟩) rfl rfl (Nat.le_of_ble_eq_true rfl) dL_mends_13 ⟨Nat.le_of_ble_eq_true rfl, Nat.le_of_ble_eq_true rfl⟩ ?_
    refine pv_sipush (v := -7003) C dL_mends_16 (by decide) ?_
    refine pv_icmp_ne (tgt := 26) C dL_mends_19 (by decide) (fun c50 => ?_) (fun c50 => ?_)
    · have h := pq_if c50 h
      refine pv_iconst (v := 0) C dL_mends_26 (by decide) ?_
      refine pv_wide (k := 3) (n := 18) (Nat.le_of_ble_eq_true rfl) (Nat.le_of_ble_eq_true rfl) ?_
      exact pv_zret C hr rfl hlk h dL_mends_27
    · have h := pq_it c50 h
      refine pv_iconst (v := 1) C dL_mends_22 (by decide) ?_
      refine pv_goto (tgt := 27) C dL_mends_23 (by decide) ?_
      refine pv_wide (k := 3) (n := 18) (Nat.le_of_ble_eq_true rfl) (Nat.le_of_ble_eq_true rfl) ?_
      exact pv_zret C hr rfl hlk h dL_mends_27
def F_L_mendsAll_b64 (G : pq_G)  (S : pq_N) (a0 : Nat) : Option (Int32 × pq_N) := (pq_bd (F_X10_blameByAuthors G S a0) fun v30 S31 => (if (0 : Int32) < v30 then some ((1 : Int32), S31) else (pq_bd (F_X10_mendAll G S31 a0) fun v34 S35 => (if v34 = (0 : Int32) then some ((1 : Int32), S35) else some ((0 : Int32), S35)))))
def F_L_mendsAll_b4 (G : pq_G)  : Nat → pq_N → Nat → Int32 → Int32 → Option (Int32 × pq_N)
  | 0, _, _, _, _ => none
  | n + 1, S, a0, x1, x2 => (pq_bd (F_X10_pamphlets G S a0) fun v11 S12 => (if v11 ≤ x2 then (pq_bd (F_X10_mendAll G S12 a0) fun v15 S16 => (if v15 < (0 : Int32) then some ((0 : Int32), S16) else (if x1 = (0 : Int32) then F_L_mendsAll_b64 G S16 a0 else (pq_bd (F_X10_blameByAuthors G S16 a0) fun v20 S21 => (if v20 = (0 : Int32) then F_L_mendsAll_b64 G S21 a0 else (if v15 ≤ (9 : Int32) then some ((0 : Int32), S21) else F_L_mendsAll_b64 G S21 a0)))))) else (if x1 = (0 : Int32) then (F_L_mendsAll_b4 G n) S12 a0 (0 : Int32) (x2 + (1 : Int32)) else (pq_bd (E_X10_wordsOf G S12 a0 x2) fun v26 S27 => (if (30 : Int32) ≤ v26 then (F_L_mendsAll_b4 G n) S27 a0 (0 : Int32) (x2 + (1 : Int32)) else (F_L_mendsAll_b4 G n) S27 a0 (1 : Int32) (x2 + (1 : Int32)))))))
def F_L_mendsAll (G : pq_G) (S : pq_N) (a0 : Nat) : Option (Int32 × pq_N) := F_L_mendsAll_b4 G pq_fuel S a0 (1 : Int32) (0 : Int32)
set_option maxHeartbeats 4000000 in
set_option maxRecDepth 100000 in
theorem r_L_mendsAll_b64 {p : Program} {l : Launch} {e : Env} {s : State} {m : MethodId} {av : Array Value} {below : List Frame} {meth : Method} {c : Code} {D : va_G} {y : pq_Y} {G : pq_G} {r : Int32} {S1 : pq_N} (W0 : pq_WT G) (C : pq_C p s m av c D y RL wsL_mendsAll cL_mendsAll 3) (hr : meth.sig.returnType = (some .boolean)) (hlk : meth.locks = false) : ∀ (S : pq_N) (a0 : Nat), pq_ok G 10 a0 → F_L_mendsAll_b64 G S a0 = some (r, S1) → pq_V p l e (headSpec wsL_mendsAll ({ frames := 7, cells := 0, slots := 0, locals := 177 } : Room)).room s m av below meth c 0 0 (MQ below (pq_Qi D y G s.heap.size r S1) av s 0 0 (pq_A G s.heap.size)) D y 3 (pq_A G s.heap.size) (fun _ => True) G S 64 [(0, .ref a0)] [] := by
  intro S a0 k0_ h
  unfold F_L_mendsAll_b64 at h
  refine pv_aload_n C 0 dL_mendsAll_64 rfl rfl ?_
  obtain ⟨v30, S31, e32, h⟩ := pq_bs h
  refine pv_calliV C (ci := 10) rfl (by decide) k0_ [] (fun sz => r_X10_blameByAuthors W0 k0_ e32 sz) (cwV 0 C.1.2.2.2.2 gL_mendsAll_X10_blameByAuthors rfl rfl rfl (by decide +kernel) ⟨Nat.le_of_ble_eq_true rfl, Nat.le_of_ble_eq_true rfl⟩) rfl rfl (Nat.le_of_ble_eq_true rfl) dL_mendsAll_65 ⟨Nat.le_of_ble_eq_true rfl, Nat.le_of_ble_eq_true rfl⟩ ?_
  refine pv_if_gt (tgt := 78) C dL_mendsAll_68 (by decide) (fun c33 => ?_) (fun c33 => ?_)
  · have h := pq_it c33 h
    refine pv_iconst (v := 1) C dL_mendsAll_78 (by decide) ?_
    refine pv_goto (tgt := 83) C dL_mendsAll_79 (by decide) ?_
    exact pv_zret C hr rfl hlk h dL_mendsAll_83
  · have h := pq_if c33 h
    refine pv_aload_n C 0 dL_mendsAll_71 rfl rfl ?_
    obtain ⟨v34, S35, e36, h⟩ := pq_bs h
    refine pv_calliV C (ci := 10) rfl (by decide) k0_ [] (fun sz => r_X10_mendAll W0 k0_ e36 sz) (cwV 0 C.1.2.2.2.2 gL_mendsAll_X10_mendAll rfl rfl rfl (by decide +kernel) ⟨Nat.le_of_ble_eq_true rfl, Nat.le_of_ble_eq_true rfl⟩) rfl rfl (Nat.le_of_ble_eq_true rfl) dL_mendsAll_72 ⟨Nat.le_of_ble_eq_true rfl, Nat.le_of_ble_eq_true rfl⟩ ?_
    refine pv_if_ne (tgt := 82) C dL_mendsAll_75 (by decide) (fun c37 => ?_) (fun c37 => ?_)
    · have h := pq_if c37 h
      refine pv_iconst (v := 0) C dL_mendsAll_82 (by decide) ?_
      exact pv_zret C hr rfl hlk h dL_mendsAll_83
    · have h := pq_it c37 h
      refine pv_iconst (v := 1) C dL_mendsAll_78 (by decide) ?_
      refine pv_goto (tgt := 83) C dL_mendsAll_79 (by decide) ?_
      exact pv_zret C hr rfl hlk h dL_mendsAll_83
set_option maxHeartbeats 4000000 in
set_option maxRecDepth 100000 in
theorem r_L_mendsAll_b4 {p : Program} {l : Launch} {e : Env} {s : State} {m : MethodId} {av : Array Value} {below : List Frame} {meth : Method} {c : Code} {D : va_G} {y : pq_Y} {G : pq_G} {r : Int32} {S1 : pq_N} (W0 : pq_WT G) (C : pq_C p s m av c D y RL wsL_mendsAll cL_mendsAll 3) (hr : meth.sig.returnType = (some .boolean)) (hlk : meth.locks = false) (n : Nat) : ∀ (S : pq_N) (a0 : Nat) (x1 : Int32) (x2 : Int32), pq_ok G 10 a0 → F_L_mendsAll_b4 G n S a0 x1 x2 = some (r, S1) → pq_V p l e (headSpec wsL_mendsAll ({ frames := 7, cells := 0, slots := 0, locals := 177 } : Room)).room s m av below meth c 0 0 (MQ below (pq_Qi D y G s.heap.size r S1) av s 0 0 (pq_A G s.heap.size)) D y 3 (pq_A G s.heap.size) (fun _ => True) G S 4 [(0, .ref a0), (1, .int x1), (2, .int x2)] [] := by
  induction n with
  | zero =>
    intro S a0 x1 x2 k0_ h
    rw [F_L_mendsAll_b4.eq_1] at h; cases h
  | succ n ih =>
    intro S a0 x1 x2 k0_ h
    rw [F_L_mendsAll_b4.eq_2] at h
    refine pv_iload_n C 2 dL_mendsAll_4 rfl rfl ?_
    refine pv_aload_n C 0 dL_mendsAll_5 rfl rfl ?_
    obtain ⟨v11, S12, e13, h⟩ := pq_bs h
    refine pv_calliV C (ci := 10) rfl (by decide) k0_ [] (fun sz => r_X10_pamphlets W0 k0_ e13 sz) (cwV 0 C.1.2.2.2.2 gL_mendsAll_X10_pamphlets rfl rfl rfl (by decide +kernel) ⟨Nat.le_of_ble_eq_true rfl, Nat.le_of_ble_eq_true rfl⟩) rfl rfl (Nat.le_of_ble_eq_true rfl) dL_mendsAll_6 ⟨Nat.le_of_ble_eq_true rfl, Nat.le_of_ble_eq_true rfl⟩ ?_
    refine pv_icmp_ge (tgt := 38) C dL_mendsAll_9 (by decide) (fun c14 => ?_) (fun c14 => ?_)
    · have h := pq_it c14 h
      refine pv_aload_n C 0 dL_mendsAll_38 rfl rfl ?_
      obtain ⟨v15, S16, e17, h⟩ := pq_bs h
      refine pv_calliV C (ci := 10) rfl (by decide) k0_ [] (fun sz => r_X10_mendAll W0 k0_ e17 sz) (cwV 0 C.1.2.2.2.2 gL_mendsAll_X10_mendAll rfl rfl rfl (by decide +kernel) ⟨Nat.le_of_ble_eq_true rfl, Nat.le_of_ble_eq_true rfl⟩) rfl rfl (Nat.le_of_ble_eq_true rfl) dL_mendsAll_39 ⟨Nat.le_of_ble_eq_true rfl, Nat.le_of_ble_eq_true rfl⟩ ?_
      refine pv_istore_n C [(2, .int v15), (0, .ref a0), (1, .int x1)] dL_mendsAll_42 rfl (by decide) rfl ?_
      refine pv_iload_n C 0 dL_mendsAll_43 rfl rfl ?_
      refine pv_if_lt (tgt := 82) C dL_mendsAll_44 (by decide) (fun c18 => ?_) (fun c18 => ?_)
      · have h := pq_it c18 h
        refine pv_iconst (v := 0) C dL_mendsAll_82 (by decide) ?_
        exact pv_zret C hr rfl hlk h dL_mendsAll_83
      · have h := pq_if c18 h
        refine pv_iload_n C 2 dL_mendsAll_47 rfl rfl ?_
        refine pv_if_eq (tgt := 64) C dL_mendsAll_48 (by decide) (fun c19 => ?_) (fun c19 => ?_)
        · have h := pq_it c19 h
          refine pv_sub [1] rfl ?_
          exact r_L_mendsAll_b64 W0 C hr hlk _ _ k0_ h
        · have h := pq_if c19 h
          refine pv_aload_n C 1 dL_mendsAll_51 rfl rfl ?_
          obtain ⟨v20, S21, e22, h⟩ := pq_bs h
          refine pv_calliV C (ci := 10) rfl (by decide) k0_ [] (fun sz => r_X10_blameByAuthors W0 k0_ e22 sz) (cwV 0 C.1.2.2.2.2 gL_mendsAll_X10_blameByAuthors rfl rfl rfl (by decide +kernel) ⟨Nat.le_of_ble_eq_true rfl, Nat.le_of_ble_eq_true rfl⟩) rfl rfl (Nat.le_of_ble_eq_true rfl) dL_mendsAll_52 ⟨Nat.le_of_ble_eq_true rfl, Nat.le_of_ble_eq_true rfl⟩ ?_
          refine pv_if_eq (tgt := 64) C dL_mendsAll_55 (by decide) (fun c23 => ?_) (fun c23 => ?_)
          · have h := pq_it c23 h
            refine pv_sub [1] rfl ?_
            exact r_L_mendsAll_b64 W0 C hr hlk _ _ k0_ h
          · have h := pq_if c23 h
            refine pv_iload_n C 0 dL_mendsAll_58 rfl rfl ?_
            refine pv_bipush (v := 9) C dL_mendsAll_59 (by decide) ?_
            refine pv_icmp_le (tgt := 82) C dL_mendsAll_61 (by decide) (fun c24 => ?_) (fun c24 => ?_)
            · have h := pq_it c24 h
              refine pv_iconst (v := 0) C dL_mendsAll_82 (by decide) ?_
              exact pv_zret C hr rfl hlk h dL_mendsAll_83
            · have h := pq_if c24 h
              refine pv_sub [1] rfl ?_
              exact r_L_mendsAll_b64 W0 C hr hlk _ _ k0_ h
    · have h := pq_if c14 h
      refine pv_iload_n C 1 dL_mendsAll_12 rfl rfl ?_
      refine pv_if_eq (tgt := 30) C dL_mendsAll_13 (by decide) (fun c25 => ?_) (fun c25 => ?_)
      · have h := pq_it c25 h
        refine pv_iconst (v := 0) C dL_mendsAll_30 (by decide) ?_
        refine pv_istore_n C [(1, .int (0 : Int32)), (0, .ref a0), (2, .int x2)] dL_mendsAll_31 rfl (by decide) rfl ?_
        refine pv_iinc (v := (x2 + (1 : Int32))) C 2 [(2, .int (x2 + (1 : Int32))), (1, .int (0 : Int32)), (0, .ref a0)] dL_mendsAll_32 rfl rfl (by decide) rfl ?_
        refine pv_goto (tgt := 4) C dL_mendsAll_35 (by decide) ?_
        refine pv_sub [2, 1, 0] rfl ?_
        exact ih _ _ _ _ k0_ h
      · have h := pq_if c25 h
        refine pv_aload_n C 0 dL_mendsAll_16 rfl rfl ?_
        refine pv_iload_n C 2 dL_mendsAll_17 rfl rfl ?_
        obtain ⟨v26, S27, e28, h⟩ := pq_bs h
        refine pv_calliV C (ci := 10) rfl (by decide) k0_ [.int x2] (fun sz => e_X10_wordsOf W0 k0_ e28 sz) (cwV 1 C.1.2.2.2.2 gL_mendsAll_X10_wordsOf rfl rfl rfl (by decide +kernel) ⟨Nat.le_of_ble_eq_true rfl, Nat.le_of_ble_eq_true rfl⟩) rfl rfl (Nat.le_of_ble_eq_true rfl) dL_mendsAll_18 ⟨Nat.le_of_ble_eq_true rfl, Nat.le_of_ble_eq_true rfl⟩ ?_
        refine pv_bipush (v := 30) C dL_mendsAll_21 (by decide) ?_
        refine pv_icmp_ge (tgt := 30) C dL_mendsAll_23 (by decide) (fun c29 => ?_) (fun c29 => ?_)
        · have h := pq_it c29 h
          refine pv_iconst (v := 0) C dL_mendsAll_30 (by decide) ?_
          refine pv_istore_n C [(1, .int (0 : Int32)), (0, .ref a0), (2, .int x2)] dL_mendsAll_31 rfl (by decide) rfl ?_
          refine pv_iinc (v := (x2 + (1 : Int32))) C 2 [(2, .int (x2 + (1 : Int32))), (1, .int (0 : Int32)), (0, .ref a0)] dL_mendsAll_32 rfl rfl (by decide) rfl ?_
          refine pv_goto (tgt := 4) C dL_mendsAll_35 (by decide) ?_
          refine pv_sub [2, 1, 0] rfl ?_
          exact ih _ _ _ _ k0_ h
        · have h := pq_if c29 h
          refine pv_iconst (v := 1) C dL_mendsAll_26 (by decide) ?_
          refine pv_goto (tgt := 31) C dL_mendsAll_27 (by decide) ?_
          refine pv_istore_n C [(1, .int (1 : Int32)), (0, .ref a0), (2, .int x2)] dL_mendsAll_31 rfl (by decide) rfl ?_
          refine pv_iinc (v := (x2 + (1 : Int32))) C 2 [(2, .int (x2 + (1 : Int32))), (1, .int (1 : Int32)), (0, .ref a0)] dL_mendsAll_32 rfl rfl (by decide) rfl ?_
          refine pv_goto (tgt := 4) C dL_mendsAll_35 (by decide) ?_
          refine pv_sub [2, 1, 0] rfl ?_
          exact ih _ _ _ _ k0_ h
set_option maxHeartbeats 4000000 in
set_option maxRecDepth 100000 in
theorem r_L_mendsAll {l : Launch} {D : va_G} {y : pq_Y} {G : pq_G} (W0 : pq_WT G) {S : pq_N} {a0 : Nat} (k0_ : pq_ok G 10 a0) {r : Int32} {S1 : pq_N} (h : F_L_mendsAll G S a0 = some (r, S1)) (sz : Nat) : Met l yL_mendsAll wsL_mendsAll ({ frames := 7, cells := 0, slots := 0, locals := 177 } : Room) (pq_P D y G S sz [.ref a0]) (pq_Qi D y G sz r S1) 0 0 (pq_A G sz) := by
  refine pq_enter RL 3 (by decide) rfl rfl rfl ?_
  intro p e s m below meth c C hsz hr hlk
  subst hsz
  unfold F_L_mendsAll at h
  refine pv_sub (lo1 := [(0, .ref a0)]) [0] rfl ?_
  refine pv_iconst (v := 1) C dL_mendsAll_0 (by decide) ?_
  refine pv_istore_n C [(1, .int (1 : Int32)), (0, .ref a0)] dL_mendsAll_1 rfl (by decide) rfl ?_
  refine pv_iconst (v := 0) C dL_mendsAll_2 (by decide) ?_
  refine pv_istore_n C [(2, .int (0 : Int32)), (1, .int (1 : Int32)), (0, .ref a0)] dL_mendsAll_3 rfl (by decide) rfl ?_
  refine pv_sub [2, 1, 0] rfl ?_
  exact r_L_mendsAll_b4 W0 C hr hlk pq_fuel _ _ _ _ k0_ h
def F_L_returns_b138 (G : pq_G)  (S : pq_N) (a0 : Nat) (x1 : Int64) (t0 : Int32) : Option (Int32 × pq_N) := (if t0 = (0 : Int32) then some ((0 : Int32), S) else (pq_bd (F_L_tale G S a0) fun v67 S68 => (if (lg_cmp v67 x1) = (0 : Int32) then some ((1 : Int32), S68) else some ((0 : Int32), S68))))
def F_L_returns_b77 (G : pq_G)  (S : pq_N) (a0 : Nat) (x1 : Int64) (x3 : Int32) (x5 : Int32) (t0 : Int32) : Option (Int32 × pq_N) := (if t0 = (0 : Int32) then F_L_returns_b138 G S a0 x1 (0 : Int32) else (pq_bd (E_X10_restoreSnapshot G S a0) fun v42 S43 => (if v42 = x3 then (pq_bd (F_L_tale G S43 a0) fun v46 S47 => (if (lg_cmp v46 x1) = (0 : Int32) then (pq_bd (E_X10_undo G S47 a0) fun v50 S51 => (if v50 < (0 : Int32) then F_L_returns_b138 G S51 a0 x1 (0 : Int32) else (pq_bd (F_X10_day G S51 a0) fun v54 S55 => (if v54 = (x5 + (3 : Int32)) then (pq_bd (E_X10_undo G S55 a0) fun v58 S59 => (if v58 < (0 : Int32) then F_L_returns_b138 G S59 a0 x1 (0 : Int32) else (pq_bd (E_X10_undo G S59 a0) fun v62 S63 => (if v62 < (0 : Int32) then F_L_returns_b138 G S63 a0 x1 (0 : Int32) else F_L_returns_b138 G S63 a0 x1 (1 : Int32))))) else F_L_returns_b138 G S55 a0 x1 (0 : Int32))))) else F_L_returns_b138 G S47 a0 x1 (0 : Int32))) else F_L_returns_b138 G S43 a0 x1 (0 : Int32))))
def F_L_returns (G : pq_G) (S : pq_N) (a0 : Nat) : Option (Int32 × pq_N) := (pq_bd (F_L_tale G S a0) fun v11 S12 => (pq_bd (F_X10_takeSnapshot G S12 a0) fun v14 S15 => (pq_bd (F_X10_savedStates G S15 a0) fun v17 S18 => (pq_bd (F_X10_day G S18 a0) fun v20 S21 => (pq_bd (F_X10_pamphlets G S21 a0) fun v23 S24 => (if v14 = v23 then (pq_bd (E_X10_pass G S24 a0 (3 : Int32)) fun v27 S28 => (if v27 = (v20 + (3 : Int32)) then (pq_bd (F_X10_mendAll G S28 a0) fun v31 S32 => (if v31 < (0 : Int32) then F_L_returns_b77 G S32 a0 v11 v14 v20 (0 : Int32) else (pq_bd (F_X10_savedStates G S32 a0) fun v35 S36 => (if (v17 + (2 : Int32)) ≤ (5 : Int32) then (if v35 = (v17 + (2 : Int32)) then F_L_returns_b77 G S36 a0 v11 v14 v20 (1 : Int32) else F_L_returns_b77 G S36 a0 v11 v14 v20 (0 : Int32)) else (if v35 = (5 : Int32) then F_L_returns_b77 G S36 a0 v11 v14 v20 (1 : Int32) else F_L_returns_b77 G S36 a0 v11 v14 v20 (0 : Int32)))))) else F_L_returns_b77 G S28 a0 v11 v14 v20 (0 : Int32))) else F_L_returns_b77 G S24 a0 v11 v14 v20 (0 : Int32)))))))
set_option maxHeartbeats 4000000 in
set_option maxRecDepth 100000 in
theorem r_L_returns_b138 {p : Program} {l : Launch} {e : Env} {s : State} {m : MethodId} {av : Array Value} {below : List Frame} {meth : Method} {c : Code} {D : va_G} {y : pq_Y} {G : pq_G} {r : Int32} {S1 : pq_N} (W0 : pq_WT G) (C : pq_C p s m av c D y RL wsL_returns cL_returns 7) (hr : meth.sig.returnType = (some .boolean)) (hlk : meth.locks = false) : ∀ (S : pq_N) (a0 : Nat) (x1 : Int64) (t0 : Int32), pq_ok G 10 a0 → F_L_returns_b138 G S a0 x1 t0 = some (r, S1) → pq_V p l e (headSpec wsL_returns ({ frames := 6, cells := 0, slots := 0, locals := 150 } : Room)).room s m av below meth c 0 0 (MQ below (pq_Qi D y G s.heap.size r S1) av s 0 0 (pq_A G s.heap.size)) D y 7 (pq_A G s.heap.size) (fun _ => True) G S 138 [(0, .ref a0), (1, .long x1)] [.int t0] := by
  intro S a0 x1 t0 k0_ h
  unfold F_L_returns_b138 at h
  refine pv_istore C [(6, .int t0), (0, .ref a0), (1, .long x1)] dL_returns_138 (by decide) rfl ?_
  refine pv_iload C 0 dL_returns_140 rfl ?_
  refine pv_if_eq (tgt := 158) C dL_returns_142 (by decide) (fun c66 => ?_) (fun c66 => ?_)
  · have h := pq_it c66 h
    refine pv_iconst (v := 0) C dL_returns_158 (by decide) ?_
    exact pv_zret C hr rfl hlk h dL_returns_159
  · have h := pq_if c66 h
    refine pv_aload_n C 1 dL_returns_145 rfl rfl ?_
    obtain ⟨v67, S68, e69, h⟩ := pq_bs h
    refine pv_calllS C [.ref a0] (fun sz => r_L_tale W0 k0_ e69 sz) (va_cwS 1 C.1.2.2.2.2 gL_returns_L_tale rfl rfl rfl (by decide +kernel) ⟨Nat.le_of_ble_eq_true rfl, Nat.le_of_ble_eq_true rfl⟩) rfl rfl (Nat.le_of_ble_eq_true rfl) dL_returns_146 ⟨Nat.le_of_ble_eq_true rfl, Nat.le_of_ble_eq_true rfl⟩ ?_
    refine pv_lload_n C 2 dL_returns_149 rfl rfl ?_
    refine pv_lcmp C dL_returns_150 ?_
    refine pv_if_ne (tgt := 158) C dL_returns_151 (by decide) (fun c70 => ?_) (fun c70 => ?_)
    · have h := pq_if c70 h
      refine pv_iconst (v := 0) C dL_returns_158 (by decide) ?_
      exact pv_zret C hr rfl hlk h dL_returns_159
    · have h := pq_it c70 h
      refine pv_iconst (v := 1) C dL_returns_154 (by decide) ?_
      refine pv_goto (tgt := 159) C dL_returns_155 (by decide) ?_
      exact pv_zret C hr rfl hlk h dL_returns_159
set_option maxHeartbeats 4000000 in
set_option maxRecDepth 100000 in
theorem r_L_returns_b77 {p : Program} {l : Launch} {e : Env} {s : State} {m : MethodId} {av : Array Value} {below : List Frame} {meth : Method} {c : Code} {D : va_G} {y : pq_Y} {G : pq_G} {r : Int32} {S1 : pq_N} (W0 : pq_WT G) (C : pq_C p s m av c D y RL wsL_returns cL_returns 7) (hr : meth.sig.returnType = (some .boolean)) (hlk : meth.locks = false) : ∀ (S : pq_N) (a0 : Nat) (x1 : Int64) (x3 : Int32) (x5 : Int32) (t0 : Int32), pq_ok G 10 a0 → F_L_returns_b77 G S a0 x1 x3 x5 t0 = some (r, S1) → pq_V p l e (headSpec wsL_returns ({ frames := 6, cells := 0, slots := 0, locals := 150 } : Room)).room s m av below meth c 0 0 (MQ below (pq_Qi D y G s.heap.size r S1) av s 0 0 (pq_A G s.heap.size)) D y 7 (pq_A G s.heap.size) (fun _ => True) G S 77 [(0, .ref a0), (1, .long x1), (3, .int x3), (5, .int x5)] [.int t0] := by
  intro S a0 x1 x3 x5 t0 k0_ h
  unfold F_L_returns_b77 at h
  refine pv_istore C [(6, .int t0), (0, .ref a0), (1, .long x1), (3, .int x3), (5, .int x5)] dL_returns_77 (by decide) rfl ?_
  refine pv_iload C 0 dL_returns_79 rfl ?_
  refine pv_if_eq (tgt := 137) C dL_returns_81 (by decide) (fun c41 => ?_) (fun c41 => ?_)
  · have h := pq_it c41 h
    refine pv_iconst (v := 0) C dL_returns_137 (by decide) ?_
    refine pv_sub [1, 2] rfl ?_
    exact r_L_returns_b138 W0 C hr hlk _ _ _ _ k0_ h
  · have h := pq_if c41 h
    refine pv_aload_n C 1 dL_returns_84 rfl rfl ?_
    obtain ⟨v42, S43, e44, h⟩ := pq_bs h
    refine pv_calliV C (ci := 10) rfl (by decide) k0_ [] (fun sz => e_X10_restoreSnapshot W0 k0_ e44 sz) (cwV 0 C.1.2.2.2.2 gL_returns_X10_restoreSnapshot rfl rfl rfl (by decide +kernel) ⟨Nat.le_of_ble_eq_true rfl, Nat.le_of_ble_eq_true rfl⟩) rfl rfl (Nat.le_of_ble_eq_true rfl) dL_returns_85 ⟨Nat.le_of_ble_eq_true rfl, Nat.le_of_ble_eq_true rfl⟩ ?_
    refine pv_iload_n C 3 dL_returns_88 rfl rfl ?_
    refine pv_icmp_ne (tgt := 137) C dL_returns_89 (by decide) (fun c45 => ?_) (fun c45 => ?_)
    · have h := pq_if c45 h
      refine pv_iconst (v := 0) C dL_returns_137 (by decide) ?_
      refine pv_sub [1, 2] rfl ?_
      exact r_L_returns_b138 W0 C hr hlk _ _ _ _ k0_ h
    · have h := pq_it c45 h
      refine pv_aload_n C 1 dL_returns_92 rfl rfl ?_
      obtain ⟨v46, S47, e48, h⟩ := pq_bs h
      refine pv_calllS C [.ref a0] (fun sz => r_L_tale W0 k0_ e48 sz) (va_cwS 1 C.1.2.2.2.2 gL_returns_L_tale rfl rfl rfl (by decide +kernel) ⟨Nat.le_of_ble_eq_true rfl, Nat.le_of_ble_eq_true rfl⟩) rfl rfl (Nat.le_of_ble_eq_true rfl) dL_returns_93 ⟨Nat.le_of_ble_eq_true rfl, Nat.le_of_ble_eq_true rfl⟩ ?_
      refine pv_lload_n C 2 dL_returns_96 rfl rfl ?_
      refine pv_lcmp C dL_returns_97 ?_
      refine pv_if_ne (tgt := 137) C dL_returns_98 (by decide) (fun c49 => ?_) (fun c49 => ?_)
      · have h := pq_if c49 h
        refine pv_iconst (v := 0) C dL_returns_137 (by decide) ?_
        refine pv_sub [1, 2] rfl ?_
        exact r_L_returns_b138 W0 C hr hlk _ _ _ _ k0_ h
      · have h := pq_it c49 h
        refine pv_aload_n C 1 dL_returns_101 rfl rfl ?_
        obtain ⟨v50, S51, e52, h⟩ := pq_bs h
        refine pv_calliV C (ci := 10) rfl (by decide) k0_ [] (fun sz => e_X10_undo W0 k0_ e52 sz) (cwV 0 C.1.2.2.2.2 gL_returns_X10_undo rfl rfl rfl (by decide +kernel) ⟨Nat.le_of_ble_eq_true rfl, Nat.le_of_ble_eq_true rfl⟩) rfl rfl (Nat.le_of_ble_eq_true rfl) dL_returns_102 ⟨Nat.le_of_ble_eq_true rfl, Nat.le_of_ble_eq_true rfl⟩ ?_
        refine pv_if_lt (tgt := 137) C dL_returns_105 (by decide) (fun c53 => ?_) (fun c53 => ?_)
        · have h := pq_it c53 h
          refine pv_iconst (v := 0) C dL_returns_137 (by decide) ?_
          refine pv_sub [1, 2] rfl ?_
          exact r_L_returns_b138 W0 C hr hlk _ _ _ _ k0_ h
        · have h := pq_if c53 h
          refine pv_aload_n C 1 dL_returns_108 rfl rfl ?_
          obtain ⟨v54, S55, e56, h⟩ := pq_bs h
          refine pv_calliV C (ci := 10) rfl (by decide) k0_ [] (fun sz => r_X10_day W0 k0_ e56 sz) (cwV 0 C.1.2.2.2.2 gL_returns_X10_day rfl rfl rfl (by decide +kernel) ⟨Nat.le_of_ble_eq_true rfl, Nat.le_of_ble_eq_true rfl⟩) rfl rfl (Nat.le_of_ble_eq_true rfl) dL_returns_109 ⟨Nat.le_of_ble_eq_true rfl, Nat.le_of_ble_eq_true rfl⟩ ?_
          refine pv_iload C 4 dL_returns_112 rfl ?_
          refine pv_iconst (v := 3) C dL_returns_114 (by decide) ?_
          refine pv_iadd C dL_returns_115 ?_
          refine pv_icmp_ne (tgt := 137) C dL_returns_116 (by decide) (fun c57 => ?_) (fun c57 => ?_)
          · have h := pq_if c57 h
            refine pv_iconst (v := 0) C dL_returns_137 (by decide) ?_
            refine pv_sub [1, 2] rfl ?_
            exact r_L_returns_b138 W0 C hr hlk _ _ _ _ k0_ h
          · have h := pq_it c57 h
            refine pv_aload_n C 1 dL_returns_119 rfl rfl ?_
            obtain ⟨v58, S59, e60, h⟩ := pq_bs h
            refine pv_calliV C (ci := 10) rfl (by decide) k0_ [] (fun sz => e_X10_undo W0 k0_ e60 sz) (cwV 0 C.1.2.2.2.2 gL_returns_X10_undo rfl rfl rfl (by decide +kernel) ⟨Nat.le_of_ble_eq_true rfl, Nat.le_of_ble_eq_true rfl⟩) rfl rfl (Nat.le_of_ble_eq_true rfl) dL_returns_120 ⟨Nat.le_of_ble_eq_true rfl, Nat.le_of_ble_eq_true rfl⟩ ?_
            refine pv_if_lt (tgt := 137) C dL_returns_123 (by decide) (fun c61 => ?_) (fun c61 => ?_)
            · have h := pq_it c61 h
              refine pv_iconst (v := 0) C dL_returns_137 (by decide) ?_
              refine pv_sub [1, 2] rfl ?_
              exact r_L_returns_b138 W0 C hr hlk _ _ _ _ k0_ h
            · have h := pq_if c61 h
              refine pv_aload_n C 1 dL_returns_126 rfl rfl ?_
              obtain ⟨v62, S63, e64, h⟩ := pq_bs h
              refine pv_calliV C (ci := 10) rfl (by decide) k0_ [] (fun sz => e_X10_undo W0 k0_ e64 sz) (cwV 0 C.1.2.2.2.2 gL_returns_X10_undo rfl rfl rfl (by decide +kernel) ⟨Nat.le_of_ble_eq_true rfl, Nat.le_of_ble_eq_true rfl⟩) rfl rfl (Nat.le_of_ble_eq_true rfl) dL_returns_127 ⟨Nat.le_of_ble_eq_true rfl, Nat.le_of_ble_eq_true rfl⟩ ?_
              refine pv_if_lt (tgt := 137) C dL_returns_130 (by decide) (fun c65 => ?_) (fun c65 => ?_)
              · have h := pq_it c65 h
                refine pv_iconst (v := 0) C dL_returns_137 (by decide) ?_
                refine pv_sub [1, 2] rfl ?_
                exact r_L_returns_b138 W0 C hr hlk _ _ _ _ k0_ h
              · have h := pq_if c65 h
                refine pv_iconst (v := 1) C dL_returns_133 (by decide) ?_
                refine pv_goto (tgt := 138) C dL_returns_134 (by decide) ?_
                refine pv_sub [1, 2] rfl ?_
                exact r_L_returns_b138 W0 C hr hlk _ _ _ _ k0_ h
set_option maxHeartbeats 4000000 in
set_option maxRecDepth 100000 in
theorem r_L_returns {l : Launch} {D : va_G} {y : pq_Y} {G : pq_G} (W0 : pq_WT G) {S : pq_N} {a0 : Nat} (k0_ : pq_ok G 10 a0) {r : Int32} {S1 : pq_N} (h : F_L_returns G S a0 = some (r, S1)) (sz : Nat) : Met l yL_returns wsL_returns ({ frames := 6, cells := 0, slots := 0, locals := 150 } : Room) (pq_P D y G S sz [.ref a0]) (pq_Qi D y G sz r S1) 0 0 (pq_A G sz) := by
  refine pq_enter RL 7 (by decide) rfl rfl rfl ?_
  intro p e s m below meth c C hsz hr hlk
  subst hsz
  unfold F_L_returns at h
  refine pv_sub (lo1 := [(0, .ref a0)]) [0] rfl ?_
  refine pv_aload_n C 0 dL_returns_0 rfl rfl ?_
  obtain ⟨v11, S12, e13, h⟩ := pq_bs h
  refine pv_calllS C [.ref a0] (fun sz => r_L_tale W0 k0_ e13 sz) (va_cwS 1 C.1.2.2.2.2 gL_returns_L_tale rfl rfl rfl (by decide +kernel) ⟨Nat.le_of_ble_eq_true rfl, Nat.le_of_ble_eq_true rfl⟩) rfl rfl (Nat.le_of_ble_eq_true rfl) dL_returns_1 ⟨Nat.le_of_ble_eq_true rfl, Nat.le_of_ble_eq_true rfl⟩ ?_
  refine pv_lstore_n C [(1, .long v11), (0, .ref a0)] dL_returns_4 rfl (by decide) rfl ?_
  refine pv_aload_n C 1 dL_returns_5 rfl rfl ?_
  obtain ⟨v14, S15, e16, h⟩ := pq_bs h
  refine pv_calliV C (ci := 10) rfl (by decide) k0_ [] (fun sz => r_X10_takeSnapshot W0 k0_ e16 sz) (cwV 0 C.1.2.2.2.2 gL_returns_X10_takeSnapshot rfl rfl rfl (by decide +kernel) ⟨Nat.le_of_ble_eq_true rfl, Nat.le_of_ble_eq_true rfl⟩) rfl rfl (Nat.le_of_ble_eq_true rfl) dL_returns_6 ⟨Nat.le_of_ble_eq_true rfl, Nat.le_of_ble_eq_true rfl⟩ ?_
  refine pv_istore_n C [(3, .int v14), (1, .long v11), (0, .ref a0)] dL_returns_9 rfl (by decide) rfl ?_
  refine pv_aload_n C 2 dL_returns_10 rfl rfl ?_
  obtain ⟨v17, S18, e19, h⟩ := pq_bs h
  refine pv_calliV C (ci := 10) rfl (by decide) k0_ [] (fun sz => r_X10_savedStates W0 k0_ e19 sz) (cwV 0 C.1.2.2.2.2 gL_returns_X10_savedStates rfl rfl rfl (by decide +kernel) ⟨Nat.le_of_ble_eq_true rfl, Nat.le_of_ble_eq_true rfl⟩) rfl rfl (Nat.le_of_ble_eq_true rfl) dL_returns_11 ⟨Nat.le_of_ble_eq_true rfl, Nat.le_of_ble_eq_true rfl⟩ ?_
  refine pv_istore C [(4, .int v17), (3, .int v14), (1, .long v11), (0, .ref a0)] dL_returns_14 (by decide) rfl ?_
  refine pv_aload_n C 3 dL_returns_16 rfl rfl ?_
  obtain ⟨v20, S21, e22, h⟩ := pq_bs h
  refine pv_calliV C (ci := 10) rfl (by decide) k0_ [] (fun sz => r_X10_day W0 k0_ e22 sz) (cwV 0 C.1.2.2.2.2 gL_returns_X10_day rfl rfl rfl (by decide +kernel) ⟨Nat.le_of_ble_eq_true rfl, Nat.le_of_ble_eq_true rfl⟩) rfl rfl (Nat.le_of_ble_eq_true rfl) dL_returns_17 ⟨Nat.le_of_ble_eq_true rfl, Nat.le_of_ble_eq_true rfl⟩ ?_
  refine pv_istore C [(5, .int v20), (4, .int v17), (3, .int v14), (1, .long v11), (0, .ref a0)] dL_returns_20 (by decide) rfl ?_
  refine pv_iload_n C 2 dL_returns_22 rfl rfl ?_
  refine pv_aload_n C 4 dL_returns_23 rfl rfl ?_
  obtain ⟨v23, S24, e25, h⟩ := pq_bs h
  refine pv_calliV C (ci := 10) rfl (by decide) k0_ [] (fun sz => r_X10_pamphlets W0 k0_ e25 sz) (cwV 0 C.1.2.2.2.2 gL_returns_X10_pamphlets rfl rfl rfl (by decide +kernel) ⟨Nat.le_of_ble_eq_true rfl, Nat.le_of_ble_eq_true rfl⟩) rfl rfl (Nat.le_of_ble_eq_true rfl) dL_returns_24 ⟨Nat.le_of_ble_eq_true rfl, Nat.le_of_ble_eq_true rfl⟩ ?_
  refine pv_icmp_ne (tgt := 76) C dL_returns_27 (by decide) (fun c26 => ?_) (fun c26 => ?_)
  · have h := pq_if c26 h
    refine pv_iconst (v := 0) C dL_returns_76 (by decide) ?_
    refine pv_sub [4, 3, 2, 0] rfl ?_
    exact r_L_returns_b77 W0 C hr hlk _ _ _ _ _ _ k0_ h
  · have h := pq_it c26 h
    refine pv_aload_n C 4 dL_returns_30 rfl rfl ?_
    refine pv_iconst (v := 3) C dL_returns_31 (by decide) ?_
    obtain ⟨v27, S28, e29, h⟩ := pq_bs h
    refine pv_calliV C (ci := 10) rfl (by decide) k0_ [.int (3 : Int32)] (fun sz => e_X10_pass W0 k0_ e29 sz) (cwV 1 C.1.2.2.2.2 gL_returns_X10_pass rfl rfl rfl (by decide +kernel) ⟨Nat.le_of_ble_eq_true rfl, Nat.le_of_ble_eq_true rfl⟩) rfl rfl (Nat.le_of_ble_eq_true rfl) dL_returns_32 ⟨Nat.le_of_ble_eq_true rfl, Nat.le_of_ble_eq_true rfl⟩ ?_
    refine pv_iload C 0 dL_returns_35 rfl ?_
    refine pv_iconst (v := 3) C dL_returns_37 (by decide) ?_
    refine pv_iadd C dL_returns_38 ?_
    refine pv_icmp_ne (tgt := 76) C dL_returns_39 (by decide) (fun c30 => ?_) (fun c30 => ?_)
    · have h := pq_if c30 h
      refine pv_iconst (v := 0) C dL_returns_76 (by decide) ?_
      refine pv_sub [4, 3, 2, 0] rfl ?_
      exact r_L_returns_b77 W0 C hr hlk _ _ _ _ _ _ k0_ h
    · have h := pq_it c30 h
      refine pv_aload_n C 4 dL_returns_42 rfl rfl ?_
      obtain ⟨v31, S32, e33, h⟩ := pq_bs h
      refine pv_calliV C (ci := 10) rfl (by decide) k0_ [] (fun sz => r_X10_mendAll W0 k0_ e33 sz) (cwV 0 C.1.2.2.2.2 gL_returns_X10_mendAll rfl rfl rfl (by decide +kernel) ⟨Nat.le_of_ble_eq_true rfl, Nat.le_of_ble_eq_true rfl⟩) rfl rfl (Nat.le_of_ble_eq_true rfl) dL_returns_43 ⟨Nat.le_of_ble_eq_true rfl, Nat.le_of_ble_eq_true rfl⟩ ?_
      refine pv_if_lt (tgt := 76) C dL_returns_46 (by decide) (fun c34 => ?_) (fun c34 => ?_)
      · have h := pq_it c34 h
        refine pv_iconst (v := 0) C dL_returns_76 (by decide) ?_
        refine pv_sub [4, 3, 2, 0] rfl ?_
        exact r_L_returns_b77 W0 C hr hlk _ _ _ _ _ _ k0_ h
      · have h := pq_if c34 h
        refine pv_aload_n C 4 dL_returns_49 rfl rfl ?_
        obtain ⟨v35, S36, e37, h⟩ := pq_bs h
        refine pv_calliV C (ci := 10) rfl (by decide) k0_ [] (fun sz => r_X10_savedStates W0 k0_ e37 sz) (cwV 0 C.1.2.2.2.2 gL_returns_X10_savedStates rfl rfl rfl (by decide +kernel) ⟨Nat.le_of_ble_eq_true rfl, Nat.le_of_ble_eq_true rfl⟩) rfl rfl (Nat.le_of_ble_eq_true rfl) dL_returns_50 ⟨Nat.le_of_ble_eq_true rfl, Nat.le_of_ble_eq_true rfl⟩ ?_
        refine pv_iload C 1 dL_returns_53 rfl ?_
        refine pv_iconst (v := 2) C dL_returns_55 (by decide) ?_
        refine pv_iadd C dL_returns_56 ?_
        refine pv_iconst (v := 5) C dL_returns_57 (by decide) ?_
        refine pv_icmp_le (tgt := 65) C dL_returns_58 (by decide) (fun c38 => ?_) (fun c38 => ?_)
        · have h := pq_it c38 h
          refine pv_iload C 1 dL_returns_65 rfl ?_
          refine pv_iconst (v := 2) C dL_returns_67 (by decide) ?_
          refine pv_iadd C dL_returns_68 ?_
          refine pv_icmp_ne (tgt := 76) C dL_returns_69 (by decide) (fun c39 => ?_) (fun c39 => ?_)
          · have h := pq_if c39 h
            refine pv_iconst (v := 0) C dL_returns_76 (by decide) ?_
            refine pv_sub [4, 3, 2, 0] rfl ?_
            exact r_L_returns_b77 W0 C hr hlk _ _ _ _ _ _ k0_ h
          · have h := pq_it c39 h
            refine pv_iconst (v := 1) C dL_returns_72 (by decide) ?_
            refine pv_goto (tgt := 77) C dL_returns_73 (by decide) ?_
            refine pv_sub [4, 3, 2, 0] rfl ?_
            exact r_L_returns_b77 W0 C hr hlk _ _ _ _ _ _ k0_ h
        · have h := pq_if c38 h
          refine pv_iconst (v := 5) C dL_returns_61 (by decide) ?_
          refine pv_goto (tgt := 69) C dL_returns_62 (by decide) ?_
          refine pv_icmp_ne (tgt := 76) C dL_returns_69 (by decide) (fun c40 => ?_) (fun c40 => ?_)
          · have h := pq_if c40 h
            refine pv_iconst (v := 0) C dL_returns_76 (by decide) ?_
            refine pv_sub [4, 3, 2, 0] rfl ?_
            exact r_L_returns_b77 W0 C hr hlk _ _ _ _ _ _ k0_ h
          · have h := pq_it c40 h
            refine pv_iconst (v := 1) C dL_returns_72 (by decide) ?_
            refine pv_goto (tgt := 77) C dL_returns_73 (by decide) ?_
            refine pv_sub [4, 3, 2, 0] rfl ?_
            exact r_L_returns_b77 W0 C hr hlk _ _ _ _ _ _ k0_ h
def F_L_act_b54 (G : pq_G)  (S : pq_N) (a0 : Nat) (x5 : Int32) (t0 : Int32) (t1 : Int32) (t2 : Int32) : Option (Int32 × pq_N) := (pq_bd (F_L_low G S t1 t0) fun v80 S81 => (pq_bd (E_X10_pass G S81 a0 (t2 + v80)) fun v83 S84 => (if v83 = (x5 + (t2 + v80)) then (pq_bd (F_X10_day G S84 a0) fun v87 S88 => (if v87 = (x5 + (t2 + v80)) then some ((1 : Int32), S88) else some ((0 : Int32), S88))) else some ((0 : Int32), S84))))
def F_L_act_b210 (G : pq_G)  (S : pq_N) (a0 : Nat) (x5 : Int32) (t0 : Int32) : Option (Int32 × pq_N) := (pq_bd (F_L_tryWithdraw G S a0) fun v70 S71 => (if t0 = (0 : Int32) then (if v70 = (-7002 : Int32) then some ((1 : Int32), S71) else some ((0 : Int32), S71)) else (if v70 = (x5 - (1 : Int32)) then (pq_bd (F_X10_pamphlets G S71 a0) fun v76 S77 => (if v76 = v70 then some ((1 : Int32), S77) else some ((0 : Int32), S77))) else some ((0 : Int32), S71))))
def F_L_act (G : pq_G) (S : pq_N) (a0 : Nat) (x1 : Int32) (x2 : Int32) (x3 : Int32) : Option (Int32 × pq_N) := (pq_bd (F_L_low G S x1 (16 : Int32)) fun v11 S12 => (if (7 : Int32) ≤ v11 then (if (10 : Int32) ≤ v11 then (if (13 : Int32) ≤ v11 then (if v11 = (13 : Int32) then (pq_bd (F_L_low G S12 x2 (4 : Int32)) fun v34 S35 => (if (0 : Int32) < v34 then some ((1 : Int32), S35) else (pq_bd (F_L_mendsAll G S35 a0) fun v38 S39 => (if v38 = (0 : Int32) then some ((0 : Int32), S39) else some ((1 : Int32), S39))))) else (if v11 = (14 : Int32) then (pq_bd (F_L_returns G S12 a0) fun v30 S31 => (if ¬ (v30 = 0 ∨ v30 = 1) then none else some (v30, S31))) else (pq_bd (F_X10_pamphlets G S12 a0) fun v19 S20 => (if v19 ≤ (0 : Int32) then F_L_act_b210 G S20 a0 v19 (0 : Int32) else (pq_bd (E_X10_dayOf G S20 a0 (v19 - (1 : Int32))) fun v23 S24 => (pq_bd (F_X10_day G S24 a0) fun v26 S27 => (if v23 = v26 then F_L_act_b210 G S27 a0 v19 (1 : Int32) else F_L_act_b210 G S27 a0 v19 (0 : Int32)))))))) else (pq_bd (F_X10_pamphlets G S12 a0) fun v42 S43 => (if v42 = (0 : Int32) then some ((1 : Int32), S43) else (pq_bd (F_X10_pamphlets G S43 a0) fun v46 S47 => (pq_bd (F_X10_pamphlets G S47 a0) fun v49 S50 => (pq_bd (F_L_low G S50 x2 v49) fun v52 S53 => (pq_bd (F_L_mends G S53 a0 ((v46 - (1 : Int32)) - (v52 / (2 : Int32))) (x2 >>> ((4 : Int32) &&& 31))) fun v55 S56 => (if v55 = (0 : Int32) then some ((0 : Int32), S56) else some ((1 : Int32), S56))))))))) else (pq_bd (F_X10_day G S12 a0) fun v59 S60 => (pq_bd (F_L_low G S60 (x2 >>> ((7 : Int32) &&& 31)) (5 : Int32)) fun v62 S63 => (if v62 = (0 : Int32) then F_L_act_b54 G S63 a0 v59 (100 : Int32) x2 (1 : Int32) else F_L_act_b54 G S63 a0 v59 (3 : Int32) x2 (1 : Int32))))) else (pq_bd (F_L_prints G S12 a0 x2 x3) fun v66 S67 => (if ¬ (v66 = 0 ∨ v66 = 1) then none else some (v66, S67)))))
set_option maxHeartbeats 4000000 in
set_option maxRecDepth 100000 in
theorem r_L_act_b54 {p : Program} {l : Launch} {e : Env} {s : State} {m : MethodId} {av : Array Value} {below : List Frame} {meth : Method} {c : Code} {D : va_G} {y : pq_Y} {G : pq_G} {r : Int32} {S1 : pq_N} (hl : l.stackTraces = false) (hX : pq_X (pq_A G s.heap.size) s s.heap) (W0 : pq_WT G) (C : pq_C p s m av c D y RL wsL_act cL_act 8) (hr : meth.sig.returnType = (some .boolean)) (hlk : meth.locks = false) : ∀ (S : pq_N) (a0 : Nat) (x5 : Int32) (t0 : Int32) (t1 : Int32) (t2 : Int32), pq_ok G 10 a0 → F_L_act_b54 G S a0 x5 t0 t1 t2 = some (r, S1) → pq_V p l e (headSpec wsL_act ({ frames := 11, cells := 3, slots := 18, locals := 208 } : Room)).room s m av below meth c 0 0 (MQ below (pq_Qi D y G s.heap.size r S1) av s 3 18 (pq_A G s.heap.size)) D y 8 (pq_A G s.heap.size) (fun _ => True) G S 54 [(0, .ref a0), (5, .int x5)] [.int t0, .int t1, .int t2] := by
  intro S a0 x5 t0 t1 t2 k0_ h
  unfold F_L_act_b54 at h
  obtain ⟨v80, S81, e82, h⟩ := pq_bs h
  refine pv_calliS C [.int t1, .int t0] (fun sz => r_L_low W0  e82 sz) (va_cwS 2 C.1.2.2.2.2 gL_act_L_low rfl rfl rfl (by decide +kernel) ⟨Nat.le_of_ble_eq_true rfl, Nat.le_of_ble_eq_true rfl⟩) rfl rfl (Nat.le_of_ble_eq_true rfl) dL_act_54 ⟨Nat.le_of_ble_eq_true rfl, Nat.le_of_ble_eq_true rfl⟩ ?_
  refine pv_iadd C dL_act_57 ?_
  refine pv_istore C [(6, .int (t2 + v80)), (0, .ref a0), (5, .int x5)] dL_act_58 (by decide) rfl ?_
  refine pv_aload_n C 1 dL_act_60 rfl rfl ?_
  refine pv_iload C 0 dL_act_61 rfl ?_
  obtain ⟨v83, S84, e85, h⟩ := pq_bs h
  refine pv_calliV C (ci := 10) rfl (by decide) k0_ [.int (t2 + v80)] (fun sz => e_X10_pass W0 k0_ e85 sz) (cwV 1 C.1.2.2.2.2 gL_act_X10_pass rfl rfl rfl (by decide +kernel) ⟨Nat.le_of_ble_eq_true rfl, Nat.le_of_ble_eq_true rfl⟩) rfl rfl (Nat.le_of_ble_eq_true rfl) dL_act_63 ⟨Nat.le_of_ble_eq_true rfl, Nat.le_of_ble_eq_true rfl⟩ ?_
  refine pv_iload C 2 dL_act_66 rfl ?_
  refine pv_iload C 0 dL_act_68 rfl ?_
  refine pv_iadd C dL_act_70 ?_
  refine pv_icmp_ne (tgt := 90) C dL_act_71 (by decide) (fun c86 => ?_) (fun c86 => ?_)
  · have h := pq_if c86 h
    refine pv_iconst (v := 0) C dL_act_90 (by decide) ?_
    refine pv_wide (k := 3) (n := 18) (Nat.le_of_ble_eq_true rfl) (Nat.le_of_ble_eq_true rfl) ?_
    exact pv_zret C hr rfl hlk h dL_act_91
  · have h := pq_it c86 h
    refine pv_aload_n C 1 dL_act_74 rfl rfl ?_
    obtain ⟨v87, S88, e89, h⟩ := pq_bs h
    refine pv_calliV C (ci := 10) rfl (by decide) k0_ [] (fun sz => r_X10_day W0 k0_ e89 sz) (cwV 0 C.1.2.2.2.2 gL_act_X10_day rfl rfl rfl (by decide +kernel) ⟨Nat.le_of_ble_eq_true rfl, Nat.le_of_ble_eq_true rfl⟩) rfl rfl (Nat.le_of_ble_eq_true rfl) dL_act_75 ⟨Nat.le_of_ble_eq_true rfl, Nat.le_of_ble_eq_true rfl⟩ ?_
    refine pv_iload C 2 dL_act_78 rfl ?_
    refine pv_iload C 0 dL_act_80 rfl ?_
    refine pv_iadd C dL_act_82 ?_
    refine pv_icmp_ne (tgt := 90) C dL_act_83 (by decide) (fun c90 => ?_) (fun c90 => ?_)
    · have h := pq_if c90 h
      refine pv_iconst (v := 0) C dL_act_90 (by decide) ?_
      refine pv_wide (k := 3) (n := 18) (Nat.le_of_ble_eq_true rfl) (Nat.le_of_ble_eq_true rfl) ?_
      exact pv_zret C hr rfl hlk h dL_act_91
    · have h := pq_it c90 h
      refine pv_iconst (v := 1) C dL_act_86 (by decide) ?_
      refine pv_goto (tgt := 91) C dL_act_87 (by decide) ?_
      refine pv_wide (k := 3) (n := 18) (Nat.le_of_ble_eq_true rfl) (Nat.le_of_ble_eq_true rfl) ?_
      exact pv_zret C hr rfl hlk h dL_act_91
set_option maxHeartbeats 4000000 in
set_option maxRecDepth 100000 in
theorem r_L_act_b210 {p : Program} {l : Launch} {e : Env} {s : State} {m : MethodId} {av : Array Value} {below : List Frame} {meth : Method} {c : Code} {D : va_G} {y : pq_Y} {G : pq_G} {r : Int32} {S1 : pq_N} (hl : l.stackTraces = false) (hX : pq_X (pq_A G s.heap.size) s s.heap) (W0 : pq_WT G) (C : pq_C p s m av c D y RL wsL_act cL_act 8) (hr : meth.sig.returnType = (some .boolean)) (hlk : meth.locks = false) : ∀ (S : pq_N) (a0 : Nat) (x5 : Int32) (t0 : Int32), pq_ok G 10 a0 → F_L_act_b210 G S a0 x5 t0 = some (r, S1) → pq_V p l e (headSpec wsL_act ({ frames := 11, cells := 3, slots := 18, locals := 208 } : Room)).room s m av below meth c 0 0 (MQ below (pq_Qi D y G s.heap.size r S1) av s 3 18 (pq_A G s.heap.size)) D y 8 (pq_A G s.heap.size) (fun _ => True) G S 210 [(0, .ref a0), (5, .int x5)] [.int t0] := by
  intro S a0 x5 t0 k0_ h
  unfold F_L_act_b210 at h
  refine pv_istore C [(6, .int t0), (0, .ref a0), (5, .int x5)] dL_act_210 (by decide) rfl ?_
  refine pv_aload_n C 1 dL_act_212 rfl rfl ?_
  obtain ⟨v70, S71, e72, h⟩ := pq_bs h
  refine pv_hcalli C (kc := 1) (ks := 6) hX [.ref a0] (fun sz => r_L_tryWithdraw hl W0 k0_ e72 sz) (vx_cwSW 1 C.1.2.2.2.2 gL_act_L_tryWithdraw rfl rfl rfl (by decide +kernel) ⟨Nat.le_of_ble_eq_true rfl, Nat.le_of_ble_eq_true rfl⟩) rfl rfl (Nat.le_of_ble_eq_true rfl) dL_act_213 ⟨Nat.le_of_ble_eq_true rfl, Nat.le_of_ble_eq_true rfl⟩ ?_
  refine pv_istore C [(7, .int v70), (6, .int t0), (0, .ref a0), (5, .int x5)] dL_act_216 (by decide) rfl ?_
  refine pv_iload C 1 dL_act_218 rfl ?_
  refine pv_if_eq (tgt := 249) C dL_act_220 (by decide) (fun c73 => ?_) (fun c73 => ?_)
  · have h := pq_it c73 h
    refine pv_iload C 0 dL_act_249 rfl ?_
    refine pv_sipush (v := -7002) C dL_act_251 (by decide) ?_
    refine pv_icmp_ne (tgt := 261) C dL_act_254 (by decide) (fun c74 => ?_) (fun c74 => ?_)
    · have h := pq_if c74 h
      refine pv_iconst (v := 0) C dL_act_261 (by decide) ?_
      refine pv_wide (k := 3) (n := 18) (Nat.le_of_ble_eq_true rfl) (Nat.le_of_ble_eq_true rfl) ?_
      exact pv_zret C hr rfl hlk h dL_act_262
    · have h := pq_it c74 h
      refine pv_iconst (v := 1) C dL_act_257 (by decide) ?_
      refine pv_goto (tgt := 262) C dL_act_258 (by decide) ?_
      refine pv_wide (k := 3) (n := 18) (Nat.le_of_ble_eq_true rfl) (Nat.le_of_ble_eq_true rfl) ?_
      exact pv_zret C hr rfl hlk h dL_act_262
  · have h := pq_if c73 h
    refine pv_iload C 0 dL_act_223 rfl ?_
    refine pv_iload C 3 dL_act_225 rfl ?_
    refine pv_iconst (v := 1) C dL_act_227 (by decide) ?_
    refine pv_isub C dL_act_228 ?_
    refine pv_icmp_ne (tgt := 245) C dL_act_229 (by decide) (fun c75 => ?_) (fun c75 => ?_)
    · have h := pq_if c75 h
      refine pv_iconst (v := 0) C dL_act_245 (by decide) ?_
      refine pv_goto (tgt := 262) C dL_act_246 (by decide) ?_
      refine pv_wide (k := 3) (n := 18) (Nat.le_of_ble_eq_true rfl) (Nat.le_of_ble_eq_true rfl) ?_
      exact pv_zret C hr rfl hlk h dL_act_262
    · have h := pq_it c75 h
      refine pv_aload_n C 2 dL_act_232 rfl rfl ?_
      obtain ⟨v76, S77, e78, h⟩ := pq_bs h
      refine pv_calliV C (ci := 10) rfl (by decide) k0_ [] (fun sz => r_X10_pamphlets W0 k0_ e78 sz) (cwV 0 C.1.2.2.2.2 gL_act_X10_pamphlets rfl rfl rfl (by decide +kernel) ⟨Nat.le_of_ble_eq_true rfl, Nat.le_of_ble_eq_true rfl⟩) rfl rfl (Nat.le_of_ble_eq_true rfl) dL_act_233 ⟨Nat.le_of_ble_eq_true rfl, Nat.le_of_ble_eq_true rfl⟩ ?_
      refine pv_iload C 0 dL_act_236 rfl ?_
      refine pv_icmp_ne (tgt := 245) C dL_act_238 (by decide) (fun c79 => ?_) (fun c79 => ?_)
      · have h := pq_if c79 h
        refine pv_iconst (v := 0) C dL_act_245 (by decide) ?_
        refine pv_goto (tgt := 262) C dL_act_246 (by decide) ?_
        refine pv_wide (k := 3) (n := 18) (Nat.le_of_ble_eq_true rfl) (Nat.le_of_ble_eq_true rfl) ?_
        exact pv_zret C hr rfl hlk h dL_act_262
      · have h := pq_it c79 h
        refine pv_iconst (v := 1) C dL_act_241 (by decide) ?_
        refine pv_goto (tgt := 262) C dL_act_242 (by decide) ?_
        refine pv_wide (k := 3) (n := 18) (Nat.le_of_ble_eq_true rfl) (Nat.le_of_ble_eq_true rfl) ?_
        exact pv_zret C hr rfl hlk h dL_act_262
set_option maxHeartbeats 4000000 in
set_option maxRecDepth 100000 in
theorem r_L_act {l : Launch} (hl : l.stackTraces = false) {D : va_G} {y : pq_Y} {G : pq_G} (W0 : pq_WT G) {S : pq_N} {a0 : Nat} {x1 : Int32} {x2 : Int32} {x3 : Int32} (k0_ : pq_ok G 10 a0) {r : Int32} {S1 : pq_N} (h : F_L_act G S a0 x1 x2 x3 = some (r, S1)) (sz : Nat) : Met l yL_act wsL_act ({ frames := 11, cells := 3, slots := 18, locals := 208 } : Room) (pq_PX D y G S sz [.ref a0, .int x1, .int x2, .int x3]) (pq_Qi D y G sz r S1) 3 18 (pq_A G sz) := by
  refine pq_enterP RL 8 (by decide) rfl rfl rfl ?_
  intro p e s m below meth c C hsz hr hlk hX
  subst hsz
  unfold F_L_act at h
  refine pv_sub (lo1 := [(0, .ref a0), (1, .int x1), (2, .int x2), (3, .int x3)]) [0, 1, 2, 3] rfl ?_
  refine pv_iload_n C 1 dL_act_0 rfl rfl ?_
  refine pv_bipush (v := 16) C dL_act_1 (by decide) ?_
  obtain ⟨v11, S12, e13, h⟩ := pq_bs h
  refine pv_calliS C [.int x1, .int (16 : Int32)] (fun sz => r_L_low W0  e13 sz) (va_cwS 2 C.1.2.2.2.2 gL_act_L_low rfl rfl rfl (by decide +kernel) ⟨Nat.le_of_ble_eq_true rfl, Nat.le_of_ble_eq_true rfl⟩) rfl rfl (Nat.le_of_ble_eq_true rfl) dL_act_3 ⟨Nat.le_of_ble_eq_true rfl, Nat.le_of_ble_eq_true rfl⟩ ?_
  refine pv_istore C [(4, .int v11), (0, .ref a0), (1, .int x1), (2, .int x2), (3, .int x3)] dL_act_6 (by decide) rfl ?_
  refine pv_iload C 0 dL_act_8 rfl ?_
  refine pv_bipush (v := 7) C dL_act_10 (by decide) ?_
  refine pv_icmp_ge (tgt := 22) C dL_act_12 (by decide) (fun c14 => ?_) (fun c14 => ?_)
  · have h := pq_it c14 h
    refine pv_iload C 0 dL_act_22 rfl ?_
    refine pv_bipush (v := 10) C dL_act_24 (by decide) ?_
    refine pv_icmp_ge (tgt := 92) C dL_act_26 (by decide) (fun c15 => ?_) (fun c15 => ?_)
    · have h := pq_it c15 h
      refine pv_iload C 0 dL_act_92 rfl ?_
      refine pv_bipush (v := 13) C dL_act_94 (by decide) ?_
      refine pv_icmp_ge (tgt := 139) C dL_act_96 (by decide) (fun c16 => ?_) (fun c16 => ?_)
      · have h := pq_it c16 h
        refine pv_iload C 0 dL_act_139 rfl ?_
        refine pv_bipush (v := 13) C dL_act_141 (by decide) ?_
        refine pv_icmp_ne (tgt := 167) C dL_act_143 (by decide) (fun c17 => ?_) (fun c17 => ?_)
        · have h := pq_if c17 h
          refine pv_iload C 0 dL_act_167 rfl ?_
          refine pv_bipush (v := 14) C dL_act_169 (by decide) ?_
          refine pv_icmp_ne (tgt := 179) C dL_act_171 (by decide) (fun c18 => ?_) (fun c18 => ?_)
          · have h := pq_if c18 h
            refine pv_aload_n C 1 dL_act_179 rfl rfl ?_
            obtain ⟨v19, S20, e21, h⟩ := pq_bs h
            refine pv_calliV C (ci := 10) rfl (by decide) k0_ [] (fun sz => r_X10_pamphlets W0 k0_ e21 sz) (cwV 0 C.1.2.2.2.2 gL_act_X10_pamphlets rfl rfl rfl (by decide +kernel) ⟨Nat.le_of_ble_eq_true rfl, Nat.le_of_ble_eq_true rfl⟩) rfl rfl (Nat.le_of_ble_eq_true rfl) dL_act_180 ⟨Nat.le_of_ble_eq_true rfl, Nat.le_of_ble_eq_true rfl⟩ ?_
            refine pv_istore C [(5, .int v19), (4, .int v11), (0, .ref a0), (1, .int x1), (2, .int x2), (3, .int x3)] dL_act_183 (by decide) rfl ?_
            refine pv_iload C 0 dL_act_185 rfl ?_
            refine pv_if_le (tgt := 209) C dL_act_187 (by decide) (fun c22 => ?_) (fun c22 => ?_)
            · have h := pq_it c22 h
              refine pv_iconst (v := 0) C dL_act_209 (by decide) ?_
              refine pv_sub [2, 0] rfl ?_
              exact r_L_act_b210 hl hX W0 C hr hlk _ _ _ _ k0_ h
            · have h := pq_if c22 h
              refine pv_aload_n C 2 dL_act_190 rfl rfl ?_
              refine pv_iload C 0 dL_act_191 rfl ?_
              refine pv_iconst (v := 1) C dL_act_193 (by decide) ?_
              refine pv_isub C dL_act_194 ?_
              obtain ⟨v23, S24, e25, h⟩ := pq_bs h
              refine pv_calliV C (ci := 10) rfl (by decide) k0_ [.int (v19 - (1 : Int32))] (fun sz => e_X10_dayOf W0 k0_ e25 sz) (cwV 1 C.1.2.2.2.2 gL_act_X10_dayOf rfl rfl rfl (by decide +kernel) ⟨Nat.le_of_ble_eq_true rfl, Nat.le_of_ble_eq_true rfl⟩) rfl rfl (Nat.le_of_ble_eq_true rfl) dL_act_195 ⟨Nat.le_of_ble_eq_true rfl, Nat.le_of_ble_eq_true rfl⟩ ?_
              refine pv_aload_n C 2 dL_act_198 rfl rfl ?_
              obtain ⟨v26, S27, e28, h⟩ := pq_bs h
              refine pv_calliV C (ci := 10) rfl (by decide) k0_ [] (fun sz => r_X10_day W0 k0_ e28 sz) (cwV 0 C.1.2.2.2.2 gL_act_X10_day rfl rfl rfl (by decide +kernel) ⟨Nat.le_of_ble_eq_true rfl, Nat.le_of_ble_eq_true rfl⟩) rfl rfl (Nat.le_of_ble_eq_true rfl) dL_act_199 ⟨Nat.le_of_ble_eq_true rfl, Nat.le_of_ble_eq_true rfl⟩ ?_
              refine pv_icmp_ne (tgt := 209) C dL_act_202 (by decide) (fun c29 => ?_) (fun c29 => ?_)
              · have h := pq_if c29 h
                refine pv_iconst (v := 0) C dL_act_209 (by decide) ?_
                refine pv_sub [2, 0] rfl ?_
                exact r_L_act_b210 hl hX W0 C hr hlk _ _ _ _ k0_ h
              · have h := pq_it c29 h
                refine pv_iconst (v := 1) C dL_act_205 (by decide) ?_
                refine pv_goto (tgt := 210) C dL_act_206 (by decide) ?_
                refine pv_sub [2, 0] rfl ?_
                exact r_L_act_b210 hl hX W0 C hr hlk _ _ _ _ k0_ h
          · have h := pq_it c18 h
            refine pv_aload_n C 1 dL_act_174 rfl rfl ?_
            obtain ⟨v30, S31, e32, h⟩ := pq_bs h
            refine pv_calliS C [.ref a0] (fun sz => r_L_returns W0 k0_ e32 sz) (va_cwS 1 C.1.2.2.2.2 gL_act_L_returns rfl rfl rfl (by decide +kernel) ⟨Nat.le_of_ble_eq_true rfl, Nat.le_of_ble_eq_true rfl⟩) rfl rfl (Nat.le_of_ble_eq_true rfl) dL_act_175 ⟨Nat.le_of_ble_eq_true rfl, Nat.le_of_ble_eq_true rfl⟩ ?_
            refine pv_wide (k := 3) (n := 18) (Nat.le_of_ble_eq_true rfl) (Nat.le_of_ble_eq_true rfl) ?_
            obtain ⟨g33, h⟩ := pq_gd h
            exact pv_zret C hr (pq_nz (Decidable.not_not.mp g33)) hlk h dL_act_178
        · have h := pq_it c17 h
          refine pv_iload_n C 3 dL_act_146 rfl rfl ?_
          refine pv_iconst (v := 4) C dL_act_147 (by decide) ?_
          obtain ⟨v34, S35, e36, h⟩ := pq_bs h
          refine pv_calliS C [.int x2, .int (4 : Int32)] (fun sz => r_L_low W0  e36 sz) (va_cwS 2 C.1.2.2.2.2 gL_act_L_low rfl rfl rfl (by decide +kernel) ⟨Nat.le_of_ble_eq_true rfl, Nat.le_of_ble_eq_true rfl⟩) rfl rfl (Nat.le_of_ble_eq_true rfl) dL_act_148 ⟨Nat.le_of_ble_eq_true rfl, Nat.le_of_ble_eq_true rfl⟩ ?_
          refine pv_if_gt (tgt := 161) C dL_act_151 (by decide) (fun c37 => ?_) (fun c37 => ?_)
          · have h := pq_it c37 h
            refine pv_iconst (v := 1) C dL_act_161 (by decide) ?_
            refine pv_goto (tgt := 166) C dL_act_162 (by decide) ?_
            refine pv_wide (k := 3) (n := 18) (Nat.le_of_ble_eq_true rfl) (Nat.le_of_ble_eq_true rfl) ?_
            exact pv_zret C hr rfl hlk h dL_act_166
          · have h := pq_if c37 h
            refine pv_aload_n C 1 dL_act_154 rfl rfl ?_
            obtain ⟨v38, S39, e40, h⟩ := pq_bs h
            refine pv_calliS C [.ref a0] (fun sz => r_L_mendsAll W0 k0_ e40 sz) (va_cwS 1 C.1.2.2.2.2 gL_act_L_mendsAll rfl rfl rfl (by decide +kernel) ⟨Nat.le_of_ble_eq_true rfl, Nat.le_of_ble_eq_true rfl⟩) rfl rfl (Nat.le_of_ble_eq_true rfl) dL_act_155 ⟨Nat.le_of_ble_eq_true rfl, Nat.le_of_ble_eq_true rfl⟩ ?_
            refine pv_if_eq (tgt := 165) C dL_act_158 (by decide) (fun c41 => ?_) (fun c41 => ?_)
            · have h := pq_it c41 h
              refine pv_iconst (v := 0) C dL_act_165 (by decide) ?_
              refine pv_wide (k := 3) (n := 18) (Nat.le_of_ble_eq_true rfl) (Nat.le_of_ble_eq_true rfl) ?_
              exact pv_zret C hr rfl hlk h dL_act_166
            · have h := pq_if c41 h
              refine pv_iconst (v := 1) C dL_act_161 (by decide) ?_
              refine pv_goto (tgt := 166) C dL_act_162 (by decide) ?_
              refine pv_wide (k := 3) (n := 18) (Nat.le_of_ble_eq_true rfl) (Nat.le_of_ble_eq_true rfl) ?_
              exact pv_zret C hr rfl hlk h dL_act_166
      · have h := pq_if c16 h
        refine pv_aload_n C 1 dL_act_99 rfl rfl ?_
        obtain ⟨v42, S43, e44, h⟩ := pq_bs h
        refine pv_calliV C (ci := 10) rfl (by decide) k0_ [] (fun sz => r_X10_pamphlets W0 k0_ e44 sz) (cwV 0 C.1.2.2.2.2 gL_act_X10_pamphlets rfl rfl rfl (by decide +kernel) ⟨Nat.le_of_ble_eq_true rfl, Nat.le_of_ble_eq_true rfl⟩) rfl rfl (Nat.le_of_ble_eq_true rfl) dL_act_100 ⟨Nat.le_of_ble_eq_true rfl, Nat.le_of_ble_eq_true rfl⟩ ?_
        refine pv_if_eq (tgt := 133) C dL_act_103 (by decide) (fun c45 => ?_) (fun c45 => ?_)
        · have h := pq_it c45 h
          refine pv_iconst (v := 1) C dL_act_133 (by decide) ?_
          refine pv_goto (tgt := 138) C dL_act_134 (by decide) ?_
          refine pv_wide (k := 3) (n := 18) (Nat.le_of_ble_eq_true rfl) (Nat.le_of_ble_eq_true rfl) ?_
          exact pv_zret C hr rfl hlk h dL_act_138
        · have h := pq_if c45 h
          refine pv_aload_n C 1 dL_act_106 rfl rfl ?_
          refine pv_aload_n C 1 dL_act_107 rfl rfl ?_
          obtain ⟨v46, S47, e48, h⟩ := pq_bs h
          refine pv_calliV C (ci := 10) rfl (by decide) k0_ [] (fun sz => r_X10_pamphlets W0 k0_ e48 sz) (cwV 0 C.1.2.2.2.2 gL_act_X10_pamphlets rfl rfl rfl (by decide +kernel) ⟨Nat.le_of_ble_eq_true rfl, Nat.le_of_ble_eq_true rfl⟩) rfl rfl (Nat.le_of_ble_eq_true rfl) dL_act_108 ⟨Nat.le_of_ble_eq_true rfl, Nat.le_of_ble_eq_true rfl⟩ ?_
          refine pv_iconst (v := 1) C dL_act_111 (by decide) ?_
          refine pv_isub C dL_act_112 ?_
          refine pv_iload_n C 3 dL_act_113 rfl rfl ?_
          refine pv_aload_n C 1 dL_act_114 rfl rfl ?_
          obtain ⟨v49, S50, e51, h⟩ := pq_bs h
          refine pv_calliV C (ci := 10) rfl (by decide) k0_ [] (fun sz => r_X10_pamphlets W0 k0_ e51 sz) (cwV 0 C.1.2.2.2.2 gL_act_X10_pamphlets rfl rfl rfl (by decide +kernel) ⟨Nat.le_of_ble_eq_true rfl, Nat.le_of_ble_eq_true rfl⟩) rfl rfl (Nat.le_of_ble_eq_true rfl) dL_act_115 ⟨Nat.le_of_ble_eq_true rfl, Nat.le_of_ble_eq_true rfl⟩ ?_
          obtain ⟨v52, S53, e54, h⟩ := pq_bs h
          refine pv_calliS C [.int x2, .int v49] (fun sz => r_L_low W0  e54 sz) (va_cwS 2 C.1.2.2.2.2 gL_act_L_low rfl rfl rfl (by decide +kernel) ⟨Nat.le_of_ble_eq_true rfl, Nat.le_of_ble_eq_true rfl⟩) rfl rfl (Nat.le_of_ble_eq_true rfl) dL_act_118 ⟨Nat.le_of_ble_eq_true rfl, Nat.le_of_ble_eq_true rfl⟩ ?_
          refine pv_iconst (v := 2) C dL_act_121 (by decide) ?_
          refine pv_idiv C dL_act_122 (by decide) ?_
          refine pv_isub C dL_act_123 ?_
          refine pv_iload_n C 3 dL_act_124 rfl rfl ?_
          refine pv_iconst (v := 4) C dL_act_125 (by decide) ?_
          refine pv_ishr C dL_act_126 ?_
          obtain ⟨v55, S56, e57, h⟩ := pq_bs h
          refine pv_pcalli C (kc := 3) (ks := 18) hX [.ref a0, .int ((v46 - (1 : Int32)) - (v52 / (2 : Int32))), .int (x2 >>> ((4 : Int32) &&& 31))] (fun sz => r_L_mends hl W0 k0_ e57 sz) (va_cwS 3 C.1.2.2.2.2 gL_act_L_mends rfl rfl rfl (by decide +kernel) ⟨Nat.le_of_ble_eq_true rfl, Nat.le_of_ble_eq_true rfl⟩) rfl rfl (Nat.le_of_ble_eq_true rfl) dL_act_127 ⟨Nat.le_of_ble_eq_true rfl, Nat.le_of_ble_eq_true rfl⟩ ?_
          refine pv_if_eq (tgt := 137) C dL_act_130 (by decide) (fun c58 => ?_) (fun c58 => ?_)
          · have h := pq_it c58 h
            refine pv_iconst (v := 0) C dL_act_137 (by decide) ?_
            refine pv_wide (k := 3) (n := 18) (Nat.le_of_ble_eq_true rfl) (Nat.le_of_ble_eq_true rfl) ?_
            exact pv_zret C hr rfl hlk h dL_act_138
          · have h := pq_if c58 h
            refine pv_iconst (v := 1) C dL_act_133 (by decide) ?_
            refine pv_goto (tgt := 138) C dL_act_134 (by decide) ?_
            refine pv_wide (k := 3) (n := 18) (Nat.le_of_ble_eq_true rfl) (Nat.le_of_ble_eq_true rfl) ?_
            exact pv_zret C hr rfl hlk h dL_act_138
    · have h := pq_if c15 h
      refine pv_aload_n C 1 dL_act_29 rfl rfl ?_
      obtain ⟨v59, S60, e61, h⟩ := pq_bs h
      refine pv_calliV C (ci := 10) rfl (by decide) k0_ [] (fun sz => r_X10_day W0 k0_ e61 sz) (cwV 0 C.1.2.2.2.2 gL_act_X10_day rfl rfl rfl (by decide +kernel) ⟨Nat.le_of_ble_eq_true rfl, Nat.le_of_ble_eq_true rfl⟩) rfl rfl (Nat.le_of_ble_eq_true rfl) dL_act_30 ⟨Nat.le_of_ble_eq_true rfl, Nat.le_of_ble_eq_true rfl⟩ ?_
      refine pv_istore C [(5, .int v59), (4, .int v11), (0, .ref a0), (1, .int x1), (2, .int x2), (3, .int x3)] dL_act_33 (by decide) rfl ?_
      refine pv_iconst (v := 1) C dL_act_35 (by decide) ?_
      refine pv_iload_n C 4 dL_act_36 rfl rfl ?_
      refine pv_iload_n C 4 dL_act_37 rfl rfl ?_
      refine pv_bipush (v := 7) C dL_act_38 (by decide) ?_
      refine pv_ishr C dL_act_40 ?_
      refine pv_iconst (v := 5) C dL_act_41 (by decide) ?_
      obtain ⟨v62, S63, e64, h⟩ := pq_bs h
      refine pv_calliS C [.int (x2 >>> ((7 : Int32) &&& 31)), .int (5 : Int32)] (fun sz => r_L_low W0  e64 sz) (va_cwS 2 C.1.2.2.2.2 gL_act_L_low rfl rfl rfl (by decide +kernel) ⟨Nat.le_of_ble_eq_true rfl, Nat.le_of_ble_eq_true rfl⟩) rfl rfl (Nat.le_of_ble_eq_true rfl) dL_act_42 ⟨Nat.le_of_ble_eq_true rfl, Nat.le_of_ble_eq_true rfl⟩ ?_
      refine pv_if_ne (tgt := 53) C dL_act_45 (by decide) (fun c65 => ?_) (fun c65 => ?_)
      · have h := pq_if c65 h
        refine pv_iconst (v := 3) C dL_act_53 (by decide) ?_
        refine pv_sub [2, 0] rfl ?_
        exact r_L_act_b54 hl hX W0 C hr hlk _ _ _ _ _ _ k0_ h
      · have h := pq_it c65 h
        refine pv_bipush (v := 100) C dL_act_48 (by decide) ?_
        refine pv_goto (tgt := 54) C dL_act_50 (by decide) ?_
        refine pv_sub [2, 0] rfl ?_
        exact r_L_act_b54 hl hX W0 C hr hlk _ _ _ _ _ _ k0_ h
  · have h := pq_if c14 h
    refine pv_aload_n C 1 dL_act_15 rfl rfl ?_
    refine pv_iload_n C 3 dL_act_16 rfl rfl ?_
    refine pv_iload_n C 4 dL_act_17 rfl rfl ?_
    obtain ⟨v66, S67, e68, h⟩ := pq_bs h
    refine pv_pcalli C (kc := 1) (ks := 6) hX [.ref a0, .int x2, .int x3] (fun sz => r_L_prints hl W0 k0_ e68 sz) (va_cwS 3 C.1.2.2.2.2 gL_act_L_prints rfl rfl rfl (by decide +kernel) ⟨Nat.le_of_ble_eq_true rfl, Nat.le_of_ble_eq_true rfl⟩) rfl rfl (Nat.le_of_ble_eq_true rfl) dL_act_18 ⟨Nat.le_of_ble_eq_true rfl, Nat.le_of_ble_eq_true rfl⟩ ?_
    refine pv_wide (k := 3) (n := 18) (Nat.le_of_ble_eq_true rfl) (Nat.le_of_ble_eq_true rfl) ?_
    obtain ⟨g69, h⟩ := pq_gd h
    exact pv_zret C hr (pq_nz (Decidable.not_not.mp g69)) hlk h dL_act_21
