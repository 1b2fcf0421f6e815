def F_X11_in (G : pq_G) (S : pq_N) (x0 : Int32) (x1 : Int32) (x2 : Int32) : Option (Int32 × pq_N) := (if x0 < x1 then some ((0 : Int32), S) else (if x2 < x0 then some ((0 : Int32), S) else some ((1 : Int32), S)))
set_option maxHeartbeats 4000000 in
set_option maxRecDepth 100000 in
theorem r_X11_in {l : Launch} {D : va_G} {y : pq_Y} {G : pq_G} (W0 : pq_WT G) {S : pq_N} {x0 : Int32} {x1 : Int32} {x2 : Int32}  {r : Int32} {S1 : pq_N} (h : F_X11_in G S x0 x1 x2 = some (r, S1)) (sz : Nat) : Met l yX11_in wsX11_in ({ frames := 0, cells := 0, slots := 0, locals := 0 } : Room) (pq_P D y G S sz [.int x0, .int x1, .int x2]) (pq_Qi D y G sz r S1) 0 0 (pq_A G sz) := by
  refine pq_enter RX11 3 (by decide) rfl rfl rfl ?_
  intro p e s m below meth c C hsz hr hlk
  subst hsz
  unfold F_X11_in at h
  refine pv_sub (lo1 := [(0, .int x0), (1, .int x1), (2, .int x2)]) [0, 1, 2] rfl ?_
  refine pv_iload_n C 0 dX11_in_0 rfl rfl ?_
  refine pv_iload_n C 1 dX11_in_1 rfl rfl ?_
  refine pv_icmp_lt (tgt := 14) C dX11_in_2 (by decide) (fun c11 => ?_) (fun c11 => ?_)
  · have h := pq_it c11 h
    refine pv_iconst (v := 0) C dX11_in_14 (by decide) ?_
    exact pv_zret C hr rfl hlk h dX11_in_15
  · have h := pq_if c11 h
    refine pv_iload_n C 0 dX11_in_5 rfl rfl ?_
    refine pv_iload_n C 2 dX11_in_6 rfl rfl ?_
    refine pv_icmp_gt (tgt := 14) C dX11_in_7 (by decide) (fun c12 => ?_) (fun c12 => ?_)
    · have h := pq_it c12 h
      refine pv_iconst (v := 0) C dX11_in_14 (by decide) ?_
      exact pv_zret C hr rfl hlk h dX11_in_15
    · have h := pq_if c12 h
      refine pv_iconst (v := 1) C dX11_in_10 (by decide) ?_
      refine pv_goto (tgt := 15) C dX11_in_11 (by decide) ?_
      exact pv_zret C hr rfl hlk h dX11_in_15
def F_X11_isPamphlet (G : pq_G) (S : pq_N) (a0 : Nat) (x1 : Int32) : Option (Int32 × pq_N) := (if (1 : Int32) < 0 ∨ pq_n G (pq_r G a0 0) ≤ (Int32.toNatClampNeg (1 : Int32)) then none else (pq_bd (F_X11_in G S x1 (0 : Int32) ((S.1 (pq_r G a0 0) (Int32.toNatClampNeg (1 : Int32))) - (1 : Int32))) fun v13 S14 => (if ¬ (v13 = 0 ∨ v13 = 1) then none else some (v13, S14))))
theorem inu_X11_isPamphlet_11 : ∀ w ∈ u_ws RX11 TX11 24, w ∈ wsX11_isPamphlet := pq_inu 6 rfl
set_option maxHeartbeats 4000000 in
set_option maxRecDepth 100000 in
theorem r_X11_isPamphlet {l : Launch} {D : va_G} {y : pq_Y} {G : pq_G} (W0 : pq_WT G) {S : pq_N} {a0 : Nat} {x1 : Int32} (k0_ : pq_ok G 11 a0) {r : Int32} {S1 : pq_N} (h : F_X11_isPamphlet G S a0 x1 = some (r, S1)) (sz : Nat) : Met l yX11_isPamphlet wsX11_isPamphlet ({ frames := 1, cells := 0, slots := 0, locals := 22 } : Room) (pq_P D y G S sz [.ref a0, .int x1]) (pq_Qi D y G sz r S1) 0 0 (pq_A G sz) := by
  refine pq_enter RX11 2 (by decide) rfl rfl rfl ?_
  intro p e s m below meth c C hsz hr hlk
  subst hsz
  unfold F_X11_isPamphlet at h
  refine pv_sub (lo1 := [(0, .ref a0), (1, .int x1)]) [0, 1] rfl ?_
  refine pv_iload_n C 1 dX11_isPamphlet_0 rfl rfl ?_
  refine pv_iconst (v := 0) C dX11_isPamphlet_1 (by decide) ?_
  refine pv_aload_n C 0 dX11_isPamphlet_2 rfl rfl ?_
  have k11 := pq_wt (k := 0) W0 k0_ rfl
  refine pv_getr (T := TX11) (N := 24) C 0 inu_X11_isPamphlet_11 rfl (by decide) (by decide) (List.mem_of_getElem? (i := 1) rfl) rfl k0_ k11.1 dX11_isPamphlet_3 ?_
  refine pv_iconst (v := 1) C dX11_isPamphlet_6 (by decide) ?_
  obtain ⟨g12, h⟩ := pq_gd h
  refine pv_iaload C k11.2 g12 dX11_isPamphlet_7 ?_
  refine pv_iconst (v := 1) C dX11_isPamphlet_8 (by decide) ?_
  refine pv_isub C dX11_isPamphlet_9 ?_
  obtain ⟨v13, S14, e15, h⟩ := pq_bs h
  refine pv_calliS C [.int x1, .int (0 : Int32), .int ((S.1 (pq_r G a0 0) (Int32.toNatClampNeg (1 : Int32))) - (1 : Int32))] (fun sz => r_X11_in W0  e15 sz) (va_cwS 3 C.1.2.2.2.2 gX11_isPamphlet_X11_in rfl rfl rfl (by decide +kernel) ⟨Nat.le_of_ble_eq_true rfl, Nat.le_of_ble_eq_true rfl⟩) rfl rfl (Nat.le_of_ble_eq_true rfl) dX11_isPamphlet_10 ⟨Nat.le_of_ble_eq_true rfl, Nat.le_of_ble_eq_true rfl⟩ ?_
  obtain ⟨g16, h⟩ := pq_gd h
  exact pv_zret C hr (pq_nz (Decidable.not_not.mp g16)) hlk h dX11_isPamphlet_13
def F_X11_holds (G : pq_G) (S : pq_N) (a0 : Nat) (x1 : Int32) : Option (Int32 × pq_N) := (pq_lt (pq_wi S a0 8 x1) fun S11 => (if x1 = (0 : Int32) then some ((1 : Int32), S11) else some ((0 : Int32), S11)))
theorem inu_X11_holds_11 : ∀ w ∈ u_ws RX11 TX11 24, w ∈ wsX11_holds := pq_inu 2 rfl
set_option maxHeartbeats 4000000 in
set_option maxRecDepth 100000 in
theorem r_X11_holds {l : Launch} {D : va_G} {y : pq_Y} {G : pq_G} (W0 : pq_WT G) {S : pq_N} {a0 : Nat} {x1 : Int32} (k0_ : pq_ok G 11 a0) {r : Int32} {S1 : pq_N} (h : F_X11_holds G S a0 x1 = some (r, S1)) (sz : Nat) : Met l yX11_holds wsX11_holds ({ frames := 0, cells := 0, slots := 0, locals := 0 } : Room) (pq_P D y G S sz [.ref a0, .int x1]) (pq_Qi D y G sz r S1) 0 0 (pq_A G sz) := by
  refine pq_enter RX11 2 (by decide) rfl rfl rfl ?_
  intro p e s m below meth c C hsz hr hlk
  subst hsz
  unfold F_X11_holds at h
  refine pv_sub (lo1 := [(0, .ref a0), (1, .int x1)]) [0, 1] rfl ?_
  refine pv_aload_n C 0 dX11_holds_0 rfl rfl ?_
  refine pv_iload_n C 1 dX11_holds_1 rfl rfl ?_
  refine pv_put (T := TX11) (N := 24) (ty := .int) C 8 inu_X11_holds_11 rfl (by decide) tyX11 tyX11_ok nmX11 (by decide) (List.mem_of_getElem? (i := 1) rfl) rfl k0_ rfl (by decide +kernel) rfl rfl dX11_holds_2 ?_
  refine pv_nm (fun S11 e12 => ?_)
  have h := pq_ls e12 h
  refine pv_iload_n C 1 dX11_holds_5 rfl rfl ?_
  refine pv_if_ne (tgt := 13) C dX11_holds_6 (by decide) (fun c13 => ?_) (fun c13 => ?_)
  · have h := pq_if c13 h
    refine pv_iconst (v := 0) C dX11_holds_13 (by decide) ?_
    exact pv_zret C hr rfl hlk h dX11_holds_14
  · have h := pq_it c13 h
    refine pv_iconst (v := 1) C dX11_holds_9 (by decide) ?_
    refine pv_goto (tgt := 14) C dX11_holds_10 (by decide) ?_
    exact pv_zret C hr rfl hlk h dX11_holds_14
def F_X11_get (G : pq_G) (S : pq_N) (a0 : Nat) (x1 : Int32) (x2 : Int32) : Option (Int32 × pq_N) := (if (((52 : Int32) * x1) + x2) < 0 ∨ pq_n G (pq_r G a0 0) ≤ (Int32.toNatClampNeg (((52 : Int32) * x1) + x2)) then none else some ((S.1 (pq_r G a0 0) (Int32.toNatClampNeg (((52 : Int32) * x1) + x2))), S))
theorem inu_X11_get_11 : ∀ w ∈ u_ws RX11 TX11 24, w ∈ wsX11_get := pq_inu 2 rfl
set_option maxHeartbeats 4000000 in
set_option maxRecDepth 100000 in
theorem r_X11_get {l : Launch} {D : va_G} {y : pq_Y} {G : pq_G} (W0 : pq_WT G) {S : pq_N} {a0 : Nat} {x1 : Int32} {x2 : Int32} (k0_ : pq_ok G 11 a0) {r : Int32} {S1 : pq_N} (h : F_X11_get G S a0 x1 x2 = some (r, S1)) (sz : Nat) : Met l yX11_get wsX11_get ({ frames := 0, cells := 0, slots := 0, locals := 0 } : Room) (pq_P D y G S sz [.ref a0, .int x1, .int x2]) (pq_Qi D y G sz r S1) 0 0 (pq_A G sz) := by
  refine pq_enter RX11 3 (by decide) rfl rfl rfl ?_
  intro p e s m below meth c C hsz hr hlk
  subst hsz
  unfold F_X11_get at h
  refine pv_sub (lo1 := [(0, .ref a0), (1, .int x1), (2, .int x2)]) [0, 1, 2] rfl ?_
  refine pv_aload_n C 0 dX11_get_0 rfl rfl ?_
  have k11 := pq_wt (k := 0) W0 k0_ rfl
  refine pv_getr (T := TX11) (N := 24) C 0 inu_X11_get_11 rfl (by decide) (by decide) (List.mem_of_getElem? (i := 1) rfl) rfl k0_ k11.1 dX11_get_1 ?_
  refine pv_bipush (v := 52) C dX11_get_4 (by decide) ?_
  refine pv_iload_n C 1 dX11_get_6 rfl rfl ?_
  refine pv_imul C dX11_get_7 ?_
  refine pv_iload_n C 2 dX11_get_8 rfl rfl ?_
  refine pv_iadd C dX11_get_9 ?_
  obtain ⟨g12, h⟩ := pq_gd h
  refine pv_iaload C k11.2 g12 dX11_get_10 ?_
  exact pv_iret C hr hlk h dX11_get_11
def F_X11_source (G : pq_G) (S : pq_N) (a0 : Nat) (x1 : Int32) (x2 : Int32) : Option (Int32 × pq_N) := (pq_bd (F_X11_get G S a0 x1 ((6 : Int32) + ((3 : Int32) * x2))) fun v11 S12 => some (v11, S12))
set_option maxHeartbeats 4000000 in
set_option maxRecDepth 100000 in
theorem r_X11_source {l : Launch} {D : va_G} {y : pq_Y} {G : pq_G} (W0 : pq_WT G) {S : pq_N} {a0 : Nat} {x1 : Int32} {x2 : Int32} (k0_ : pq_ok G 11 a0) {r : Int32} {S1 : pq_N} (h : F_X11_source G S a0 x1 x2 = some (r, S1)) (sz : Nat) : Met l yX11_source wsX11_source ({ frames := 1, cells := 0, slots := 0, locals := 22 } : Room) (pq_P D y G S sz [.ref a0, .int x1, .int x2]) (pq_Qi D y G sz r S1) 0 0 (pq_A G sz) := by
  refine pq_enter RX11 3 (by decide) rfl rfl rfl ?_
  intro p e s m below meth c C hsz hr hlk
  subst hsz
  unfold F_X11_source at h
  refine pv_sub (lo1 := [(0, .ref a0), (1, .int x1), (2, .int x2)]) [0, 1, 2] rfl ?_
  refine pv_aload_n C 0 dX11_source_0 rfl rfl ?_
  refine pv_iload_n C 1 dX11_source_1 rfl rfl ?_
  refine pv_bipush (v := 6) C dX11_source_2 (by decide) ?_
  refine pv_iconst (v := 3) C dX11_source_4 (by decide) ?_
  refine pv_iload_n C 2 dX11_source_5 rfl rfl ?_
  refine pv_imul C dX11_source_6 ?_
  refine pv_iadd C dX11_source_7 ?_
  obtain ⟨v11, S12, e13, h⟩ := pq_bs h
  refine pv_calliV C (ci := 11) rfl (by decide) k0_ [.int x1, .int ((6 : Int32) + ((3 : Int32) * x2))] (fun sz => r_X11_get W0 k0_ e13 sz) (cwV 2 C.1.2.2.2.2 gX11_source_X11_get rfl rfl rfl (by decide +kernel) ⟨Nat.le_of_ble_eq_true rfl, Nat.le_of_ble_eq_true rfl⟩) rfl rfl (Nat.le_of_ble_eq_true rfl) dX11_source_8 ⟨Nat.le_of_ble_eq_true rfl, Nat.le_of_ble_eq_true rfl⟩ ?_
  exact pv_iret C hr hlk h dX11_source_11
def F_X11_isAnswer_b5 (G : pq_G)  : Nat → pq_N → Nat → Int32 → Int32 → Int32 → Int32 → Option (Int32 × pq_N)
  | 0, _, _, _, _, _, _ => none
  | n + 1, S, a0, x1, x2, x3, x4 => (pq_bd (F_X11_get G S a0 x1 (5 : Int32)) fun v11 S12 => (if v11 ≤ x4 then (if ¬ (x3 = 0 ∨ x3 = 1) then none else some (x3, S12)) else (if x3 = (0 : Int32) then (pq_bd (F_X11_source G S12 a0 x1 x4) fun v17 S18 => (if v17 = x2 then (F_X11_isAnswer_b5 G n) S18 a0 x1 x2 (1 : Int32) (x4 + (1 : Int32)) else (F_X11_isAnswer_b5 G n) S18 a0 x1 x2 (0 : Int32) (x4 + (1 : Int32)))) else (F_X11_isAnswer_b5 G n) S12 a0 x1 x2 (1 : Int32) (x4 + (1 : Int32)))))
def F_X11_isAnswer (G : pq_G) (S : pq_N) (a0 : Nat) (x1 : Int32) (x2 : Int32) : Option (Int32 × pq_N) := F_X11_isAnswer_b5 G pq_fuel S a0 x1 x2 (0 : Int32) (0 : Int32)
set_option maxHeartbeats 4000000 in
set_option maxRecDepth 100000 in
theorem r_X11_isAnswer_b5 {p : Program} {l : Launch} {e : Env} {s : State} {m : MethodId} {av : Array Value} {below : List Frame} {meth : Method} {c : Code} {D : va_G} {y : pq_Y} {G : pq_G} {r : Int32} {S1 : pq_N} (W0 : pq_WT G) (C : pq_C p s m av c D y RX11 wsX11_isAnswer cX11_isAnswer 5) (hr : meth.sig.returnType = (some .boolean)) (hlk : meth.locks = false) (n : Nat) : ∀ (S : pq_N) (a0 : Nat) (x1 : Int32) (x2 : Int32) (x3 : Int32) (x4 : Int32), pq_ok G 11 a0 → F_X11_isAnswer_b5 G n S a0 x1 x2 x3 x4 = some (r, S1) → pq_V p l e (headSpec wsX11_isAnswer ({ frames := 2, cells := 0, slots := 0, locals := 44 } : Room)).room s m av below meth c 0 0 (MQ below (pq_Qi D y G s.heap.size r S1) av s 0 0 (pq_A G s.heap.size)) D y 5 (pq_A G s.heap.size) (fun _ => True) G S 5 [(0, .ref a0), (1, .int x1), (2, .int x2), (3, .int x3), (4, .int x4)] [] := by
  induction n with
  | zero =>
    intro S a0 x1 x2 x3 x4 k0_ h
    rw [F_X11_isAnswer_b5.eq_1] at h; cases h
  | succ n ih =>
    intro S a0 x1 x2 x3 x4 k0_ h
    rw [F_X11_isAnswer_b5.eq_2] at h
    refine pv_iload C 4 dX11_isAnswer_5 rfl ?_
    refine pv_aload_n C 0 dX11_isAnswer_7 rfl rfl ?_
    refine pv_iload_n C 1 dX11_isAnswer_8 rfl rfl ?_
    refine pv_iconst (v := 5) C dX11_isAnswer_9 (by decide) ?_
    obtain ⟨v11, S12, e13, h⟩ := pq_bs h
    refine pv_calliV C (ci := 11) rfl (by decide) k0_ [.int x1, .int (5 : Int32)] (fun sz => r_X11_get W0 k0_ e13 sz) (cwV 2 C.1.2.2.2.2 gX11_isAnswer_X11_get rfl rfl rfl (by decide +kernel) ⟨Nat.le_of_ble_eq_true rfl, Nat.le_of_ble_eq_true rfl⟩) rfl rfl (Nat.le_of_ble_eq_true rfl) dX11_isAnswer_10 ⟨Nat.le_of_ble_eq_true rfl, Nat.le_of_ble_eq_true rfl⟩ ?_
    refine pv_icmp_ge (tgt := 43) C dX11_isAnswer_13 (by decide) (fun c14 => ?_) (fun c14 => ?_)
    · have h := pq_it c14 h
      refine pv_iload_n C 3 dX11_isAnswer_43 rfl rfl ?_
      obtain ⟨g15, h⟩ := pq_gd h
      exact pv_zret C hr (pq_nz (Decidable.not_not.mp g15)) hlk h dX11_isAnswer_44
    · have h := pq_if c14 h
      refine pv_iload_n C 3 dX11_isAnswer_16 rfl rfl ?_
      refine pv_if_ne (tgt := 31) C dX11_isAnswer_17 (by decide) (fun c16 => ?_) (fun c16 => ?_)
      · have h := pq_if c16 h
        refine pv_iconst (v := 1) C dX11_isAnswer_31 (by decide) ?_
        refine pv_goto (tgt := 36) C dX11_isAnswer_32 (by decide) ?_
        refine pv_istore_n C [(3, .int (1 : Int32)), (0, .ref a0), (1, .int x1), (2, .int x2), (4, .int x4)] dX11_isAnswer_36 rfl (by decide) rfl ?_
        refine pv_iinc (v := (x4 + (1 : Int32))) C 4 [(4, .int (x4 + (1 : Int32))), (3, .int (1 : Int32)), (0, .ref a0), (1, .int x1), (2, .int x2)] dX11_isAnswer_37 rfl rfl (by decide) rfl ?_
        refine pv_goto (tgt := 5) C dX11_isAnswer_40 (by decide) ?_
        refine pv_sub [2, 3, 4, 1, 0] rfl ?_
        exact ih _ _ _ _ _ _ k0_ h
      · have h := pq_it c16 h
        refine pv_aload_n C 0 dX11_isAnswer_20 rfl rfl ?_
        refine pv_iload_n C 1 dX11_isAnswer_21 rfl rfl ?_
        refine pv_iload C 4 dX11_isAnswer_22 rfl ?_
        obtain ⟨v17, S18, e19, h⟩ := pq_bs h
        refine pv_calliV C (ci := 11) rfl (by decide) k0_ [.int x1, .int x4] (fun sz => r_X11_source W0 k0_ e19 sz) (cwV 2 C.1.2.2.2.2 gX11_isAnswer_X11_source rfl rfl rfl (by decide +kernel) ⟨Nat.le_of_ble_eq_true rfl, Nat.le_of_ble_eq_true rfl⟩) rfl rfl (Nat.le_of_ble_eq_true rfl) dX11_isAnswer_24 ⟨Nat.le_of_ble_eq_true rfl, Nat.le_of_ble_eq_true rfl⟩ ?_
        refine pv_iload_n C 2 dX11_isAnswer_27 rfl rfl ?_
        refine pv_icmp_ne (tgt := 35) C dX11_isAnswer_28 (by decide) (fun c20 => ?_) (fun c20 => ?_)
        · have h := pq_if c20 h
          refine pv_iconst (v := 0) C dX11_isAnswer_35 (by decide) ?_
          refine pv_istore_n C [(3, .int (0 : Int32)), (0, .ref a0), (1, .int x1), (2, .int x2), (4, .int x4)] dX11_isAnswer_36 rfl (by decide) rfl ?_
          refine pv_iinc (v := (x4 + (1 : Int32))) C 4 [(4, .int (x4 + (1 : Int32))), (3, .int (0 : Int32)), (0, .ref a0), (1, .int x1), (2, .int x2)] dX11_isAnswer_37 rfl rfl (by decide) rfl ?_
          refine pv_goto (tgt := 5) C dX11_isAnswer_40 (by decide) ?_
          refine pv_sub [2, 3, 4, 1, 0] rfl ?_
          exact ih _ _ _ _ _ _ k0_ h
        · have h := pq_it c20 h
          refine pv_iconst (v := 1) C dX11_isAnswer_31 (by decide) ?_
          refine pv_goto (tgt := 36) C dX11_isAnswer_32 (by decide) ?_
          refine pv_istore_n C [(3, .int (1 : Int32)), (0, .ref a0), (1, .int x1), (2, .int x2), (4, .int x4)] dX11_isAnswer_36 rfl (by decide) rfl ?_
          refine pv_iinc (v := (x4 + (1 : Int32))) C 4 [(4, .int (x4 + (1 : Int32))), (3, .int (1 : Int32)), (0, .ref a0), (1, .int x1), (2, .int x2)] dX11_isAnswer_37 rfl rfl (by decide) rfl ?_
          refine pv_goto (tgt := 5) C dX11_isAnswer_40 (by decide) ?_
          refine pv_sub [2, 3, 4, 1, 0] rfl ?_
          exact ih _ _ _ _ _ _ k0_ h
set_option maxHeartbeats 4000000 in
set_option maxRecDepth 100000 in
theorem r_X11_isAnswer {l : Launch} {D : va_G} {y : pq_Y} {G : pq_G} (W0 : pq_WT G) {S : pq_N} {a0 : Nat} {x1 : Int32} {x2 : Int32} (k0_ : pq_ok G 11 a0) {r : Int32} {S1 : pq_N} (h : F_X11_isAnswer G S a0 x1 x2 = some (r, S1)) (sz : Nat) : Met l yX11_isAnswer wsX11_isAnswer ({ frames := 2, cells := 0, slots := 0, locals := 44 } : Room) (pq_P D y G S sz [.ref a0, .int x1, .int x2]) (pq_Qi D y G sz r S1) 0 0 (pq_A G sz) := by
  refine pq_enter RX11 5 (by decide) rfl rfl rfl ?_
  intro p e s m below meth c C hsz hr hlk
  subst hsz
  unfold F_X11_isAnswer at h
  refine pv_sub (lo1 := [(0, .ref a0), (1, .int x1), (2, .int x2)]) [0, 1, 2] rfl ?_
  refine pv_iconst (v := 0) C dX11_isAnswer_0 (by decide) ?_
  refine pv_istore_n C [(3, .int (0 : Int32)), (0, .ref a0), (1, .int x1), (2, .int x2)] dX11_isAnswer_1 rfl (by decide) rfl ?_
  refine pv_iconst (v := 0) C dX11_isAnswer_2 (by decide) ?_
  refine pv_istore C [(4, .int (0 : Int32)), (3, .int (0 : Int32)), (0, .ref a0), (1, .int x1), (2, .int x2)] dX11_isAnswer_3 (by decide) rfl ?_
  refine pv_sub [2, 3, 4, 1, 0] rfl ?_
  exact r_X11_isAnswer_b5 W0 C hr hlk pq_fuel _ _ _ _ _ _ k0_ h
def F_X11_answers_b22 (G : pq_G)  (S : pq_N) (a0 : Nat) (x1 : Int32) (x2 : Int32) (t0 : Int32) (t1 : Nat) : Option (Int32 × pq_N) := (pq_bd (F_X11_holds G S t1 t0) fun v19 S20 => (if v19 = (0 : Int32) then some ((0 : Int32), S20) else (pq_bd (F_X11_isAnswer G S20 a0 x1 x2) fun v23 S24 => (if v23 = (0 : Int32) then some ((0 : Int32), S24) else some ((1 : Int32), S24)))))
def F_X11_answers (G : pq_G) (S : pq_N) (a0 : Nat) (x1 : Int32) (x2 : Int32) : Option (Int32 × pq_N) := (pq_bd (F_X11_isPamphlet G S a0 x1) fun v11 S12 => (if v11 = (0 : Int32) then F_X11_answers_b22 G S12 a0 x1 x2 (1 : Int32) a0 else (pq_bd (F_X11_isPamphlet G S12 a0 x2) fun v15 S16 => (if v15 = (0 : Int32) then F_X11_answers_b22 G S16 a0 x1 x2 (1 : Int32) a0 else F_X11_answers_b22 G S16 a0 x1 x2 (0 : Int32) a0))))
set_option maxHeartbeats 4000000 in
set_option maxRecDepth 100000 in
theorem r_X11_answers_b22 {p : Program} {l : Launch} {e : Env} {s : State} {m : MethodId} {av : Array Value} {below : List Frame} {meth : Method} {c : Code} {D : va_G} {y : pq_Y} {G : pq_G} {r : Int32} {S1 : pq_N} (W0 : pq_WT G) (C : pq_C p s m av c D y RX11 wsX11_answers cX11_answers 3) (hr : meth.sig.returnType = (some .boolean)) (hlk : meth.locks = false) : ∀ (S : pq_N) (a0 : Nat) (x1 : Int32) (x2 : Int32) (t0 : Int32) (t1 : Nat), pq_ok G 11 a0 → pq_ok G 11 t1 → F_X11_answers_b22 G S a0 x1 x2 t0 t1 = some (r, S1) → pq_V p l e (headSpec wsX11_answers ({ frames := 3, cells := 0, slots := 0, locals := 68 } : Room)).room s m av below meth c 0 0 (MQ below (pq_Qi D y G s.heap.size r S1) av s 0 0 (pq_A G s.heap.size)) D y 3 (pq_A G s.heap.size) (fun _ => True) G S 22 [(0, .ref a0), (1, .int x1), (2, .int x2)] [.int t0, .ref t1] := by
  intro S a0 x1 x2 t0 t1 k0_ kt1_ h
  unfold F_X11_answers_b22 at h
  obtain ⟨v19, S20, e21, h⟩ := pq_bs h
  refine pv_calliV C (ci := 11) rfl (by decide) kt1_ [.int t0] (fun sz => r_X11_holds W0 kt1_ e21 sz) (cwV 1 C.1.2.2.2.2 gX11_answers_X11_holds rfl rfl rfl (by decide +kernel) ⟨Nat.le_of_ble_eq_true rfl, Nat.le_of_ble_eq_true rfl⟩) rfl rfl (Nat.le_of_ble_eq_true rfl) dX11_answers_22 ⟨Nat.le_of_ble_eq_true rfl, Nat.le_of_ble_eq_true rfl⟩ ?_
  refine pv_if_eq (tgt := 41) C dX11_answers_25 (by decide) (fun c22 => ?_) (fun c22 => ?_)
  · have h := pq_it c22 h
    refine pv_iconst (v := 0) C dX11_answers_41 (by decide) ?_
    exact pv_zret C hr rfl hlk h dX11_answers_42
  · have h := pq_if c22 h
    refine pv_aload_n C 0 dX11_answers_28 rfl rfl ?_
    refine pv_iload_n C 1 dX11_answers_29 rfl rfl ?_
    refine pv_iload_n C 2 dX11_answers_30 rfl rfl ?_
    obtain ⟨v23, S24, e25, h⟩ := pq_bs h
    refine pv_calliV C (ci := 11) rfl (by decide) k0_ [.int x1, .int x2] (fun sz => r_X11_isAnswer W0 k0_ e25 sz) (cwV 2 C.1.2.2.2.2 gX11_answers_X11_isAnswer rfl rfl rfl (by decide +kernel) ⟨Nat.le_of_ble_eq_true rfl, Nat.le_of_ble_eq_true rfl⟩) rfl rfl (Nat.le_of_ble_eq_true rfl) dX11_answers_31 ⟨Nat.le_of_ble_eq_true rfl, Nat.le_of_ble_eq_true rfl⟩ ?_
    refine pv_if_eq (tgt := 41) C dX11_answers_34 (by decide) (fun c26 => ?_) (fun c26 => ?_)
    · have h := pq_it c26 h
      refine pv_iconst (v := 0) C dX11_answers_41 (by decide) ?_
      exact pv_zret C hr rfl hlk h dX11_answers_42
    · have h := pq_if c26 h
      refine pv_iconst (v := 1) C dX11_answers_37 (by decide) ?_
      refine pv_goto (tgt := 42) C dX11_answers_38 (by decide) ?_
      exact pv_zret C hr rfl hlk h dX11_answers_42
set_option maxHeartbeats 4000000 in
set_option maxRecDepth 100000 in
theorem r_X11_answers {l : Launch} {D : va_G} {y : pq_Y} {G : pq_G} (W0 : pq_WT G) {S : pq_N} {a0 : Nat} {x1 : Int32} {x2 : Int32} (k0_ : pq_ok G 11 a0) {r : Int32} {S1 : pq_N} (h : F_X11_answers G S a0 x1 x2 = some (r, S1)) (sz : Nat) : Met l yX11_answers wsX11_answers ({ frames := 3, cells := 0, slots := 0, locals := 68 } : Room) (pq_P D y G S sz [.ref a0, .int x1, .int x2]) (pq_Qi D y G sz r S1) 0 0 (pq_A G sz) := by
  refine pq_enter RX11 3 (by decide) rfl rfl rfl ?_
  intro p e s m below meth c C hsz hr hlk
  subst hsz
  unfold F_X11_answers at h
  refine pv_sub (lo1 := [(0, .ref a0), (1, .int x1), (2, .int x2)]) [0, 1, 2] rfl ?_
  refine pv_aload_n C 0 dX11_answers_0 rfl rfl ?_
  refine pv_aload_n C 0 dX11_answers_1 rfl rfl ?_
  refine pv_iload_n C 1 dX11_answers_2 rfl rfl ?_
  obtain ⟨v11, S12, e13, h⟩ := pq_bs h
  refine pv_calliV C (ci := 11) rfl (by decide) k0_ [.int x1] (fun sz => r_X11_isPamphlet W0 k0_ e13 sz) (cwV 1 C.1.2.2.2.2 gX11_answers_X11_isPamphlet rfl rfl rfl (by decide +kernel) ⟨Nat.le_of_ble_eq_true rfl, Nat.le_of_ble_eq_true rfl⟩) rfl rfl (Nat.le_of_ble_eq_true rfl) dX11_answers_3 ⟨Nat.le_of_ble_eq_true rfl, Nat.le_of_ble_eq_true rfl⟩ ?_
  refine pv_if_eq (tgt := 21) C dX11_answers_6 (by decide) (fun c14 => ?_) (fun c14 => ?_)
  · have h := pq_it c14 h
    refine pv_iconst (v := 1) C dX11_answers_21 (by decide) ?_
    refine pv_sub [0, 1, 2] rfl ?_
    exact r_X11_answers_b22 W0 C hr hlk _ _ _ _ _ _ k0_ k0_ h
  · have h := pq_if c14 h
    refine pv_aload_n C 0 dX11_answers_9 rfl rfl ?_
    refine pv_iload_n C 2 dX11_answers_10 rfl rfl ?_
    obtain ⟨v15, S16, e17, h⟩ := pq_bs h
    refine pv_calliV C (ci := 11) rfl (by decide) k0_ [.int x2] (fun sz => r_X11_isPamphlet W0 k0_ e17 sz) (cwV 1 C.1.2.2.2.2 gX11_answers_X11_isPamphlet rfl rfl rfl (by decide +kernel) ⟨Nat.le_of_ble_eq_true rfl, Nat.le_of_ble_eq_true rfl⟩) rfl rfl (Nat.le_of_ble_eq_true rfl) dX11_answers_11 ⟨Nat.le_of_ble_eq_true rfl, Nat.le_of_ble_eq_true rfl⟩ ?_
    refine pv_if_eq (tgt := 21) C dX11_answers_14 (by decide) (fun c18 => ?_) (fun c18 => ?_)
    · have h := pq_it c18 h
      refine pv_iconst (v := 1) C dX11_answers_21 (by decide) ?_
      refine pv_sub [0, 1, 2] rfl ?_
      exact r_X11_answers_b22 W0 C hr hlk _ _ _ _ _ _ k0_ k0_ h
    · have h := pq_if c18 h
      refine pv_iconst (v := 0) C dX11_answers_17 (by decide) ?_
      refine pv_goto (tgt := 22) C dX11_answers_18 (by decide) ?_
      refine pv_sub [0, 1, 2] rfl ?_
      exact r_X11_answers_b22 W0 C hr hlk _ _ _ _ _ _ k0_ k0_ h
def F_X11_append_b30 (G : pq_G)  (S : pq_N) (a0 : Nat) (x1 : Int32) (t0 : Int32) (t1 : Nat) : Option (Int32 × pq_N) := (pq_bd (F_X11_holds G S t1 t0) fun v16 S17 => (if v16 = (0 : Int32) then some ((0 : Int32), S17) else (if (S17.1 a0 7) < 0 ∨ pq_n G (pq_r G a0 6) ≤ (Int32.toNatClampNeg (S17.1 a0 7)) then none else (pq_lt (pq_wi S17 (pq_r G a0 6) (Int32.toNatClampNeg (S17.1 a0 7)) x1) fun S22 => (pq_lt (pq_wi S22 a0 7 ((S22.1 a0 7) + (1 : Int32))) fun S24 => some ((S24.1 a0 7), S24))))))
def F_X11_append (G : pq_G) (S : pq_N) (a0 : Nat) (x1 : Int32) : Option (Int32 × pq_N) := (pq_bd (F_X11_in G S x1 (32 : Int32) (126 : Int32)) fun v11 S12 => (if v11 = (0 : Int32) then F_X11_append_b30 G S12 a0 x1 (1 : Int32) a0 else (if (S12.1 a0 7) = (100 : Int32) then F_X11_append_b30 G S12 a0 x1 (2 : Int32) a0 else F_X11_append_b30 G S12 a0 x1 (0 : Int32) a0)))
theorem inu_X11_append_11 : ∀ w ∈ u_ws RX11 TX11 24, w ∈ wsX11_append := pq_inu 12 rfl
set_option maxHeartbeats 4000000 in
set_option maxRecDepth 100000 in
theorem r_X11_append_b30 {p : Program} {l : Launch} {e : Env} {s : State} {m : MethodId} {av : Array Value} {below : List Frame} {meth : Method} {c : Code} {D : va_G} {y : pq_Y} {G : pq_G} {r : Int32} {S1 : pq_N} (W0 : pq_WT G) (C : pq_C p s m av c D y RX11 wsX11_append cX11_append 2) (hr : meth.sig.returnType = (some .int)) (hlk : meth.locks = false) : ∀ (S : pq_N) (a0 : Nat) (x1 : Int32) (t0 : Int32) (t1 : Nat), pq_ok G 11 a0 → pq_ok G 11 t1 → F_X11_append_b30 G S a0 x1 t0 t1 = some (r, S1) → pq_V p l e (headSpec wsX11_append ({ frames := 1, cells := 0, slots := 0, locals := 22 } : Room)).room s m av below meth c 0 0 (MQ below (pq_Qi D y G s.heap.size r S1) av s 0 0 (pq_A G s.heap.size)) D y 2 (pq_A G s.heap.size) (fun _ => True) G S 30 [(0, .ref a0), (1, .int x1)] [.int t0, .ref t1] := by
  intro S a0 x1 t0 t1 k0_ kt1_ h
  unfold F_X11_append_b30 at h
  obtain ⟨v16, S17, e18, h⟩ := pq_bs h
  refine pv_calliV C (ci := 11) rfl (by decide) kt1_ [.int t0] (fun sz => r_X11_holds W0 kt1_ e18 sz) (cwV 1 C.1.2.2.2.2 gX11_append_X11_holds rfl rfl rfl (by decide +kernel) ⟨Nat.le_of_ble_eq_true rfl, Nat.le_of_ble_eq_true rfl⟩) rfl rfl (Nat.le_of_ble_eq_true rfl) dX11_append_30 ⟨Nat.le_of_ble_eq_true rfl, Nat.le_of_ble_eq_true rfl⟩ ?_
  refine pv_if_ne (tgt := 38) C dX11_append_33 (by decide) (fun c19 => ?_) (fun c19 => ?_)
  · have h := pq_if c19 h
    refine pv_aload_n C 0 dX11_append_38 rfl rfl ?_
    have k20 := pq_wt (k := 6) W0 k0_ rfl
    refine pv_getr (T := TX11) (N := 24) C 6 inu_X11_append_11 rfl (by decide) (by decide) (List.mem_of_getElem? (i := 2) rfl) rfl k0_ k20.1 dX11_append_39 ?_
    refine pv_aload_n C 0 dX11_append_42 rfl rfl ?_
    refine pv_geti (T := TX11) (N := 24) C 7 inu_X11_append_11 rfl (by decide) (by decide) (List.mem_of_getElem? (i := 1) rfl) rfl k0_ dX11_append_43 ?_
    refine pv_iload_n C 1 dX11_append_46 rfl rfl ?_
    obtain ⟨g21, h⟩ := pq_gd h
    refine pv_iastore C k20.2 g21 dX11_append_47 ?_
    refine pv_nm (fun S22 e23 => ?_)
    have h := pq_ls e23 h
    refine pv_aload_n C 0 dX11_append_48 rfl rfl ?_
    refine pv_dup C dX11_append_49 rfl ?_
    refine pv_geti (T := TX11) (N := 24) C 7 inu_X11_append_11 rfl (by decide) (by decide) (List.mem_of_getElem? (i := 1) rfl) rfl k0_ dX11_append_50 ?_
    refine pv_iconst (v := 1) C dX11_append_53 (by decide) ?_
    refine pv_iadd C dX11_append_54 ?_
    refine pv_put (T := TX11) (N := 24) (ty := .int) C 7 inu_X11_append_11 rfl (by decide) tyX11 tyX11_ok nmX11 (by decide) (List.mem_of_getElem? (i := 1) rfl) rfl k0_ rfl (by decide +kernel) rfl rfl dX11_append_55 ?_
    refine pv_nm (fun S24 e25 => ?_)
    have h := pq_ls e25 h
    refine pv_aload_n C 0 dX11_append_58 rfl rfl ?_
    refine pv_geti (T := TX11) (N := 24) C 7 inu_X11_append_11 rfl (by decide) (by decide) (List.mem_of_getElem? (i := 1) rfl) rfl k0_ dX11_append_59 ?_
    exact pv_iret C hr hlk h dX11_append_62
  · have h := pq_it c19 h
    refine pv_iconst (v := 0) C dX11_append_36 (by decide) ?_
    exact pv_iret C hr hlk h dX11_append_37
set_option maxHeartbeats 4000000 in
set_option maxRecDepth 100000 in
theorem r_X11_append {l : Launch} {D : va_G} {y : pq_Y} {G : pq_G} (W0 : pq_WT G) {S : pq_N} {a0 : Nat} {x1 : Int32} (k0_ : pq_ok G 11 a0) {r : Int32} {S1 : pq_N} (h : F_X11_append G S a0 x1 = some (r, S1)) (sz : Nat) : Met l yX11_append wsX11_append ({ frames := 1, cells := 0, slots := 0, locals := 22 } : Room) (pq_P D y G S sz [.ref a0, .int x1]) (pq_Qi D y G sz r S1) 0 0 (pq_A G sz) := by
  refine pq_enter RX11 2 (by decide) rfl rfl rfl ?_
  intro p e s m below meth c C hsz hr hlk
  subst hsz
  unfold F_X11_append at h
  refine pv_sub (lo1 := [(0, .ref a0), (1, .int x1)]) [0, 1] rfl ?_
  refine pv_aload_n C 0 dX11_append_0 rfl rfl ?_
  refine pv_iload_n C 1 dX11_append_1 rfl rfl ?_
  refine pv_bipush (v := 32) C dX11_append_2 (by decide) ?_
  refine pv_bipush (v := 126) C dX11_append_4 (by decide) ?_
  obtain ⟨v11, S12, e13, h⟩ := pq_bs h
  refine pv_calliS C [.int x1, .int (32 : Int32), .int (126 : Int32)] (fun sz => r_X11_in W0  e13 sz) (va_cwS 3 C.1.2.2.2.2 gX11_append_X11_in rfl rfl rfl (by decide +kernel) ⟨Nat.le_of_ble_eq_true rfl, Nat.le_of_ble_eq_true rfl⟩) rfl rfl (Nat.le_of_ble_eq_true rfl) dX11_append_6 ⟨Nat.le_of_ble_eq_true rfl, Nat.le_of_ble_eq_true rfl⟩ ?_
  refine pv_if_ne (tgt := 16) C dX11_append_9 (by decide) (fun c14 => ?_) (fun c14 => ?_)
  · have h := pq_if c14 h
    refine pv_aload_n C 0 dX11_append_16 rfl rfl ?_
    refine pv_geti (T := TX11) (N := 24) C 7 inu_X11_append_11 rfl (by decide) (by decide) (List.mem_of_getElem? (i := 1) rfl) rfl k0_ dX11_append_17 ?_
    refine pv_bipush (v := 100) C dX11_append_20 (by decide) ?_
    refine pv_icmp_ne (tgt := 29) C dX11_append_22 (by decide) (fun c15 => ?_) (fun c15 => ?_)
    · have h := pq_if c15 h
      refine pv_iconst (v := 0) C dX11_append_29 (by decide) ?_
      refine pv_sub [0, 1] rfl ?_
      exact r_X11_append_b30 W0 C hr hlk _ _ _ _ _ k0_ k0_ h
    · have h := pq_it c15 h
      refine pv_iconst (v := 2) C dX11_append_25 (by decide) ?_
      refine pv_goto (tgt := 30) C dX11_append_26 (by decide) ?_
      refine pv_sub [0, 1] rfl ?_
      exact r_X11_append_b30 W0 C hr hlk _ _ _ _ _ k0_ k0_ h
  · have h := pq_it c14 h
    refine pv_iconst (v := 1) C dX11_append_12 (by decide) ?_
    refine pv_goto (tgt := 30) C dX11_append_13 (by decide) ?_
    refine pv_sub [0, 1] rfl ?_
    exact r_X11_append_b30 W0 C hr hlk _ _ _ _ _ k0_ k0_ h
def F_X11_told_b14 (G : pq_G)  (S : pq_N) (a0 : Nat) (x1 : Int32) (x2 : Int32) (t0 : Int32) (t1 : Nat) : Option (Int32 × pq_N) := (pq_bd (F_X11_holds G S t1 t0) fun v15 S16 => (if v15 = (0 : Int32) then some ((0 : Int32), S16) else (pq_bd (F_X11_get G S16 a0 x1 x2) fun v19 S20 => some (v19, S20))))
def F_X11_told (G : pq_G) (S : pq_N) (a0 : Nat) (x1 : Int32) (x2 : Int32) : Option (Int32 × pq_N) := (pq_bd (F_X11_isPamphlet G S a0 x1) fun v11 S12 => (if v11 = (0 : Int32) then F_X11_told_b14 G S12 a0 x1 x2 (1 : Int32) a0 else F_X11_told_b14 G S12 a0 x1 x2 (0 : Int32) a0))
set_option maxHeartbeats 4000000 in
set_option maxRecDepth 100000 in
theorem r_X11_told_b14 {p : Program} {l : Launch} {e : Env} {s : State} {m : MethodId} {av : Array Value} {below : List Frame} {meth : Method} {c : Code} {D : va_G} {y : pq_Y} {G : pq_G} {r : Int32} {S1 : pq_N} (W0 : pq_WT G) (C : pq_C p s m av c D y RX11 wsX11_told cX11_told 3) (hr : meth.sig.returnType = (some .int)) (hlk : meth.locks = false) : ∀ (S : pq_N) (a0 : Nat) (x1 : Int32) (x2 : Int32) (t0 : Int32) (t1 : Nat), pq_ok G 11 a0 → pq_ok G 11 t1 → F_X11_told_b14 G S a0 x1 x2 t0 t1 = some (r, S1) → pq_V p l e (headSpec wsX11_told ({ frames := 2, cells := 0, slots := 0, locals := 43 } : Room)).room s m av below meth c 0 0 (MQ below (pq_Qi D y G s.heap.size r S1) av s 0 0 (pq_A G s.heap.size)) D y 3 (pq_A G s.heap.size) (fun _ => True) G S 14 [(0, .ref a0), (1, .int x1), (2, .int x2)] [.int t0, .ref t1] := by
  intro S a0 x1 x2 t0 t1 k0_ kt1_ h
  unfold F_X11_told_b14 at h
  obtain ⟨v15, S16, e17, h⟩ := pq_bs h
  refine pv_calliV C (ci := 11) rfl (by decide) kt1_ [.int t0] (fun sz => r_X11_holds W0 kt1_ e17 sz) (cwV 1 C.1.2.2.2.2 gX11_told_X11_holds rfl rfl rfl (by decide +kernel) ⟨Nat.le_of_ble_eq_true rfl, Nat.le_of_ble_eq_true rfl⟩) rfl rfl (Nat.le_of_ble_eq_true rfl) dX11_told_14 ⟨Nat.le_of_ble_eq_true rfl, Nat.le_of_ble_eq_true rfl⟩ ?_
  refine pv_if_eq (tgt := 29) C dX11_told_17 (by decide) (fun c18 => ?_) (fun c18 => ?_)
  · have h := pq_it c18 h
    refine pv_iconst (v := 0) C dX11_told_29 (by decide) ?_
    exact pv_iret C hr hlk h dX11_told_30
  · have h := pq_if c18 h
    refine pv_aload_n C 0 dX11_told_20 rfl rfl ?_
    refine pv_iload_n C 1 dX11_told_21 rfl rfl ?_
    refine pv_iload_n C 2 dX11_told_22 rfl rfl ?_
    obtain ⟨v19, S20, e21, h⟩ := pq_bs h
    refine pv_calliV C (ci := 11) rfl (by decide) k0_ [.int x1, .int x2] (fun sz => r_X11_get W0 k0_ e21 sz) (cwV 2 C.1.2.2.2.2 gX11_told_X11_get rfl rfl rfl (by decide +kernel) ⟨Nat.le_of_ble_eq_true rfl, Nat.le_of_ble_eq_true rfl⟩) rfl rfl (Nat.le_of_ble_eq_true rfl) dX11_told_23 ⟨Nat.le_of_ble_eq_true rfl, Nat.le_of_ble_eq_true rfl⟩ ?_
    refine pv_goto (tgt := 30) C dX11_told_26 (by decide) ?_
    exact pv_iret C hr hlk h dX11_told_30
set_option maxHeartbeats 4000000 in
set_option maxRecDepth 100000 in
theorem r_X11_told {l : Launch} {D : va_G} {y : pq_Y} {G : pq_G} (W0 : pq_WT G) {S : pq_N} {a0 : Nat} {x1 : Int32} {x2 : Int32} (k0_ : pq_ok G 11 a0) {r : Int32} {S1 : pq_N} (h : F_X11_told G S a0 x1 x2 = some (r, S1)) (sz : Nat) : Met l yX11_told wsX11_told ({ frames := 2, cells := 0, slots := 0, locals := 43 } : Room) (pq_P D y G S sz [.ref a0, .int x1, .int x2]) (pq_Qi D y G sz r S1) 0 0 (pq_A G sz) := by
  refine pq_enter RX11 3 (by decide) rfl rfl rfl ?_
  intro p e s m below meth c C hsz hr hlk
  subst hsz
  unfold F_X11_told at h
  refine pv_sub (lo1 := [(0, .ref a0), (1, .int x1), (2, .int x2)]) [0, 1, 2] rfl ?_
  refine pv_aload_n C 0 dX11_told_0 rfl rfl ?_
  refine pv_aload_n C 0 dX11_told_1 rfl rfl ?_
  refine pv_iload_n C 1 dX11_told_2 rfl rfl ?_
  obtain ⟨v11, S12, e13, h⟩ := pq_bs h
  refine pv_calliV C (ci := 11) rfl (by decide) k0_ [.int x1] (fun sz => r_X11_isPamphlet W0 k0_ e13 sz) (cwV 1 C.1.2.2.2.2 gX11_told_X11_isPamphlet rfl rfl rfl (by decide +kernel) ⟨Nat.le_of_ble_eq_true rfl, Nat.le_of_ble_eq_true rfl⟩) rfl rfl (Nat.le_of_ble_eq_true rfl) dX11_told_3 ⟨Nat.le_of_ble_eq_true rfl, Nat.le_of_ble_eq_true rfl⟩ ?_
  refine pv_if_eq (tgt := 13) C dX11_told_6 (by decide) (fun c14 => ?_) (fun c14 => ?_)
  · have h := pq_it c14 h
    refine pv_iconst (v := 1) C dX11_told_13 (by decide) ?_
    refine pv_sub [0, 1, 2] rfl ?_
    exact r_X11_told_b14 W0 C hr hlk _ _ _ _ _ _ k0_ k0_ h
  · have h := pq_if c14 h
    refine pv_iconst (v := 0) C dX11_told_9 (by decide) ?_
    refine pv_goto (tgt := 14) C dX11_told_10 (by decide) ?_
    refine pv_sub [0, 1, 2] rfl ?_
    exact r_X11_told_b14 W0 C hr hlk _ _ _ _ _ _ k0_ k0_ h
def F_X11_authorOf (G : pq_G) (S : pq_N) (a0 : Nat) (x1 : Int32) : Option (Int32 × pq_N) := (pq_bd (F_X11_told G S a0 x1 (2 : Int32)) fun v11 S12 => some (v11, S12))
set_option maxHeartbeats 4000000 in
set_option maxRecDepth 100000 in
theorem r_X11_authorOf {l : Launch} {D : va_G} {y : pq_Y} {G : pq_G} (W0 : pq_WT G) {S : pq_N} {a0 : Nat} {x1 : Int32} (k0_ : pq_ok G 11 a0) {r : Int32} {S1 : pq_N} (h : F_X11_authorOf G S a0 x1 = some (r, S1)) (sz : Nat) : Met l yX11_authorOf wsX11_authorOf ({ frames := 3, cells := 0, slots := 0, locals := 65 } : Room) (pq_P D y G S sz [.ref a0, .int x1]) (pq_Qi D y G sz r S1) 0 0 (pq_A G sz) := by
  refine pq_enter RX11 2 (by decide) rfl rfl rfl ?_
  intro p e s m below meth c C hsz hr hlk
  subst hsz
  unfold F_X11_authorOf at h
  refine pv_sub (lo1 := [(0, .ref a0), (1, .int x1)]) [0, 1] rfl ?_
  refine pv_aload_n C 0 dX11_authorOf_0 rfl rfl ?_
  refine pv_iload_n C 1 dX11_authorOf_1 rfl rfl ?_
  refine pv_iconst (v := 2) C dX11_authorOf_2 (by decide) ?_
  obtain ⟨v11, S12, e13, h⟩ := pq_bs h
  refine pv_calliV C (ci := 11) rfl (by decide) k0_ [.int x1, .int (2 : Int32)] (fun sz => r_X11_told W0 k0_ e13 sz) (cwV 2 C.1.2.2.2.2 gX11_authorOf_X11_told rfl rfl rfl (by decide +kernel) ⟨Nat.le_of_ble_eq_true rfl, Nat.le_of_ble_eq_true rfl⟩) rfl rfl (Nat.le_of_ble_eq_true rfl) dX11_authorOf_3 ⟨Nat.le_of_ble_eq_true rfl, Nat.le_of_ble_eq_true rfl⟩ ?_
  exact pv_iret C hr hlk h dX11_authorOf_6
def F_X11_begin (G : pq_G) (S : pq_N) (a0 : Nat) (x1 : Int32) (x2 : Int32) : Option (Int32 × pq_N) := (pq_bd (F_X11_get G S a0 x1 (((6 : Int32) + ((3 : Int32) * x2)) + (1 : Int32))) fun v11 S12 => some (v11, S12))
set_option maxHeartbeats 4000000 in
set_option maxRecDepth 100000 in
theorem r_X11_begin {l : Launch} {D : va_G} {y : pq_Y} {G : pq_G} (W0 : pq_WT G) {S : pq_N} {a0 : Nat} {x1 : Int32} {x2 : Int32} (k0_ : pq_ok G 11 a0) {r : Int32} {S1 : pq_N} (h : F_X11_begin G S a0 x1 x2 = some (r, S1)) (sz : Nat) : Met l yX11_begin wsX11_begin ({ frames := 1, cells := 0, slots := 0, locals := 22 } : Room) (pq_P D y G S sz [.ref a0, .int x1, .int x2]) (pq_Qi D y G sz r S1) 0 0 (pq_A G sz) := by
  refine pq_enter RX11 3 (by decide) rfl rfl rfl ?_
  intro p e s m below meth c C hsz hr hlk
  subst hsz
  unfold F_X11_begin at h
  refine pv_sub (lo1 := [(0, .ref a0), (1, .int x1), (2, .int x2)]) [0, 1, 2] rfl ?_
  refine pv_aload_n C 0 dX11_begin_0 rfl rfl ?_
  refine pv_iload_n C 1 dX11_begin_1 rfl rfl ?_
  refine pv_bipush (v := 6) C dX11_begin_2 (by decide) ?_
  refine pv_iconst (v := 3) C dX11_begin_4 (by decide) ?_
  refine pv_iload_n C 2 dX11_begin_5 rfl rfl ?_
  refine pv_imul C dX11_begin_6 ?_
  refine pv_iadd C dX11_begin_7 ?_
  refine pv_iconst (v := 1) C dX11_begin_8 (by decide) ?_
  refine pv_iadd C dX11_begin_9 ?_
  obtain ⟨v11, S12, e13, h⟩ := pq_bs h
  refine pv_calliV C (ci := 11) rfl (by decide) k0_ [.int x1, .int (((6 : Int32) + ((3 : Int32) * x2)) + (1 : Int32))] (fun sz => r_X11_get W0 k0_ e13 sz) (cwV 2 C.1.2.2.2.2 gX11_begin_X11_get rfl rfl rfl (by decide +kernel) ⟨Nat.le_of_ble_eq_true rfl, Nat.le_of_ble_eq_true rfl⟩) rfl rfl (Nat.le_of_ble_eq_true rfl) dX11_begin_10 ⟨Nat.le_of_ble_eq_true rfl, Nat.le_of_ble_eq_true rfl⟩ ?_
  exact pv_iret C hr hlk h dX11_begin_13
def F_X11_isQuote (G : pq_G) (S : pq_N) (a0 : Nat) (x1 : Int32) (x2 : Int32) : Option (Int32 × pq_N) := (pq_bd (F_X11_isPamphlet G S a0 x1) fun v11 S12 => (if v11 = (0 : Int32) then some ((0 : Int32), S12) else (pq_bd (F_X11_get G S12 a0 x1 (5 : Int32)) fun v15 S16 => (pq_bd (F_X11_in G S16 x2 (0 : Int32) (v15 - (1 : Int32))) fun v18 S19 => (if v18 = (0 : Int32) then some ((0 : Int32), S19) else some ((1 : Int32), S19))))))
set_option maxHeartbeats 4000000 in
set_option maxRecDepth 100000 in
theorem r_X11_isQuote {l : Launch} {D : va_G} {y : pq_Y} {G : pq_G} (W0 : pq_WT G) {S : pq_N} {a0 : Nat} {x1 : Int32} {x2 : Int32} (k0_ : pq_ok G 11 a0) {r : Int32} {S1 : pq_N} (h : F_X11_isQuote G S a0 x1 x2 = some (r, S1)) (sz : Nat) : Met l yX11_isQuote wsX11_isQuote ({ frames := 2, cells := 0, slots := 0, locals := 43 } : Room) (pq_P D y G S sz [.ref a0, .int x1, .int x2]) (pq_Qi D y G sz r S1) 0 0 (pq_A G sz) := by
  refine pq_enter RX11 3 (by decide) rfl rfl rfl ?_
  intro p e s m below meth c C hsz hr hlk
  subst hsz
  unfold F_X11_isQuote at h
  refine pv_sub (lo1 := [(0, .ref a0), (1, .int x1), (2, .int x2)]) [0, 1, 2] rfl ?_
  refine pv_aload_n C 0 dX11_isQuote_0 rfl rfl ?_
  refine pv_iload_n C 1 dX11_isQuote_1 rfl rfl ?_
  obtain ⟨v11, S12, e13, h⟩ := pq_bs h
  refine pv_calliV C (ci := 11) rfl (by decide) k0_ [.int x1] (fun sz => r_X11_isPamphlet W0 k0_ e13 sz) (cwV 1 C.1.2.2.2.2 gX11_isQuote_X11_isPamphlet rfl rfl rfl (by decide +kernel) ⟨Nat.le_of_ble_eq_true rfl, Nat.le_of_ble_eq_true rfl⟩) rfl rfl (Nat.le_of_ble_eq_true rfl) dX11_isQuote_2 ⟨Nat.le_of_ble_eq_true rfl, Nat.le_of_ble_eq_true rfl⟩ ?_
  refine pv_if_eq (tgt := 28) C dX11_isQuote_5 (by decide) (fun c14 => ?_) (fun c14 => ?_)
  · have h := pq_it c14 h
    refine pv_iconst (v := 0) C dX11_isQuote_28 (by decide) ?_
    exact pv_zret C hr rfl hlk h dX11_isQuote_29
  · have h := pq_if c14 h
    refine pv_iload_n C 2 dX11_isQuote_8 rfl rfl ?_
    refine pv_iconst (v := 0) C dX11_isQuote_9 (by decide) ?_
    refine pv_aload_n C 0 dX11_isQuote_10 rfl rfl ?_
    refine pv_iload_n C 1 dX11_isQuote_11 rfl rfl ?_
    refine pv_iconst (v := 5) C dX11_isQuote_12 (by decide) ?_
    obtain ⟨v15, S16, e17, h⟩ := pq_bs h
    refine pv_calliV C (ci := 11) rfl (by decide) k0_ [.int x1, .int (5 : Int32)] (fun sz => r_X11_get W0 k0_ e17 sz) (cwV 2 C.1.2.2.2.2 gX11_isQuote_X11_get rfl rfl rfl (by decide +kernel) ⟨Nat.le_of_ble_eq_true rfl, Nat.le_of_ble_eq_true rfl⟩) rfl rfl (Nat.le_of_ble_eq_true rfl) dX11_isQuote_13 ⟨Nat.le_of_ble_eq_true rfl, Nat.le_of_ble_eq_true rfl⟩ ?_
    refine pv_iconst (v := 1) C dX11_isQuote_16 (by decide) ?_
    refine pv_isub C dX11_isQuote_17 ?_
    obtain ⟨v18, S19, e20, h⟩ := pq_bs h
    refine pv_calliS C [.int x2, .int (0 : Int32), .int (v15 - (1 : Int32))] (fun sz => r_X11_in W0  e20 sz) (va_cwS 3 C.1.2.2.2.2 gX11_isQuote_X11_in rfl rfl rfl (by decide +kernel) ⟨Nat.le_of_ble_eq_true rfl, Nat.le_of_ble_eq_true rfl⟩) rfl rfl (Nat.le_of_ble_eq_true rfl) dX11_isQuote_18 ⟨Nat.le_of_ble_eq_true rfl, Nat.le_of_ble_eq_true rfl⟩ ?_
    refine pv_if_eq (tgt := 28) C dX11_isQuote_21 (by decide) (fun c21 => ?_) (fun c21 => ?_)
    · have h := pq_it c21 h
      refine pv_iconst (v := 0) C dX11_isQuote_28 (by decide) ?_
      exact pv_zret C hr rfl hlk h dX11_isQuote_29
    · have h := pq_if c21 h
      refine pv_iconst (v := 1) C dX11_isQuote_24 (by decide) ?_
      refine pv_goto (tgt := 29) C dX11_isQuote_25 (by decide) ?_
      exact pv_zret C hr rfl hlk h dX11_isQuote_29
def F_X11_isTold (G : pq_G) (S : pq_N) (a0 : Nat) (x1 : Int32) (x2 : Int32) : Option (Int32 × pq_N) := (pq_bd (F_X11_isQuote G S a0 x1 x2) fun v11 S12 => (if v11 = (0 : Int32) then (pq_bd (F_X11_holds G S12 a0 (1 : Int32)) fun v15 S16 => (if ¬ (v15 = 0 ∨ v15 = 1) then none else some (v15, S16))) else (pq_bd (F_X11_holds G S12 a0 (0 : Int32)) fun v19 S20 => (if ¬ (v19 = 0 ∨ v19 = 1) then none else some (v19, S20)))))
set_option maxHeartbeats 4000000 in
set_option maxRecDepth 100000 in
theorem r_X11_isTold {l : Launch} {D : va_G} {y : pq_Y} {G : pq_G} (W0 : pq_WT G) {S : pq_N} {a0 : Nat} {x1 : Int32} {x2 : Int32} (k0_ : pq_ok G 11 a0) {r : Int32} {S1 : pq_N} (h : F_X11_isTold G S a0 x1 x2 = some (r, S1)) (sz : Nat) : Met l yX11_isTold wsX11_isTold ({ frames := 3, cells := 0, slots := 0, locals := 65 } : Room) (pq_P D y G S sz [.ref a0, .int x1, .int x2]) (pq_Qi D y G sz r S1) 0 0 (pq_A G sz) := by
  refine pq_enter RX11 3 (by decide) rfl rfl rfl ?_
  intro p e s m below meth c C hsz hr hlk
  subst hsz
  unfold F_X11_isTold at h
  refine pv_sub (lo1 := [(0, .ref a0), (1, .int x1), (2, .int x2)]) [0, 1, 2] rfl ?_
  refine pv_aload_n C 0 dX11_isTold_0 rfl rfl ?_
  refine pv_aload_n C 0 dX11_isTold_1 rfl rfl ?_
  refine pv_iload_n C 1 dX11_isTold_2 rfl rfl ?_
  refine pv_iload_n C 2 dX11_isTold_3 rfl rfl ?_
  obtain ⟨v11, S12, e13, h⟩ := pq_bs h
  refine pv_calliV C (ci := 11) rfl (by decide) k0_ [.int x1, .int x2] (fun sz => r_X11_isQuote W0 k0_ e13 sz) (cwV 2 C.1.2.2.2.2 gX11_isTold_X11_isQuote rfl rfl rfl (by decide +kernel) ⟨Nat.le_of_ble_eq_true rfl, Nat.le_of_ble_eq_true rfl⟩) rfl rfl (Nat.le_of_ble_eq_true rfl) dX11_isTold_4 ⟨Nat.le_of_ble_eq_true rfl, Nat.le_of_ble_eq_true rfl⟩ ?_
  refine pv_if_eq (tgt := 14) C dX11_isTold_7 (by decide) (fun c14 => ?_) (fun c14 => ?_)
  · have h := pq_it c14 h
    refine pv_iconst (v := 1) C dX11_isTold_14 (by decide) ?_
    obtain ⟨v15, S16, e17, h⟩ := pq_bs h
    refine pv_calliV C (ci := 11) rfl (by decide) k0_ [.int (1 : Int32)] (fun sz => r_X11_holds W0 k0_ e17 sz) (cwV 1 C.1.2.2.2.2 gX11_isTold_X11_holds rfl rfl rfl (by decide +kernel) ⟨Nat.le_of_ble_eq_true rfl, Nat.le_of_ble_eq_true rfl⟩) rfl rfl (Nat.le_of_ble_eq_true rfl) dX11_isTold_15 ⟨Nat.le_of_ble_eq_true rfl, Nat.le_of_ble_eq_true rfl⟩ ?_
    obtain ⟨g18, h⟩ := pq_gd h
    exact pv_zret C hr (pq_nz (Decidable.not_not.mp g18)) hlk h dX11_isTold_18
  · have h := pq_if c14 h
    refine pv_iconst (v := 0) C dX11_isTold_10 (by decide) ?_
    refine pv_goto (tgt := 15) C dX11_isTold_11 (by decide) ?_
    obtain ⟨v19, S20, e21, h⟩ := pq_bs h
    refine pv_calliV C (ci := 11) rfl (by decide) k0_ [.int (0 : Int32)] (fun sz => r_X11_holds W0 k0_ e21 sz) (cwV 1 C.1.2.2.2.2 gX11_isTold_X11_holds rfl rfl rfl (by decide +kernel) ⟨Nat.le_of_ble_eq_true rfl, Nat.le_of_ble_eq_true rfl⟩) rfl rfl (Nat.le_of_ble_eq_true rfl) dX11_isTold_15 ⟨Nat.le_of_ble_eq_true rfl, Nat.le_of_ble_eq_true rfl⟩ ?_
    obtain ⟨g22, h⟩ := pq_gd h
    exact pv_zret C hr (pq_nz (Decidable.not_not.mp g22)) hlk h dX11_isTold_18
def F_X11_beginOf (G : pq_G) (S : pq_N) (a0 : Nat) (x1 : Int32) (x2 : Int32) : Option (Int32 × pq_N) := (pq_bd (F_X11_isTold G S a0 x1 x2) fun v11 S12 => (if v11 = (0 : Int32) then some ((0 : Int32), S12) else (pq_bd (F_X11_begin G S12 a0 x1 x2) fun v15 S16 => some (v15, S16))))
set_option maxHeartbeats 4000000 in
set_option maxRecDepth 100000 in
theorem r_X11_beginOf {l : Launch} {D : va_G} {y : pq_Y} {G : pq_G} (W0 : pq_WT G) {S : pq_N} {a0 : Nat} {x1 : Int32} {x2 : Int32} (k0_ : pq_ok G 11 a0) {r : Int32} {S1 : pq_N} (h : F_X11_beginOf G S a0 x1 x2 = some (r, S1)) (sz : Nat) : Met l yX11_beginOf wsX11_beginOf ({ frames := 4, cells := 0, slots := 0, locals := 87 } : Room) (pq_P D y G S sz [.ref a0, .int x1, .int x2]) (pq_Qi D y G sz r S1) 0 0 (pq_A G sz) := by
  refine pq_enter RX11 3 (by decide) rfl rfl rfl ?_
  intro p e s m below meth c C hsz hr hlk
  subst hsz
  unfold F_X11_beginOf at h
  refine pv_sub (lo1 := [(0, .ref a0), (1, .int x1), (2, .int x2)]) [0, 1, 2] rfl ?_
  refine pv_aload_n C 0 dX11_beginOf_0 rfl rfl ?_
  refine pv_iload_n C 1 dX11_beginOf_1 rfl rfl ?_
  refine pv_iload_n C 2 dX11_beginOf_2 rfl rfl ?_
  obtain ⟨v11, S12, e13, h⟩ := pq_bs h
  refine pv_calliV C (ci := 11) rfl (by decide) k0_ [.int x1, .int x2] (fun sz => r_X11_isTold W0 k0_ e13 sz) (cwV 2 C.1.2.2.2.2 gX11_beginOf_X11_isTold rfl rfl rfl (by decide +kernel) ⟨Nat.le_of_ble_eq_true rfl, Nat.le_of_ble_eq_true rfl⟩) rfl rfl (Nat.le_of_ble_eq_true rfl) dX11_beginOf_3 ⟨Nat.le_of_ble_eq_true rfl, Nat.le_of_ble_eq_true rfl⟩ ?_
  refine pv_if_eq (tgt := 18) C dX11_beginOf_6 (by decide) (fun c14 => ?_) (fun c14 => ?_)
  · have h := pq_it c14 h
    refine pv_iconst (v := 0) C dX11_beginOf_18 (by decide) ?_
    exact pv_iret C hr hlk h dX11_beginOf_19
  · have h := pq_if c14 h
    refine pv_aload_n C 0 dX11_beginOf_9 rfl rfl ?_
    refine pv_iload_n C 1 dX11_beginOf_10 rfl rfl ?_
    refine pv_iload_n C 2 dX11_beginOf_11 rfl rfl ?_
    obtain ⟨v15, S16, e17, h⟩ := pq_bs h
    refine pv_calliV C (ci := 11) rfl (by decide) k0_ [.int x1, .int x2] (fun sz => r_X11_begin W0 k0_ e17 sz) (cwV 2 C.1.2.2.2.2 gX11_beginOf_X11_begin rfl rfl rfl (by decide +kernel) ⟨Nat.le_of_ble_eq_true rfl, Nat.le_of_ble_eq_true rfl⟩) rfl rfl (Nat.le_of_ble_eq_true rfl) dX11_beginOf_12 ⟨Nat.le_of_ble_eq_true rfl, Nat.le_of_ble_eq_true rfl⟩ ?_
    refine pv_goto (tgt := 19) C dX11_beginOf_15 (by decide) ?_
    exact pv_iret C hr hlk h dX11_beginOf_19
def F_X11_size (G : pq_G) (S : pq_N) (a0 : Nat) (x1 : Int32) (x2 : Int32) : Option (Int32 × pq_N) := (pq_bd (F_X11_get G S a0 x1 (((6 : Int32) + ((3 : Int32) * x2)) + (2 : Int32))) fun v11 S12 => some (v11, S12))
set_option maxHeartbeats 4000000 in
set_option maxRecDepth 100000 in
theorem r_X11_size {l : Launch} {D : va_G} {y : pq_Y} {G : pq_G} (W0 : pq_WT G) {S : pq_N} {a0 : Nat} {x1 : Int32} {x2 : Int32} (k0_ : pq_ok G 11 a0) {r : Int32} {S1 : pq_N} (h : F_X11_size G S a0 x1 x2 = some (r, S1)) (sz : Nat) : Met l yX11_size wsX11_size ({ frames := 1, cells := 0, slots := 0, locals := 22 } : Room) (pq_P D y G S sz [.ref a0, .int x1, .int x2]) (pq_Qi D y G sz r S1) 0 0 (pq_A G sz) := by
  refine pq_enter RX11 3 (by decide) rfl rfl rfl ?_
  intro p e s m below meth c C hsz hr hlk
  subst hsz
  unfold F_X11_size at h
  refine pv_sub (lo1 := [(0, .ref a0), (1, .int x1), (2, .int x2)]) [0, 1, 2] rfl ?_
  refine pv_aload_n C 0 dX11_size_0 rfl rfl ?_
  refine pv_iload_n C 1 dX11_size_1 rfl rfl ?_
  refine pv_bipush (v := 6) C dX11_size_2 (by decide) ?_
  refine pv_iconst (v := 3) C dX11_size_4 (by decide) ?_
  refine pv_iload_n C 2 dX11_size_5 rfl rfl ?_
  refine pv_imul C dX11_size_6 ?_
  refine pv_iadd C dX11_size_7 ?_
  refine pv_iconst (v := 2) C dX11_size_8 (by decide) ?_
  refine pv_iadd C dX11_size_9 ?_
  obtain ⟨v11, S12, e13, h⟩ := pq_bs h
  refine pv_calliV C (ci := 11) rfl (by decide) k0_ [.int x1, .int (((6 : Int32) + ((3 : Int32) * x2)) + (2 : Int32))] (fun sz => r_X11_get W0 k0_ e13 sz) (cwV 2 C.1.2.2.2.2 gX11_size_X11_get rfl rfl rfl (by decide +kernel) ⟨Nat.le_of_ble_eq_true rfl, Nat.le_of_ble_eq_true rfl⟩) rfl rfl (Nat.le_of_ble_eq_true rfl) dX11_size_10 ⟨Nat.le_of_ble_eq_true rfl, Nat.le_of_ble_eq_true rfl⟩ ?_
  exact pv_iret C hr hlk h dX11_size_13
def F_X11_start_b2 (G : pq_G)  : Nat → pq_N → Nat → Int32 → Int32 → Option (Unit × pq_N)
  | 0, _, _, _, _ => none
  | n + 1, S, a0, x1, x2 => (if x1 < x2 then some ((), S) else (if x2 < 0 ∨ pq_n G (pq_r G a0 13) ≤ (Int32.toNatClampNeg x2) then none else (pq_lt (pq_wi S (pq_r G a0 13) (Int32.toNatClampNeg x2) x2) fun S14 => (F_X11_start_b2 G n) S14 a0 x1 (x2 + (1 : Int32)))))
def F_X11_start (G : pq_G) (S : pq_N) (a0 : Nat) (x1 : Int32) : Option (Unit × pq_N) := F_X11_start_b2 G pq_fuel S a0 x1 (0 : Int32)
theorem inu_X11_start_11 : ∀ w ∈ u_ws RX11 TX11 24, w ∈ wsX11_start := pq_inu 2 rfl
set_option maxHeartbeats 4000000 in
set_option maxRecDepth 100000 in
theorem r_X11_start_b2 {p : Program} {l : Launch} {e : Env} {s : State} {m : MethodId} {av : Array Value} {below : List Frame} {meth : Method} {c : Code} {D : va_G} {y : pq_Y} {G : pq_G} {S1 : pq_N} (W0 : pq_WT G) (C : pq_C p s m av c D y RX11 wsX11_start cX11_start 3) (hr : meth.sig.returnType = none) (hlk : meth.locks = false) (n : Nat) : ∀ (S : pq_N) (a0 : Nat) (x1 : Int32) (x2 : Int32), pq_ok G 11 a0 → F_X11_start_b2 G n S a0 x1 x2 = some ((), S1) → pq_V p l e (headSpec wsX11_start ({ frames := 0, cells := 0, slots := 0, locals := 0 } : Room)).room s m av below meth c 0 0 (MQ below (pq_Qv D y G s.heap.size S1) av s 0 0 (pq_A G s.heap.size)) D y 3 (pq_A G s.heap.size) (fun _ => True) G S 2 [(0, .ref a0), (1, .int x1), (2, .int x2)] [] := by
  induction n with
  | zero =>
    intro S a0 x1 x2 k0_ h
    rw [F_X11_start_b2.eq_1] at h; cases h
  | succ n ih =>
    intro S a0 x1 x2 k0_ h
    rw [F_X11_start_b2.eq_2] at h
    refine pv_iload_n C 2 dX11_start_2 rfl rfl ?_
    refine pv_iload_n C 1 dX11_start_3 rfl rfl ?_
    refine pv_icmp_gt (tgt := 20) C dX11_start_4 (by decide) (fun c11 => ?_) (fun c11 => ?_)
    · have h := pq_it c11 h
      exact pv_vret C hr hlk h dX11_start_20
    · have h := pq_if c11 h
      refine pv_aload_n C 0 dX11_start_7 rfl rfl ?_
      have k12 := pq_wt (k := 13) W0 k0_ rfl
      refine pv_getr (T := TX11) (N := 24) C 13 inu_X11_start_11 rfl (by decide) (by decide) (List.mem_of_getElem? (i := 1) rfl) rfl k0_ k12.1 dX11_start_8 ?_
      refine pv_iload_n C 2 dX11_start_11 rfl rfl ?_
      refine pv_iload_n C 2 dX11_start_12 rfl rfl ?_
      obtain ⟨g13, h⟩ := pq_gd h
      refine pv_iastore C k12.2 g13 dX11_start_13 ?_
      refine pv_nm (fun S14 e15 => ?_)
      have h := pq_ls e15 h
      refine pv_iinc (v := (x2 + (1 : Int32))) C 2 [(2, .int (x2 + (1 : Int32))), (0, .ref a0), (1, .int x1)] dX11_start_14 rfl rfl (by decide) rfl ?_
      refine pv_goto (tgt := 2) C dX11_start_17 (by decide) ?_
      refine pv_sub [1, 2, 0] rfl ?_
      exact ih _ _ _ _ k0_ h
set_option maxHeartbeats 4000000 in
set_option maxRecDepth 100000 in
theorem r_X11_start {l : Launch} {D : va_G} {y : pq_Y} {G : pq_G} (W0 : pq_WT G) {S : pq_N} {a0 : Nat} {x1 : Int32} (k0_ : pq_ok G 11 a0) {S1 : pq_N} (h : F_X11_start G S a0 x1 = some ((), S1)) (sz : Nat) : Met l yX11_start wsX11_start ({ frames := 0, cells := 0, slots := 0, locals := 0 } : Room) (pq_P D y G S sz [.ref a0, .int x1]) (pq_Qv D y G sz S1) 0 0 (pq_A G sz) := by
  refine pq_enter RX11 3 (by decide) rfl rfl rfl ?_
  intro p e s m below meth c C hsz hr hlk
  subst hsz
  unfold F_X11_start at h
  refine pv_sub (lo1 := [(0, .ref a0), (1, .int x1)]) [0, 1] rfl ?_
  refine pv_iconst (v := 0) C dX11_start_0 (by decide) ?_
  refine pv_istore_n C [(2, .int (0 : Int32)), (0, .ref a0), (1, .int x1)] dX11_start_1 rfl (by decide) rfl ?_
  refine pv_sub [1, 2, 0] rfl ?_
  exact r_X11_start_b2 W0 C hr hlk pq_fuel _ _ _ _ k0_ h
def F_X11_word (G : pq_G) (S : pq_N) (a0 : Nat) (x1 : Int32) (x2 : Int32) : Option (Int64 × pq_N) := (if (((60 : Int32) * x1) + x2) < 0 ∨ pq_n G (pq_r G a0 1) ≤ (Int32.toNatClampNeg (((60 : Int32) * x1) + x2)) then none else some ((S.2 (pq_r G a0 1) (Int32.toNatClampNeg (((60 : Int32) * x1) + x2))), S))
theorem inu_X11_word_11 : ∀ w ∈ u_ws RX11 TX11 24, w ∈ wsX11_word := pq_inu 2 rfl
set_option maxHeartbeats 4000000 in
set_option maxRecDepth 100000 in
theorem r_X11_word {l : Launch} {D : va_G} {y : pq_Y} {G : pq_G} (W0 : pq_WT G) {S : pq_N} {a0 : Nat} {x1 : Int32} {x2 : Int32} (k0_ : pq_ok G 11 a0) {r : Int64} {S1 : pq_N} (h : F_X11_word G S a0 x1 x2 = some (r, S1)) (sz : Nat) : Met l yX11_word wsX11_word ({ frames := 0, cells := 0, slots := 0, locals := 0 } : Room) (pq_P D y G S sz [.ref a0, .int x1, .int x2]) (pq_Ql D y G sz r S1) 0 0 (pq_A G sz) := by
  refine pq_enter RX11 3 (by decide) rfl rfl rfl ?_
  intro p e s m below meth c C hsz hr hlk
  subst hsz
  unfold F_X11_word at h
  refine pv_sub (lo1 := [(0, .ref a0), (1, .int x1), (2, .int x2)]) [0, 1, 2] rfl ?_
  refine pv_aload_n C 0 dX11_word_0 rfl rfl ?_
  have k11 := pq_wt (k := 1) W0 k0_ rfl
  refine pv_getr (T := TX11) (N := 24) C 1 inu_X11_word_11 rfl (by decide) (by decide) (List.mem_of_getElem? (i := 1) rfl) rfl k0_ k11.1 dX11_word_1 ?_
  refine pv_bipush (v := 60) C dX11_word_4 (by decide) ?_
  refine pv_iload_n C 1 dX11_word_6 rfl rfl ?_
  refine pv_imul C dX11_word_7 ?_
  refine pv_iload_n C 2 dX11_word_8 rfl rfl ?_
  refine pv_iadd C dX11_word_9 ?_
  obtain ⟨g12, h⟩ := pq_gd h
  refine pv_laload C k11.2 g12 dX11_word_10 ?_
  exact pv_lret C hr hlk h dX11_word_11
def F_X11_goOn_b118 (G : pq_G) (c42 : pq_N → Nat → Int32 → Int32 → Int64 → Int32 → Int32 → Int32 → Option (Unit × pq_N)) (S : pq_N) (a0 : Nat) (x1 : Int32) (x2 : Int32) (x3 : Int64) (x6 : Int32) (x8 : Int32) (x9 : Int32) (t0 : Int32) : Option (Unit × pq_N) := (if x8 < 0 ∨ pq_n G (pq_r G a0 13) ≤ (Int32.toNatClampNeg x8) then none else (pq_lt (S.1 (pq_r G a0 13) (Int32.toNatClampNeg x8)) fun i47 => (if (t0 + (1 : Int32)) ≤ x9 then (if x8 < 0 ∨ pq_n G (pq_r G a0 13) ≤ (Int32.toNatClampNeg x8) then none else (pq_lt (pq_wi S (pq_r G a0 13) (Int32.toNatClampNeg x8) (t0 + (1 : Int32))) fun S52 => c42 S52 a0 x1 x2 x3 x6 i47 (x8 + (1 : Int32)))) else (if x8 < 0 ∨ pq_n G (pq_r G a0 13) ≤ (Int32.toNatClampNeg x8) then none else (pq_lt (pq_wi S (pq_r G a0 13) (Int32.toNatClampNeg x8) x9) fun S55 => c42 S55 a0 x1 x2 x3 x6 i47 (x8 + (1 : Int32)))))))
def F_X11_goOn_b77 (G : pq_G) (c42 : pq_N → Nat → Int32 → Int32 → Int64 → Int32 → Int32 → Int32 → Option (Unit × pq_N)) (S : pq_N) (a0 : Nat) (x1 : Int32) (x2 : Int32) (x3 : Int64) (x6 : Int32) (x8 : Int32) (t0 : Int32) (t1 : Int32) : Option (Unit × pq_N) := (if x8 < 0 ∨ pq_n G (pq_r G a0 13) ≤ (Int32.toNatClampNeg x8) then none else (if (x8 - (1 : Int32)) < 0 ∨ pq_n G (pq_r G a0 13) ≤ (Int32.toNatClampNeg (x8 - (1 : Int32))) then none else (if (S.1 (pq_r G a0 13) (Int32.toNatClampNeg (x8 - (1 : Int32)))) ≤ (S.1 (pq_r G a0 13) (Int32.toNatClampNeg x8)) then (if (x8 - (1 : Int32)) < 0 ∨ pq_n G (pq_r G a0 13) ≤ (Int32.toNatClampNeg (x8 - (1 : Int32))) then none else F_X11_goOn_b118 G c42 S a0 x1 x2 x3 x6 x8 (t1 + t0) (S.1 (pq_r G a0 13) (Int32.toNatClampNeg (x8 - (1 : Int32))))) else (if x8 < 0 ∨ pq_n G (pq_r G a0 13) ≤ (Int32.toNatClampNeg x8) then none else F_X11_goOn_b118 G c42 S a0 x1 x2 x3 x6 x8 (t1 + t0) (S.1 (pq_r G a0 13) (Int32.toNatClampNeg x8))))))
def F_X11_goOn_b42 (G : pq_G)  : Nat → pq_N → Nat → Int32 → Int32 → Int64 → Int32 → Int32 → Int32 → Option (Unit × pq_N)
  | 0, _, _, _, _, _, _, _, _ => none
  | n + 1, S, a0, x1, x2, x3, x6, x7, x8 => (if x6 < x8 then some ((), S) else (pq_bd (F_X11_begin G S a0 x1 x2) fun v29 S30 => (pq_bd (F_X11_word G S30 a0 x1 ((v29 + x8) - (1 : Int32))) fun v32 S33 => (if (lg_cmp v32 x3) = (0 : Int32) then F_X11_goOn_b77 G ((F_X11_goOn_b42 G n)) S33 a0 x1 x2 x3 x6 x8 (0 : Int32) x7 else F_X11_goOn_b77 G ((F_X11_goOn_b42 G n)) S33 a0 x1 x2 x3 x6 x8 (1 : Int32) x7))))
def F_X11_goOn (G : pq_G) (S : pq_N) (a0 : Nat) (x1 : Int32) (x2 : Int32) (x3 : Int64) (x5 : Int32) : Option (Unit × pq_N) := (pq_bd (F_X11_size G S a0 x1 x2) fun v11 S12 => (if (0 : Int32) < 0 ∨ pq_n G (pq_r G a0 13) ≤ (Int32.toNatClampNeg (0 : Int32)) then none else (pq_lt (S12.1 (pq_r G a0 13) (Int32.toNatClampNeg (0 : Int32))) fun i16 => (if x5 = (0 : Int32) then (if (0 : Int32) < 0 ∨ pq_n G (pq_r G a0 13) ≤ (Int32.toNatClampNeg (0 : Int32)) then none else (if (0 : Int32) < 0 ∨ pq_n G (pq_r G a0 13) ≤ (Int32.toNatClampNeg (0 : Int32)) then none else (pq_lt (pq_wi S12 (pq_r G a0 13) (Int32.toNatClampNeg (0 : Int32)) ((S12.1 (pq_r G a0 13) (Int32.toNatClampNeg (0 : Int32))) + (1 : Int32))) fun S23 => F_X11_goOn_b42 G pq_fuel S23 a0 x1 x2 x3 v11 i16 (1 : Int32)))) else (if (0 : Int32) < 0 ∨ pq_n G (pq_r G a0 13) ≤ (Int32.toNatClampNeg (0 : Int32)) then none else (pq_lt (pq_wi S12 (pq_r G a0 13) (Int32.toNatClampNeg (0 : Int32)) (0 : Int32)) fun S26 => F_X11_goOn_b42 G pq_fuel S26 a0 x1 x2 x3 v11 i16 (1 : Int32)))))))
theorem inu_X11_goOn_11 : ∀ w ∈ u_ws RX11 TX11 24, w ∈ wsX11_goOn := pq_inu 21 rfl
set_option maxHeartbeats 4000000 in
set_option maxRecDepth 100000 in
theorem r_X11_goOn_b118 {p : Program} {l : Launch} {e : Env} {s : State} {m : MethodId} {av : Array Value} {below : List Frame} {meth : Method} {c : Code} {D : va_G} {y : pq_Y} {G : pq_G} {S1 : pq_N} (W0 : pq_WT G) (C : pq_C p s m av c D y RX11 wsX11_goOn cX11_goOn 11) (hr : meth.sig.returnType = none) (hlk : meth.locks = false) {c42 : pq_N → Nat → Int32 → Int32 → Int64 → Int32 → Int32 → Int32 → Option (Unit × pq_N)} (hk42 : ∀ (S : pq_N) (a0 : Nat) (x1 : Int32) (x2 : Int32) (x3 : Int64) (x6 : Int32) (x7 : Int32) (x8 : Int32), pq_ok G 11 a0 → c42 S a0 x1 x2 x3 x6 x7 x8 = some ((), S1) → pq_V p l e (headSpec wsX11_goOn ({ frames := 2, cells := 0, slots := 0, locals := 44 } : Room)).room s m av below meth c 0 0 (MQ below (pq_Qv D y G s.heap.size S1) av s 0 0 (pq_A G s.heap.size)) D y 11 (pq_A G s.heap.size) (fun _ => True) G S 42 [(0, .ref a0), (1, .int x1), (2, .int x2), (3, .long x3), (6, .int x6), (7, .int x7), (8, .int x8)] []) : ∀ (S : pq_N) (a0 : Nat) (x1 : Int32) (x2 : Int32) (x3 : Int64) (x6 : Int32) (x8 : Int32) (x9 : Int32) (t0 : Int32), pq_ok G 11 a0 → F_X11_goOn_b118 G c42 S a0 x1 x2 x3 x6 x8 x9 t0 = some ((), S1) → pq_V p l e (headSpec wsX11_goOn ({ frames := 2, cells := 0, slots := 0, locals := 44 } : Room)).room s m av below meth c 0 0 (MQ below (pq_Qv D y G s.heap.size S1) av s 0 0 (pq_A G s.heap.size)) D y 11 (pq_A G s.heap.size) (fun _ => True) G S 118 [(0, .ref a0), (1, .int x1), (2, .int x2), (3, .long x3), (6, .int x6), (8, .int x8), (9, .int x9)] [.int t0] := by
  intro S a0 x1 x2 x3 x6 x8 x9 t0 k0_ h
  unfold F_X11_goOn_b118 at h
  refine pv_iconst (v := 1) C dX11_goOn_118 (by decide) ?_
  refine pv_iadd C dX11_goOn_119 ?_
  refine pv_istore C [(10, .int (t0 + (1 : Int32))), (0, .ref a0), (1, .int x1), (2, .int x2), (3, .long x3), (6, .int x6), (8, .int x8), (9, .int x9)] dX11_goOn_120 (by decide) rfl ?_
  refine pv_aload_n C 1 dX11_goOn_122 rfl rfl ?_
  have k45 := pq_wt (k := 13) W0 k0_ rfl
  refine pv_getr (T := TX11) (N := 24) C 13 inu_X11_goOn_11 rfl (by decide) (by decide) (List.mem_of_getElem? (i := 1) rfl) rfl k0_ k45.1 dX11_goOn_123 ?_
  refine pv_iload C 6 dX11_goOn_126 rfl ?_
  obtain ⟨g46, h⟩ := pq_gd h
  refine pv_iaload C k45.2 g46 dX11_goOn_128 ?_
  refine pv_nmi (fun i47 e48 => ?_)
  have h := pq_ls e48 h
  refine pv_istore C [(7, .int i47), (10, .int (t0 + (1 : Int32))), (0, .ref a0), (1, .int x1), (2, .int x2), (3, .long x3), (6, .int x6), (8, .int x8), (9, .int x9)] dX11_goOn_129 (by decide) rfl ?_
  refine pv_aload_n C 2 dX11_goOn_131 rfl rfl ?_
  have k49 := pq_wt (k := 13) W0 k0_ rfl
  refine pv_getr (T := TX11) (N := 24) C 13 inu_X11_goOn_11 rfl (by decide) (by decide) (List.mem_of_getElem? (i := 1) rfl) rfl k0_ k49.1 dX11_goOn_132 ?_
  refine pv_iload C 7 dX11_goOn_135 rfl ?_
  refine pv_iload C 8 dX11_goOn_137 rfl ?_
  refine pv_iload C 1 dX11_goOn_139 rfl ?_
  refine pv_icmp_ge (tgt := 149) C dX11_goOn_141 (by decide) (fun c50 => ?_) (fun c50 => ?_)
  · have h := pq_it c50 h
    refine pv_iload C 1 dX11_goOn_149 rfl ?_
    obtain ⟨g51, h⟩ := pq_gd h
    refine pv_iastore C k49.2 g51 dX11_goOn_151 ?_
    refine pv_nm (fun S52 e53 => ?_)
    have h := pq_ls e53 h
    refine pv_iinc (v := (x8 + (1 : Int32))) C 7 [(8, .int (x8 + (1 : Int32))), (7, .int i47), (10, .int (t0 + (1 : Int32))), (0, .ref a0), (1, .int x1), (2, .int x2), (3, .long x3), (6, .int x6), (9, .int x9)] dX11_goOn_152 rfl rfl (by decide) rfl ?_
    refine pv_goto (tgt := 42) C dX11_goOn_155 (by decide) ?_
    refine pv_sub [3, 4, 5, 6, 7, 1, 0] rfl ?_
    exact hk42 _ _ _ _ _ _ _ _ k0_ h
  · have h := pq_if c50 h
    refine pv_iload C 8 dX11_goOn_144 rfl ?_
    refine pv_goto (tgt := 151) C dX11_goOn_146 (by decide) ?_
    obtain ⟨g54, h⟩ := pq_gd h
    refine pv_iastore C k49.2 g54 dX11_goOn_151 ?_
    refine pv_nm (fun S55 e56 => ?_)
    have h := pq_ls e56 h
    refine pv_iinc (v := (x8 + (1 : Int32))) C 7 [(8, .int (x8 + (1 : Int32))), (7, .int i47), (10, .int (t0 + (1 : Int32))), (0, .ref a0), (1, .int x1), (2, .int x2), (3, .long x3), (6, .int x6), (9, .int x9)] dX11_goOn_152 rfl rfl (by decide) rfl ?_
    refine pv_goto (tgt := 42) C dX11_goOn_155 (by decide) ?_
    refine pv_sub [3, 4, 5, 6, 7, 1, 0] rfl ?_
    exact hk42 _ _ _ _ _ _ _ _ k0_ h
set_option maxHeartbeats 4000000 in
set_option maxRecDepth 100000 in
theorem r_X11_goOn_b77 {p : Program} {l : Launch} {e : Env} {s : State} {m : MethodId} {av : Array Value} {below : List Frame} {meth : Method} {c : Code} {D : va_G} {y : pq_Y} {G : pq_G} {S1 : pq_N} (W0 : pq_WT G) (C : pq_C p s m av c D y RX11 wsX11_goOn cX11_goOn 11) (hr : meth.sig.returnType = none) (hlk : meth.locks = false) {c42 : pq_N → Nat → Int32 → Int32 → Int64 → Int32 → Int32 → Int32 → Option (Unit × pq_N)} (hk42 : ∀ (S : pq_N) (a0 : Nat) (x1 : Int32) (x2 : Int32) (x3 : Int64) (x6 : Int32) (x7 : Int32) (x8 : Int32), pq_ok G 11 a0 → c42 S a0 x1 x2 x3 x6 x7 x8 = some ((), S1) → pq_V p l e (headSpec wsX11_goOn ({ frames := 2, cells := 0, slots := 0, locals := 44 } : Room)).room s m av below meth c 0 0 (MQ below (pq_Qv D y G s.heap.size S1) av s 0 0 (pq_A G s.heap.size)) D y 11 (pq_A G s.heap.size) (fun _ => True) G S 42 [(0, .ref a0), (1, .int x1), (2, .int x2), (3, .long x3), (6, .int x6), (7, .int x7), (8, .int x8)] []) : ∀ (S : pq_N) (a0 : Nat) (x1 : Int32) (x2 : Int32) (x3 : Int64) (x6 : Int32) (x8 : Int32) (t0 : Int32) (t1 : Int32), pq_ok G 11 a0 → F_X11_goOn_b77 G c42 S a0 x1 x2 x3 x6 x8 t0 t1 = some ((), S1) → pq_V p l e (headSpec wsX11_goOn ({ frames := 2, cells := 0, slots := 0, locals := 44 } : Room)).room s m av below meth c 0 0 (MQ below (pq_Qv D y G s.heap.size S1) av s 0 0 (pq_A G s.heap.size)) D y 11 (pq_A G s.heap.size) (fun _ => True) G S 77 [(0, .ref a0), (1, .int x1), (2, .int x2), (3, .long x3), (6, .int x6), (8, .int x8)] [.int t0, .int t1] := by
  intro S a0 x1 x2 x3 x6 x8 t0 t1 k0_ h
  unfold F_X11_goOn_b77 at h
  refine pv_iadd C dX11_goOn_77 ?_
  refine pv_istore C [(9, .int (t1 + t0)), (0, .ref a0), (1, .int x1), (2, .int x2), (3, .long x3), (6, .int x6), (8, .int x8)] dX11_goOn_78 (by decide) rfl ?_
  refine pv_aload_n C 1 dX11_goOn_80 rfl rfl ?_
  have k36 := pq_wt (k := 13) W0 k0_ rfl
  refine pv_getr (T := TX11) (N := 24) C 13 inu_X11_goOn_11 rfl (by decide) (by decide) (List.mem_of_getElem? (i := 1) rfl) rfl k0_ k36.1 dX11_goOn_81 ?_
  refine pv_iload C 6 dX11_goOn_84 rfl ?_
  obtain ⟨g37, h⟩ := pq_gd h
  refine pv_iaload C k36.2 g37 dX11_goOn_86 ?_
  refine pv_aload_n C 1 dX11_goOn_87 rfl rfl ?_
  have k38 := pq_wt (k := 13) W0 k0_ rfl
  refine pv_getr (T := TX11) (N := 24) C 13 inu_X11_goOn_11 rfl (by decide) (by decide) (List.mem_of_getElem? (i := 1) rfl) rfl k0_ k38.1 dX11_goOn_88 ?_
  refine pv_iload C 6 dX11_goOn_91 rfl ?_
  refine pv_iconst (v := 1) C dX11_goOn_93 (by decide) ?_
  refine pv_isub C dX11_goOn_94 ?_
  obtain ⟨g39, h⟩ := pq_gd h
  refine pv_iaload C k38.2 g39 dX11_goOn_95 ?_
  refine pv_icmp_ge (tgt := 109) C dX11_goOn_96 (by decide) (fun c40 => ?_) (fun c40 => ?_)
  · have h := pq_it c40 h
    refine pv_aload_n C 1 dX11_goOn_109 rfl rfl ?_
    have k41 := pq_wt (k := 13) W0 k0_ rfl
    refine pv_getr (T := TX11) (N := 24) C 13 inu_X11_goOn_11 rfl (by decide) (by decide) (List.mem_of_getElem? (i := 1) rfl) rfl k0_ k41.1 dX11_goOn_110 ?_
    refine pv_iload C 6 dX11_goOn_113 rfl ?_
    refine pv_iconst (v := 1) C dX11_goOn_115 (by decide) ?_
    refine pv_isub C dX11_goOn_116 ?_
    obtain ⟨g42, h⟩ := pq_gd h
    refine pv_iaload C k41.2 g42 dX11_goOn_117 ?_
    refine pv_sub [1, 2, 3, 4, 5, 6, 0] rfl ?_
    exact r_X11_goOn_b118 W0 C hr hlk hk42 _ _ _ _ _ _ _ _ _ k0_ h
  · have h := pq_if c40 h
    refine pv_aload_n C 1 dX11_goOn_99 rfl rfl ?_
    have k43 := pq_wt (k := 13) W0 k0_ rfl
    refine pv_getr (T := TX11) (N := 24) C 13 inu_X11_goOn_11 rfl (by decide) (by decide) (List.mem_of_getElem? (i := 1) rfl) rfl k0_ k43.1 dX11_goOn_100 ?_
    refine pv_iload C 6 dX11_goOn_103 rfl ?_
    obtain ⟨g44, h⟩ := pq_gd h
    refine pv_iaload C k43.2 g44 dX11_goOn_105 ?_
    refine pv_goto (tgt := 118) C dX11_goOn_106 (by decide) ?_
    refine pv_sub [1, 2, 3, 4, 5, 6, 0] rfl ?_
    exact r_X11_goOn_b118 W0 C hr hlk hk42 _ _ _ _ _ _ _ _ _ k0_ h
set_option maxHeartbeats 4000000 in
set_option maxRecDepth 100000 in
theorem r_X11_goOn_b42 {p : Program} {l : Launch} {e : Env} {s : State} {m : MethodId} {av : Array Value} {below : List Frame} {meth : Method} {c : Code} {D : va_G} {y : pq_Y} {G : pq_G} {S1 : pq_N} (W0 : pq_WT G) (C : pq_C p s m av c D y RX11 wsX11_goOn cX11_goOn 11) (hr : meth.sig.returnType = none) (hlk : meth.locks = false) (n : Nat) : ∀ (S : pq_N) (a0 : Nat) (x1 : Int32) (x2 : Int32) (x3 : Int64) (x6 : Int32) (x7 : Int32) (x8 : Int32), pq_ok G 11 a0 → F_X11_goOn_b42 G n S a0 x1 x2 x3 x6 x7 x8 = some ((), S1) → pq_V p l e (headSpec wsX11_goOn ({ frames := 2, cells := 0, slots := 0, locals := 44 } : Room)).room s m av below meth c 0 0 (MQ below (pq_Qv D y G s.heap.size S1) av s 0 0 (pq_A G s.heap.size)) D y 11 (pq_A G s.heap.size) (fun _ => True) G S 42 [(0, .ref a0), (1, .int x1), (2, .int x2), (3, .long x3), (6, .int x6), (7, .int x7), (8, .int x8)] [] := by
  induction n with
  | zero =>
    intro S a0 x1 x2 x3 x6 x7 x8 k0_ h
    rw [F_X11_goOn_b42.eq_1] at h; cases h
  | succ n ih =>
    intro S a0 x1 x2 x3 x6 x7 x8 k0_ h
    rw [F_X11_goOn_b42.eq_2] at h
    refine pv_iload C 6 dX11_goOn_42 rfl ?_
    refine pv_iload C 4 dX11_goOn_44 rfl ?_
    refine pv_icmp_gt (tgt := 158) C dX11_goOn_46 (by decide) (fun c28 => ?_) (fun c28 => ?_)
    · have h := pq_it c28 h
      exact pv_vret C hr hlk h dX11_goOn_158
    · have h := pq_if c28 h
      refine pv_iload C 5 dX11_goOn_49 rfl ?_
      refine pv_aload_n C 0 dX11_goOn_51 rfl rfl ?_
      refine pv_iload_n C 1 dX11_goOn_52 rfl rfl ?_
      refine pv_aload_n C 0 dX11_goOn_53 rfl rfl ?_
      refine pv_iload_n C 1 dX11_goOn_54 rfl rfl ?_
      refine pv_iload_n C 2 dX11_goOn_55 rfl rfl ?_
      obtain ⟨v29, S30, e31, h⟩ := pq_bs h
      refine pv_calliV C (ci := 11) rfl (by decide) k0_ [.int x1, .int x2] (fun sz => r_X11_begin W0 k0_ e31 sz) (cwV 2 C.1.2.2.2.2 gX11_goOn_X11_begin rfl rfl rfl (by decide +kernel) ⟨Nat.le_of_ble_eq_true rfl, Nat.le_of_ble_eq_true rfl⟩) rfl rfl (Nat.le_of_ble_eq_true rfl) dX11_goOn_56 ⟨Nat.le_of_ble_eq_true rfl, Nat.le_of_ble_eq_true rfl⟩ ?_
      refine pv_iload C 6 dX11_goOn_59 rfl ?_
      refine pv_iadd C dX11_goOn_61 ?_
      refine pv_iconst (v := 1) C dX11_goOn_62 (by decide) ?_
      refine pv_isub C dX11_goOn_63 ?_
      obtain ⟨v32, S33, e34, h⟩ := pq_bs h
      refine pv_calllV C (ci := 11) rfl (by decide) k0_ [.int x1, .int ((v29 + x8) - (1 : Int32))] (fun sz => r_X11_word W0 k0_ e34 sz) (cwV 2 C.1.2.2.2.2 gX11_goOn_X11_word rfl rfl rfl (by decide +kernel) ⟨Nat.le_of_ble_eq_true rfl, Nat.le_of_ble_eq_true rfl⟩) rfl rfl (Nat.le_of_ble_eq_true rfl) dX11_goOn_64 ⟨Nat.le_of_ble_eq_true rfl, Nat.le_of_ble_eq_true rfl⟩ ?_
      refine pv_lload_n C 3 dX11_goOn_67 rfl rfl ?_
      refine pv_lcmp C dX11_goOn_68 ?_
      refine pv_if_ne (tgt := 76) C dX11_goOn_69 (by decide) (fun c35 => ?_) (fun c35 => ?_)
      · have h := pq_if c35 h
        refine pv_iconst (v := 1) C dX11_goOn_76 (by decide) ?_
        refine pv_sub [0, 1, 2, 3, 4, 6] rfl ?_
        exact r_X11_goOn_b77 W0 C hr hlk ih _ _ _ _ _ _ _ _ _ k0_ h
      · have h := pq_it c35 h
        refine pv_iconst (v := 0) C dX11_goOn_72 (by decide) ?_
        refine pv_goto (tgt := 77) C dX11_goOn_73 (by decide) ?_
        refine pv_sub [0, 1, 2, 3, 4, 6] rfl ?_
        exact r_X11_goOn_b77 W0 C hr hlk ih _ _ _ _ _ _ _ _ _ k0_ h
set_option maxHeartbeats 4000000 in
set_option maxRecDepth 100000 in
theorem r_X11_goOn {l : Launch} {D : va_G} {y : pq_Y} {G : pq_G} (W0 : pq_WT G) {S : pq_N} {a0 : Nat} {x1 : Int32} {x2 : Int32} {x3 : Int64} {x5 : Int32} (k0_ : pq_ok G 11 a0) {S1 : pq_N} (h : F_X11_goOn G S a0 x1 x2 x3 x5 = some ((), S1)) (sz : Nat) : Met l yX11_goOn wsX11_goOn ({ frames := 2, cells := 0, slots := 0, locals := 44 } : Room) (pq_P D y G S sz [.ref a0, .int x1, .int x2, .long x3, .int x5]) (pq_Qv D y G sz S1) 0 0 (pq_A G sz) := by
  refine pq_enter RX11 11 (by decide) rfl rfl rfl ?_
  intro p e s m below meth c C hsz hr hlk
  subst hsz
  unfold F_X11_goOn at h
  refine pv_sub (lo1 := [(0, .ref a0), (1, .int x1), (2, .int x2), (3, .long x3), (5, .int x5)]) [0, 1, 2, 3, 4] rfl ?_
  refine pv_aload_n C 0 dX11_goOn_0 rfl rfl ?_
  refine pv_iload_n C 1 dX11_goOn_1 rfl rfl ?_
  refine pv_iload_n C 2 dX11_goOn_2 rfl rfl ?_
  obtain ⟨v11, S12, e13, h⟩ := pq_bs h
  refine pv_calliV C (ci := 11) rfl (by decide) k0_ [.int x1, .int x2] (fun sz => r_X11_size W0 k0_ e13 sz) (cwV 2 C.1.2.2.2.2 gX11_goOn_X11_size rfl rfl rfl (by decide +kernel) ⟨Nat.le_of_ble_eq_true rfl, Nat.le_of_ble_eq_true rfl⟩) rfl rfl (Nat.le_of_ble_eq_true rfl) dX11_goOn_3 ⟨Nat.le_of_ble_eq_true rfl, Nat.le_of_ble_eq_true rfl⟩ ?_
  refine pv_istore C [(6, .int v11), (0, .ref a0), (1, .int x1), (2, .int x2), (3, .long x3), (5, .int x5)] dX11_goOn_6 (by decide) rfl ?_
  refine pv_aload_n C 1 dX11_goOn_8 rfl rfl ?_
  have k14 := pq_wt (k := 13) W0 k0_ rfl
  refine pv_getr (T := TX11) (N := 24) C 13 inu_X11_goOn_11 rfl (by decide) (by decide) (List.mem_of_getElem? (i := 1) rfl) rfl k0_ k14.1 dX11_goOn_9 ?_
  refine pv_iconst (v := 0) C dX11_goOn_12 (by decide) ?_
  obtain ⟨g15, h⟩ := pq_gd h
  refine pv_iaload C k14.2 g15 dX11_goOn_13 ?_
  refine pv_nmi (fun i16 e17 => ?_)
  have h := pq_ls e17 h
  refine pv_istore C [(7, .int i16), (6, .int v11), (0, .ref a0), (1, .int x1), (2, .int x2), (3, .long x3), (5, .int x5)] dX11_goOn_14 (by decide) rfl ?_
  refine pv_aload_n C 2 dX11_goOn_16 rfl rfl ?_
  have k18 := pq_wt (k := 13) W0 k0_ rfl
  refine pv_getr (T := TX11) (N := 24) C 13 inu_X11_goOn_11 rfl (by decide) (by decide) (List.mem_of_getElem? (i := 1) rfl) rfl k0_ k18.1 dX11_goOn_17 ?_
  refine pv_iconst (v := 0) C dX11_goOn_20 (by decide) ?_
  refine pv_iload C 6 dX11_goOn_21 rfl ?_
  refine pv_if_eq (tgt := 30) C dX11_goOn_23 (by decide) (fun c19 => ?_) (fun c19 => ?_)
  · have h := pq_it c19 h
    refine pv_aload_n C 2 dX11_goOn_30 rfl rfl ?_
    have k20 := pq_wt (k := 13) W0 k0_ rfl
    refine pv_getr (T := TX11) (N := 24) C 13 inu_X11_goOn_11 rfl (by decide) (by decide) (List.mem_of_getElem? (i := 1) rfl) rfl k0_ k20.1 dX11_goOn_31 ?_
    refine pv_iconst (v := 0) C dX11_goOn_34 (by decide) ?_
    obtain ⟨g21, h⟩ := pq_gd h
    refine pv_iaload C k20.2 g21 dX11_goOn_35 ?_
    refine pv_iconst (v := 1) C dX11_goOn_36 (by decide) ?_
    refine pv_iadd C dX11_goOn_37 ?_
    obtain ⟨g22, h⟩ := pq_gd h
    refine pv_iastore C k18.2 g22 dX11_goOn_38 ?_
    refine pv_nm (fun S23 e24 => ?_)
    have h := pq_ls e24 h
    refine pv_iconst (v := 1) C dX11_goOn_39 (by decide) ?_
    refine pv_istore C [(8, .int (1 : Int32)), (7, .int i16), (6, .int v11), (0, .ref a0), (1, .int x1), (2, .int x2), (3, .long x3), (5, .int x5)] dX11_goOn_40 (by decide) rfl ?_
    refine pv_sub [3, 4, 5, 6, 2, 1, 0] rfl ?_
    exact r_X11_goOn_b42 W0 C hr hlk pq_fuel _ _ _ _ _ _ _ _ k0_ h
  · have h := pq_if c19 h
    refine pv_iconst (v := 0) C dX11_goOn_26 (by decide) ?_
    refine pv_goto (tgt := 38) C dX11_goOn_27 (by decide) ?_
    obtain ⟨g25, h⟩ := pq_gd h
    refine pv_iastore C k18.2 g25 dX11_goOn_38 ?_
    refine pv_nm (fun S26 e27 => ?_)
    have h := pq_ls e27 h
    refine pv_iconst (v := 1) C dX11_goOn_39 (by decide) ?_
    refine pv_istore C [(8, .int (1 : Int32)), (7, .int i16), (6, .int v11), (0, .ref a0), (1, .int x1), (2, .int x2), (3, .long x3), (5, .int x5)] dX11_goOn_40 (by decide) rfl ?_
    refine pv_sub [3, 4, 5, 6, 2, 1, 0] rfl ?_
    exact r_X11_goOn_b42 W0 C hr hlk pq_fuel _ _ _ _ _ _ _ _ k0_ h
def F_X11_find_b38 (G : pq_G) (c17 : pq_N → Nat → Int32 → Int32 → Int32 → Int32 → Int32 → Option (Unit × pq_N)) : Nat → pq_N → Nat → Int32 → Int32 → Int32 → Int32 → Int32 → Int32 → Option (Unit × pq_N)
  | 0, _, _, _, _, _, _, _, _ => none
  | n + 1, S, a0, x1, x2, x3, x4, x5, x6 => (pq_bd (F_X11_get G S a0 x3 (4 : Int32)) fun v23 S24 => (if v23 ≤ x6 then c17 S24 a0 x1 x2 x3 x4 (x5 + (1 : Int32)) else (pq_bd (F_X11_word G S24 a0 x3 x6) fun v27 S28 => (pq_bd (F_X11_goOn G S28 a0 x1 x2 v27 (0 : Int32)) fun _ S31 => (if x4 < 0 ∨ pq_n G (pq_r G a0 13) ≤ (Int32.toNatClampNeg x4) then none else (if (S31.1 a0 14) ≤ (S31.1 (pq_r G a0 13) (Int32.toNatClampNeg x4)) then (F_X11_find_b38 G c17 n) S31 a0 x1 x2 x3 x4 x5 (x6 + (1 : Int32)) else (if x4 < 0 ∨ pq_n G (pq_r G a0 13) ≤ (Int32.toNatClampNeg x4) then none else (pq_lt (pq_wi S31 a0 14 (S31.1 (pq_r G a0 13) (Int32.toNatClampNeg x4))) fun S38 => (pq_lt (pq_wi S38 a0 15 x5) fun S40 => (pq_lt (pq_wi S40 a0 16 ((x6 - x5) + (1 : Int32))) fun S42 => (F_X11_find_b38 G c17 n) S42 a0 x1 x2 x3 x4 x5 (x6 + (1 : Int32))))))))))))
def F_X11_find_b17 (G : pq_G)  : Nat → pq_N → Nat → Int32 → Int32 → Int32 → Int32 → Int32 → Option (Unit × pq_N)
  | 0, _, _, _, _, _, _, _ => none
  | n + 1, S, a0, x1, x2, x3, x4, x5 => (pq_bd (F_X11_get G S a0 x3 (4 : Int32)) fun v16 S17 => (if v16 ≤ x5 then some ((), S17) else (pq_bd (F_X11_start G S17 a0 x4) fun _ S21 => F_X11_find_b38 G ((F_X11_find_b17 G n)) pq_fuel S21 a0 x1 x2 x3 x4 x5 x5)))
def F_X11_find (G : pq_G) (S : pq_N) (a0 : Nat) (x1 : Int32) (x2 : Int32) (x3 : Int32) : Option (Unit × pq_N) := (pq_bd (F_X11_size G S a0 x1 x2) fun v11 S12 => (pq_lt (pq_wi S12 a0 14 (61 : Int32)) fun S14 => F_X11_find_b17 G pq_fuel S14 a0 x1 x2 x3 v11 (0 : Int32)))
theorem inu_X11_find_11 : ∀ w ∈ u_ws RX11 TX11 24, w ∈ wsX11_find := pq_inu 32 rfl
set_option maxHeartbeats 4000000 in
set_option maxRecDepth 100000 in
theorem r_X11_find_b38 {p : Program} {l : Launch} {e : Env} {s : State} {m : MethodId} {av : Array Value} {below : List Frame} {meth : Method} {c : Code} {D : va_G} {y : pq_Y} {G : pq_G} {S1 : pq_N} (W0 : pq_WT G) (C : pq_C p s m av c D y RX11 wsX11_find cX11_find 7) (hr : meth.sig.returnType = none) (hlk : meth.locks = false) {c17 : pq_N → Nat → Int32 → Int32 → Int32 → Int32 → Int32 → Option (Unit × pq_N)} (hk17 : ∀ (S : pq_N) (a0 : Nat) (x1 : Int32) (x2 : Int32) (x3 : Int32) (x4 : Int32) (x5 : Int32), pq_ok G 11 a0 → c17 S a0 x1 x2 x3 x4 x5 = some ((), S1) → pq_V p l e (headSpec wsX11_find ({ frames := 3, cells := 0, slots := 0, locals := 74 } : Room)).room s m av below meth c 0 0 (MQ below (pq_Qv D y G s.heap.size S1) av s 0 0 (pq_A G s.heap.size)) D y 7 (pq_A G s.heap.size) (fun _ => True) G S 17 [(0, .ref a0), (1, .int x1), (2, .int x2), (3, .int x3), (4, .int x4), (5, .int x5)] []) (n : Nat) : ∀ (S : pq_N) (a0 : Nat) (x1 : Int32) (x2 : Int32) (x3 : Int32) (x4 : Int32) (x5 : Int32) (x6 : Int32), pq_ok G 11 a0 → F_X11_find_b38 G c17 n S a0 x1 x2 x3 x4 x5 x6 = some ((), S1) → pq_V p l e (headSpec wsX11_find ({ frames := 3, cells := 0, slots := 0, locals := 74 } : Room)).room s m av below meth c 0 0 (MQ below (pq_Qv D y G s.heap.size S1) av s 0 0 (pq_A G s.heap.size)) D y 7 (pq_A G s.heap.size) (fun _ => True) G S 38 [(0, .ref a0), (1, .int x1), (2, .int x2), (3, .int x3), (4, .int x4), (5, .int x5), (6, .int x6)] [] := by
  induction n with
  | zero =>
    intro S a0 x1 x2 x3 x4 x5 x6 k0_ h
    rw [F_X11_find_b38.eq_1] at h; cases h
  | succ n ih =>
    intro S a0 x1 x2 x3 x4 x5 x6 k0_ h
    rw [F_X11_find_b38.eq_2] at h
    refine pv_iload C 6 dX11_find_38 rfl ?_
    refine pv_aload_n C 0 dX11_find_40 rfl rfl ?_
    refine pv_iload_n C 3 dX11_find_41 rfl rfl ?_
    refine pv_iconst (v := 4) C dX11_find_42 (by decide) ?_
    obtain ⟨v23, S24, e25, h⟩ := pq_bs h
    refine pv_calliV C (ci := 11) rfl (by decide) k0_ [.int x3, .int (4 : Int32)] (fun sz => r_X11_get W0 k0_ e25 sz) (cwV 2 C.1.2.2.2.2 gX11_find_X11_get rfl rfl rfl (by decide +kernel) ⟨Nat.le_of_ble_eq_true rfl, Nat.le_of_ble_eq_true rfl⟩) rfl rfl (Nat.le_of_ble_eq_true rfl) dX11_find_43 ⟨Nat.le_of_ble_eq_true rfl, Nat.le_of_ble_eq_true rfl⟩ ?_
    refine pv_icmp_ge (tgt := 111) C dX11_find_46 (by decide) (fun c26 => ?_) (fun c26 => ?_)
    · have h := pq_it c26 h
      refine pv_iinc (v := (x5 + (1 : Int32))) C 5 [(5, .int (x5 + (1 : Int32))), (0, .ref a0), (1, .int x1), (2, .int x2), (3, .int x3), (4, .int x4), (6, .int x6)] dX11_find_111 rfl rfl (by decide) rfl ?_
      refine pv_goto (tgt := 17) C dX11_find_114 (by decide) ?_
      refine pv_sub [1, 2, 3, 4, 5, 0] rfl ?_
      exact hk17 _ _ _ _ _ _ _ k0_ h
    · have h := pq_if c26 h
      refine pv_aload_n C 0 dX11_find_49 rfl rfl ?_
      refine pv_iload_n C 1 dX11_find_50 rfl rfl ?_
      refine pv_iload_n C 2 dX11_find_51 rfl rfl ?_
      refine pv_aload_n C 0 dX11_find_52 rfl rfl ?_
      refine pv_iload_n C 3 dX11_find_53 rfl rfl ?_
      refine pv_iload C 6 dX11_find_54 rfl ?_
      obtain ⟨v27, S28, e29, h⟩ := pq_bs h
      refine pv_calllV C (ci := 11) rfl (by decide) k0_ [.int x3, .int x6] (fun sz => r_X11_word W0 k0_ e29 sz) (cwV 2 C.1.2.2.2.2 gX11_find_X11_word rfl rfl rfl (by decide +kernel) ⟨Nat.le_of_ble_eq_true rfl, Nat.le_of_ble_eq_true rfl⟩) rfl rfl (Nat.le_of_ble_eq_true rfl) dX11_find_56 ⟨Nat.le_of_ble_eq_true rfl, Nat.le_of_ble_eq_true rfl⟩ ?_
      refine pv_iconst (v := 0) C dX11_find_59 (by decide) ?_
      obtain ⟨⟨⟩, S31, e32, h⟩ := pq_bs h
      refine pv_callvV C (ci := 11) rfl (by decide) k0_ [.int x1, .int x2, .long v27, .int (0 : Int32)] (fun sz => r_X11_goOn W0 k0_ e32 sz) (cwV 4 C.1.2.2.2.2 gX11_find_X11_goOn rfl rfl rfl (by decide +kernel) ⟨Nat.le_of_ble_eq_true rfl, Nat.le_of_ble_eq_true rfl⟩) rfl rfl (Nat.le_of_ble_eq_true rfl) dX11_find_60 ⟨Nat.le_of_ble_eq_true rfl, Nat.le_of_ble_eq_true rfl⟩ ?_
      refine pv_aload_n C 0 dX11_find_63 rfl rfl ?_
      have k33 := pq_wt (k := 13) W0 k0_ rfl
      refine pv_getr (T := TX11) (N := 24) C 13 inu_X11_find_11 rfl (by decide) (by decide) (List.mem_of_getElem? (i := 2) rfl) rfl k0_ k33.1 dX11_find_64 ?_
      refine pv_iload C 4 dX11_find_67 rfl ?_
      obtain ⟨g34, h⟩ := pq_gd h
      refine pv_iaload C k33.2 g34 dX11_find_69 ?_
      refine pv_aload_n C 0 dX11_find_70 rfl rfl ?_
      refine pv_geti (T := TX11) (N := 24) C 14 inu_X11_find_11 rfl (by decide) (by decide) (List.mem_of_getElem? (i := 1) rfl) rfl k0_ dX11_find_71 ?_
      refine pv_icmp_ge (tgt := 105) C dX11_find_74 (by decide) (fun c35 => ?_) (fun c35 => ?_)
      · have h := pq_it c35 h
        refine pv_iinc (v := (x6 + (1 : Int32))) C 6 [(6, .int (x6 + (1 : Int32))), (0, .ref a0), (1, .int x1), (2, .int x2), (3, .int x3), (4, .int x4), (5, .int x5)] dX11_find_105 rfl rfl (by decide) rfl ?_
        refine pv_goto (tgt := 38) C dX11_find_108 (by decide) ?_
        refine pv_sub [1, 2, 3, 4, 5, 6, 0] rfl ?_
        exact ih _ _ _ _ _ _ _ _ k0_ h
      · have h := pq_if c35 h
        refine pv_aload_n C 0 dX11_find_77 rfl rfl ?_
        refine pv_aload_n C 0 dX11_find_78 rfl rfl ?_
        have k36 := pq_wt (k := 13) W0 k0_ rfl
        refine pv_getr (T := TX11) (N := 24) C 13 inu_X11_find_11 rfl (by decide) (by decide) (List.mem_of_getElem? (i := 2) rfl) rfl k0_ k36.1 dX11_find_79 ?_
        refine pv_iload C 4 dX11_find_82 rfl ?_
        obtain ⟨g37, h⟩ := pq_gd h
        refine pv_iaload C k36.2 g37 dX11_find_84 ?_
        refine pv_put (T := TX11) (N := 24) (ty := .int) C 14 inu_X11_find_11 rfl (by decide) tyX11 tyX11_ok nmX11 (by decide) (List.mem_of_getElem? (i := 1) rfl) rfl k0_ rfl (by decide +kernel) rfl rfl dX11_find_85 ?_
        refine pv_nm (fun S38 e39 => ?_)
        have h := pq_ls e39 h
        refine pv_aload_n C 0 dX11_find_88 rfl rfl ?_
        refine pv_iload C 5 dX11_find_89 rfl ?_
        refine pv_put (T := TX11) (N := 24) (ty := .int) C 15 inu_X11_find_11 rfl (by decide) tyX11 tyX11_ok nmX11 (by decide) (List.mem_of_getElem? (i := 3) rfl) rfl k0_ rfl (by decide +kernel) rfl rfl dX11_find_91 ?_
        refine pv_nm (fun S40 e41 => ?_)
        have h := pq_ls e41 h
        refine pv_aload_n C 0 dX11_find_94 rfl rfl ?_
        refine pv_iload C 6 dX11_find_95 rfl ?_
        refine pv_iload C 5 dX11_find_97 rfl ?_
        refine pv_isub C dX11_find_99 ?_
        refine pv_iconst (v := 1) C dX11_find_100 (by decide) ?_
        refine pv_iadd C dX11_find_101 ?_
        refine pv_put (T := TX11) (N := 24) (ty := .int) C 16 inu_X11_find_11 rfl (by decide) tyX11 tyX11_ok nmX11 (by decide) (List.mem_of_getElem? (i := 4) rfl) rfl k0_ rfl (by decide +kernel) rfl rfl dX11_find_102 ?_
        refine pv_nm (fun S42 e43 => ?_)
        have h := pq_ls e43 h
        refine pv_iinc (v := (x6 + (1 : Int32))) C 6 [(6, .int (x6 + (1 : Int32))), (0, .ref a0), (1, .int x1), (2, .int x2), (3, .int x3), (4, .int x4), (5, .int x5)] dX11_find_105 rfl rfl (by decide) rfl ?_
        refine pv_goto (tgt := 38) C dX11_find_108 (by decide) ?_
        refine pv_sub [1, 2, 3, 4, 5, 6, 0] rfl ?_
        exact ih _ _ _ _ _ _ _ _ k0_ h
set_option maxHeartbeats 4000000 in
set_option maxRecDepth 100000 in
theorem r_X11_find_b17 {p : Program} {l : Launch} {e : Env} {s : State} {m : MethodId} {av : Array Value} {below : List Frame} {meth : Method} {c : Code} {D : va_G} {y : pq_Y} {G : pq_G} {S1 : pq_N} (W0 : pq_WT G) (C : pq_C p s m av c D y RX11 wsX11_find cX11_find 7) (hr : meth.sig.returnType = none) (hlk : meth.locks = false) (n : Nat) : ∀ (S : pq_N) (a0 : Nat) (x1 : Int32) (x2 : Int32) (x3 : Int32) (x4 : Int32) (x5 : Int32), pq_ok G 11 a0 → F_X11_find_b17 G n S a0 x1 x2 x3 x4 x5 = some ((), S1) → pq_V p l e (headSpec wsX11_find ({ frames := 3, cells := 0, slots := 0, locals := 74 } : Room)).room s m av below meth c 0 0 (MQ below (pq_Qv D y G s.heap.size S1) av s 0 0 (pq_A G s.heap.size)) D y 7 (pq_A G s.heap.size) (fun _ => True) G S 17 [(0, .ref a0), (1, .int x1), (2, .int x2), (3, .int x3), (4, .int x4), (5, .int x5)] [] := by
  induction n with
  | zero =>
    intro S a0 x1 x2 x3 x4 x5 k0_ h
    rw [F_X11_find_b17.eq_1] at h; cases h
  | succ n ih =>
    intro S a0 x1 x2 x3 x4 x5 k0_ h
    rw [F_X11_find_b17.eq_2] at h
    refine pv_iload C 5 dX11_find_17 rfl ?_
    refine pv_aload_n C 0 dX11_find_19 rfl rfl ?_
    refine pv_iload_n C 3 dX11_find_20 rfl rfl ?_
    refine pv_iconst (v := 4) C dX11_find_21 (by decide) ?_
    obtain ⟨v16, S17, e18, h⟩ := pq_bs h
    refine pv_calliV C (ci := 11) rfl (by decide) k0_ [.int x3, .int (4 : Int32)] (fun sz => r_X11_get W0 k0_ e18 sz) (cwV 2 C.1.2.2.2.2 gX11_find_X11_get rfl rfl rfl (by decide +kernel) ⟨Nat.le_of_ble_eq_true rfl, Nat.le_of_ble_eq_true rfl⟩) rfl rfl (Nat.le_of_ble_eq_true rfl) dX11_find_22 ⟨Nat.le_of_ble_eq_true rfl, Nat.le_of_ble_eq_true rfl⟩ ?_
    refine pv_icmp_ge (tgt := 117) C dX11_find_25 (by decide) (fun c19 => ?_) (fun c19 => ?_)
    · have h := pq_it c19 h
      exact pv_vret C hr hlk h dX11_find_117
    · have h := pq_if c19 h
      refine pv_aload_n C 0 dX11_find_28 rfl rfl ?_
      refine pv_iload C 4 dX11_find_29 rfl ?_
      obtain ⟨⟨⟩, S21, e22, h⟩ := pq_bs h
      refine pv_callvV C (ci := 11) rfl (by decide) k0_ [.int x4] (fun sz => r_X11_start W0 k0_ e22 sz) (cwV 1 C.1.2.2.2.2 gX11_find_X11_start rfl rfl rfl (by decide +kernel) ⟨Nat.le_of_ble_eq_true rfl, Nat.le_of_ble_eq_true rfl⟩) rfl rfl (Nat.le_of_ble_eq_true rfl) dX11_find_31 ⟨Nat.le_of_ble_eq_true rfl, Nat.le_of_ble_eq_true rfl⟩ ?_
      refine pv_iload C 5 dX11_find_34 rfl ?_
      refine pv_istore C [(6, .int x5), (0, .ref a0), (1, .int x1), (2, .int x2), (3, .int x3), (4, .int x4), (5, .int x5)] dX11_find_36 (by decide) rfl ?_
      refine pv_sub [1, 2, 3, 4, 5, 6, 0] rfl ?_
      exact r_X11_find_b38 W0 C hr hlk ih pq_fuel _ _ _ _ _ _ _ _ k0_ h
set_option maxHeartbeats 4000000 in
set_option maxRecDepth 100000 in
theorem r_X11_find {l : Launch} {D : va_G} {y : pq_Y} {G : pq_G} (W0 : pq_WT G) {S : pq_N} {a0 : Nat} {x1 : Int32} {x2 : Int32} {x3 : Int32} (k0_ : pq_ok G 11 a0) {S1 : pq_N} (h : F_X11_find G S a0 x1 x2 x3 = some ((), S1)) (sz : Nat) : Met l yX11_find wsX11_find ({ frames := 3, cells := 0, slots := 0, locals := 74 } : Room) (pq_P D y G S sz [.ref a0, .int x1, .int x2, .int x3]) (pq_Qv D y G sz S1) 0 0 (pq_A G sz) := by
  refine pq_enter RX11 7 (by decide) rfl rfl rfl ?_
  intro p e s m below meth c C hsz hr hlk
  subst hsz
  unfold F_X11_find at h
  refine pv_sub (lo1 := [(0, .ref a0), (1, .int x1), (2, .int x2), (3, .int x3)]) [0, 1, 2, 3] rfl ?_
  refine pv_aload_n C 0 dX11_find_0 rfl rfl ?_
  refine pv_iload_n C 1 dX11_find_1 rfl rfl ?_
  refine pv_iload_n C 2 dX11_find_2 rfl rfl ?_
  obtain ⟨v11, S12, e13, h⟩ := pq_bs h
  refine pv_calliV C (ci := 11) rfl (by decide) k0_ [.int x1, .int x2] (fun sz => r_X11_size W0 k0_ e13 sz) (cwV 2 C.1.2.2.2.2 gX11_find_X11_size rfl rfl rfl (by decide +kernel) ⟨Nat.le_of_ble_eq_true rfl, Nat.le_of_ble_eq_true rfl⟩) rfl rfl (Nat.le_of_ble_eq_true rfl) dX11_find_3 ⟨Nat.le_of_ble_eq_true rfl, Nat.le_of_ble_eq_true rfl⟩ ?_
  refine pv_istore C [(4, .int v11), (0, .ref a0), (1, .int x1), (2, .int x2), (3, .int x3)] dX11_find_6 (by decide) rfl ?_
  refine pv_aload_n C 1 dX11_find_8 rfl rfl ?_
  refine pv_bipush (v := 61) C dX11_find_9 (by decide) ?_
  refine pv_put (T := TX11) (N := 24) (ty := .int) C 14 inu_X11_find_11 rfl (by decide) tyX11 tyX11_ok nmX11 (by decide) (List.mem_of_getElem? (i := 1) rfl) rfl k0_ rfl (by decide +kernel) rfl rfl dX11_find_11 ?_
  refine pv_nm (fun S14 e15 => ?_)
  have h := pq_ls e15 h
  refine pv_iconst (v := 0) C dX11_find_14 (by decide) ?_
  refine pv_istore C [(5, .int (0 : Int32)), (4, .int v11), (0, .ref a0), (1, .int x1), (2, .int x2), (3, .int x3)] dX11_find_15 (by decide) rfl ?_
  refine pv_sub [2, 3, 4, 5, 1, 0] rfl ?_
  exact r_X11_find_b17 W0 C hr hlk pq_fuel _ _ _ _ _ _ _ k0_ h
def F_X11_changesOf (G : pq_G) (S : pq_N) (a0 : Nat) (x1 : Int32) (x2 : Int32) : Option (Int32 × pq_N) := (pq_bd (F_X11_source G S a0 x1 x2) fun v11 S12 => (pq_bd (F_X11_find G S12 a0 x1 x2 v11) fun _ S15 => some ((S15.1 a0 14), S15)))
theorem inu_X11_changesOf_11 : ∀ w ∈ u_ws RX11 TX11 24, w ∈ wsX11_changesOf := pq_inu 40 rfl
set_option maxHeartbeats 4000000 in
set_option maxRecDepth 100000 in
theorem r_X11_changesOf {l : Launch} {D : va_G} {y : pq_Y} {G : pq_G} (W0 : pq_WT G) {S : pq_N} {a0 : Nat} {x1 : Int32} {x2 : Int32} (k0_ : pq_ok G 11 a0) {r : Int32} {S1 : pq_N} (h : F_X11_changesOf G S a0 x1 x2 = some (r, S1)) (sz : Nat) : Met l yX11_changesOf wsX11_changesOf ({ frames := 4, cells := 0, slots := 0, locals := 100 } : Room) (pq_P D y G S sz [.ref a0, .int x1, .int x2]) (pq_Qi D y G sz r S1) 0 0 (pq_A G sz) := by
  refine pq_enter RX11 3 (by decide) rfl rfl rfl ?_
  intro p e s m below meth c C hsz hr hlk
  subst hsz
  unfold F_X11_changesOf at h
  refine pv_sub (lo1 := [(0, .ref a0), (1, .int x1), (2, .int x2)]) [0, 1, 2] rfl ?_
  refine pv_aload_n C 0 dX11_changesOf_0 rfl rfl ?_
  refine pv_iload_n C 1 dX11_changesOf_1 rfl rfl ?_
  refine pv_iload_n C 2 dX11_changesOf_2 rfl rfl ?_
  refine pv_aload_n C 0 dX11_changesOf_3 rfl rfl ?_
  refine pv_iload_n C 1 dX11_changesOf_4 rfl rfl ?_
  refine pv_iload_n C 2 dX11_changesOf_5 rfl rfl ?_
  obtain ⟨v11, S12, e13, h⟩ := pq_bs h
  refine pv_calliV C (ci := 11) rfl (by decide) k0_ [.int x1, .int x2] (fun sz => r_X11_source W0 k0_ e13 sz) (cwV 2 C.1.2.2.2.2 gX11_changesOf_X11_source rfl rfl rfl (by decide +kernel) ⟨Nat.le_of_ble_eq_true rfl, Nat.le_of_ble_eq_true rfl⟩) rfl rfl (Nat.le_of_ble_eq_true rfl) dX11_changesOf_6 ⟨Nat.le_of_ble_eq_true rfl, Nat.le_of_ble_eq_true rfl⟩ ?_
  obtain ⟨⟨⟩, S15, e16, h⟩ := pq_bs h
  refine pv_callvV C (ci := 11) rfl (by decide) k0_ [.int x1, .int x2, .int v11] (fun sz => r_X11_find W0 k0_ e16 sz) (cwV 3 C.1.2.2.2.2 gX11_changesOf_X11_find rfl rfl rfl (by decide +kernel) ⟨Nat.le_of_ble_eq_true rfl, Nat.le_of_ble_eq_true rfl⟩) rfl rfl (Nat.le_of_ble_eq_true rfl) dX11_changesOf_9 ⟨Nat.le_of_ble_eq_true rfl, Nat.le_of_ble_eq_true rfl⟩ ?_
  refine pv_aload_n C 0 dX11_changesOf_12 rfl rfl ?_
  refine pv_geti (T := TX11) (N := 24) C 14 inu_X11_changesOf_11 rfl (by decide) (by decide) (List.mem_of_getElem? (i := 1) rfl) rfl k0_ dX11_changesOf_13 ?_
  exact pv_iret C hr hlk h dX11_changesOf_16
def F_X11_blame_b86 (G : pq_G) (c5 : pq_N → Nat → Int32 → Int32 → Int32 → Int32 → Option (Int32 × pq_N)) (c19 : pq_N → Nat → Int32 → Int32 → Int32 → Int32 → Int32 → Option (Int32 × pq_N)) (S : pq_N) (a0 : Nat) (x1 : Int32) (x2 : Int32) (x3 : Int32) (x4 : Int32) (x5 : Int32) (t0 : Int32) : Option (Int32 × pq_N) := (if t0 = (0 : Int32) then c19 S a0 x1 x2 (x3 + (0 : Int32)) x4 (x5 + (1 : Int32)) else (pq_bd (F_X11_changesOf G S a0 x4 x5) fun v33 S34 => c19 S34 a0 x1 x2 (x3 + v33) x4 (x5 + (1 : Int32))))
def F_X11_blame_b52 (G : pq_G) (c5 : pq_N → Nat → Int32 → Int32 → Int32 → Int32 → Option (Int32 × pq_N)) (c19 : pq_N → Nat → Int32 → Int32 → Int32 → Int32 → Int32 → Option (Int32 × pq_N)) (S : pq_N) (a0 : Nat) (x1 : Int32) (x2 : Int32) (x3 : Int32) (x4 : Int32) (x5 : Int32) (t0 : Int32) : Option (Int32 × pq_N) := (if t0 = (0 : Int32) then F_X11_blame_b86 G c5 c19 S a0 x1 x2 x3 x4 x5 (0 : Int32) else (if x2 = (-1 : Int32) then F_X11_blame_b86 G c5 c19 S a0 x1 x2 x3 x4 x5 (1 : Int32) else (pq_bd (F_X11_source G S a0 x4 x5) fun v25 S26 => (pq_bd (F_X11_get G S26 a0 v25 (2 : Int32)) fun v28 S29 => (if v28 = x2 then F_X11_blame_b86 G c5 c19 S29 a0 x1 x2 x3 x4 x5 (1 : Int32) else F_X11_blame_b86 G c5 c19 S29 a0 x1 x2 x3 x4 x5 (0 : Int32))))))
def F_X11_blame_b19 (G : pq_G) (c5 : pq_N → Nat → Int32 → Int32 → Int32 → Int32 → Option (Int32 × pq_N)) : Nat → pq_N → Nat → Int32 → Int32 → Int32 → Int32 → Int32 → Option (Int32 × pq_N)
  | 0, _, _, _, _, _, _, _ => none
  | n + 1, S, a0, x1, x2, x3, x4, x5 => (pq_bd (F_X11_get G S a0 x4 (5 : Int32)) fun v14 S15 => (if v14 ≤ x5 then c5 S15 a0 x1 x2 x3 (x4 + (1 : Int32)) else (if x1 = (-1 : Int32) then F_X11_blame_b52 G c5 ((F_X11_blame_b19 G c5 n)) S15 a0 x1 x2 x3 x4 x5 (1 : Int32) else (pq_bd (F_X11_get G S15 a0 x4 (2 : Int32)) fun v19 S20 => (if v19 = x1 then F_X11_blame_b52 G c5 ((F_X11_blame_b19 G c5 n)) S20 a0 x1 x2 x3 x4 x5 (1 : Int32) else F_X11_blame_b52 G c5 ((F_X11_blame_b19 G c5 n)) S20 a0 x1 x2 x3 x4 x5 (0 : Int32))))))
def F_X11_blame_b5 (G : pq_G)  : Nat → pq_N → Nat → Int32 → Int32 → Int32 → Int32 → Option (Int32 × pq_N)
  | 0, _, _, _, _, _, _ => none
  | n + 1, S, a0, x1, x2, x3, x4 => (if (1 : Int32) < 0 ∨ pq_n G (pq_r G a0 0) ≤ (Int32.toNatClampNeg (1 : Int32)) then none else (if (S.1 (pq_r G a0 0) (Int32.toNatClampNeg (1 : Int32))) ≤ x4 then some (x3, S) else F_X11_blame_b19 G ((F_X11_blame_b5 G n)) pq_fuel S a0 x1 x2 x3 x4 (0 : Int32)))
def F_X11_blame (G : pq_G) (S : pq_N) (a0 : Nat) (x1 : Int32) (x2 : Int32) : Option (Int32 × pq_N) := F_X11_blame_b5 G pq_fuel S a0 x1 x2 (0 : Int32) (0 : Int32)
theorem inu_X11_blame_11 : ∀ w ∈ u_ws RX11 TX11 24, w ∈ wsX11_blame := pq_inu 44 rfl
set_option maxHeartbeats 4000000 in
set_option maxRecDepth 100000 in
theorem r_X11_blame_b86 {p : Program} {l : Launch} {e : Env} {s : State} {m : MethodId} {av : Array Value} {below : List Frame} {meth : Method} {c : Code} {D : va_G} {y : pq_Y} {G : pq_G} {r : Int32} {S1 : pq_N} (W0 : pq_WT G) (C : pq_C p s m av c D y RX11 wsX11_blame cX11_blame 7) (hr : meth.sig.returnType = (some .int)) (hlk : meth.locks = false) {c5 : pq_N → Nat → Int32 → Int32 → Int32 → Int32 → Option (Int32 × pq_N)} (hk5 : ∀ (S : pq_N) (a0 : Nat) (x1 : Int32) (x2 : Int32) (x3 : Int32) (x4 : Int32), pq_ok G 11 a0 → c5 S a0 x1 x2 x3 x4 = some (r, S1) → pq_V p l e (headSpec wsX11_blame ({ frames := 5, cells := 0, slots := 0, locals := 122 } : Room)).room s m av below meth c 0 0 (MQ below (pq_Qi D y G s.heap.size r S1) av s 0 0 (pq_A G s.heap.size)) D y 7 (pq_A G s.heap.size) (fun _ => True) G S 5 [(0, .ref a0), (1, .int x1), (2, .int x2), (3, .int x3), (4, .int x4)] []) {c19 : pq_N → Nat → Int32 → Int32 → Int32 → Int32 → Int32 → Option (Int32 × pq_N)} (hk19 : ∀ (S : pq_N) (a0 : Nat) (x1 : Int32) (x2 : Int32) (x3 : Int32) (x4 : Int32) (x5 : Int32), pq_ok G 11 a0 → c19 S a0 x1 x2 x3 x4 x5 = some (r, S1) → pq_V p l e (headSpec wsX11_blame ({ frames := 5, cells := 0, slots := 0, locals := 122 } : Room)).room s m av below meth c 0 0 (MQ below (pq_Qi D y G s.heap.size r S1) av s 0 0 (pq_A G s.heap.size)) D y 7 (pq_A G s.heap.size) (fun _ => True) G S 19 [(0, .ref a0), (1, .int x1), (2, .int x2), (3, .int x3), (4, .int x4), (5, .int x5)] []) : ∀ (S : pq_N) (a0 : Nat) (x1 : Int32) (x2 : Int32) (x3 : Int32) (x4 : Int32) (x5 : Int32) (t0 : Int32), pq_ok G 11 a0 → F_X11_blame_b86 G c5 c19 S a0 x1 x2 x3 x4 x5 t0 = some (r, S1) → pq_V p l e (headSpec wsX11_blame ({ frames := 5, cells := 0, slots := 0, locals := 122 } : Room)).room s m av below meth c 0 0 (MQ below (pq_Qi D y G s.heap.size r S1) av s 0 0 (pq_A G s.heap.size)) D y 7 (pq_A G s.heap.size) (fun _ => True) G S 86 [(0, .ref a0), (1, .int x1), (2, .int x2), (3, .int x3), (4, .int x4), (5, .int x5)] [.int t0] := by
  intro S a0 x1 x2 x3 x4 x5 t0 k0_ h
  unfold F_X11_blame_b86 at h
  refine pv_istore C [(6, .int t0), (0, .ref a0), (1, .int x1), (2, .int x2), (3, .int x3), (4, .int x4), (5, .int x5)] dX11_blame_86 (by decide) rfl ?_
  refine pv_iload_n C 4 dX11_blame_88 rfl rfl ?_
  refine pv_iload C 0 dX11_blame_89 rfl ?_
  refine pv_if_eq (tgt := 105) C dX11_blame_91 (by decide) (fun c32 => ?_) (fun c32 => ?_)
  · have h := pq_it c32 h
    refine pv_iconst (v := 0) C dX11_blame_105 (by decide) ?_
    refine pv_iadd C dX11_blame_106 ?_
    refine pv_istore_n C [(3, .int (x3 + (0 : Int32))), (6, .int t0), (0, .ref a0), (1, .int x1), (2, .int x2), (4, .int x4), (5, .int x5)] dX11_blame_107 rfl (by decide) rfl ?_
    refine pv_iinc (v := (x5 + (1 : Int32))) C 6 [(5, .int (x5 + (1 : Int32))), (3, .int (x3 + (0 : Int32))), (6, .int t0), (0, .ref a0), (1, .int x1), (2, .int x2), (4, .int x4)] dX11_blame_108 rfl rfl (by decide) rfl ?_
    refine pv_goto (tgt := 19) C dX11_blame_111 (by decide) ?_
    refine pv_sub [3, 4, 5, 1, 6, 0] rfl ?_
    exact hk19 _ _ _ _ _ _ _ k0_ h
  · have h := pq_if c32 h
    refine pv_aload_n C 1 dX11_blame_94 rfl rfl ?_
    refine pv_iload C 5 dX11_blame_95 rfl ?_
    refine pv_iload C 6 dX11_blame_97 rfl ?_
    obtain ⟨v33, S34, e35, h⟩ := pq_bs h
    refine pv_calliV C (ci := 11) rfl (by decide) k0_ [.int x4, .int x5] (fun sz => r_X11_changesOf W0 k0_ e35 sz) (cwV 2 C.1.2.2.2.2 gX11_blame_X11_changesOf rfl rfl rfl (by decide +kernel) ⟨Nat.le_of_ble_eq_true rfl, Nat.le_of_ble_eq_true rfl⟩) rfl rfl (Nat.le_of_ble_eq_true rfl) dX11_blame_99 ⟨Nat.le_of_ble_eq_true rfl, Nat.le_of_ble_eq_true rfl⟩ ?_
    refine pv_goto (tgt := 106) C dX11_blame_102 (by decide) ?_
    refine pv_iadd C dX11_blame_106 ?_
    refine pv_istore_n C [(3, .int (x3 + v33)), (6, .int t0), (0, .ref a0), (1, .int x1), (2, .int x2), (4, .int x4), (5, .int x5)] dX11_blame_107 rfl (by decide) rfl ?_
    refine pv_iinc (v := (x5 + (1 : Int32))) C 6 [(5, .int (x5 + (1 : Int32))), (3, .int (x3 + v33)), (6, .int t0), (0, .ref a0), (1, .int x1), (2, .int x2), (4, .int x4)] dX11_blame_108 rfl rfl (by decide) rfl ?_
    refine pv_goto (tgt := 19) C dX11_blame_111 (by decide) ?_
    refine pv_sub [3, 4, 5, 1, 6, 0] rfl ?_
    exact hk19 _ _ _ _ _ _ _ k0_ h
set_option maxHeartbeats 4000000 in
set_option maxRecDepth 100000 in
theorem r_X11_blame_b52 {p : Program} {l : Launch} {e : Env} {s : State} {m : MethodId} {av : Array Value} {below : List Frame} {meth : Method} {c : Code} {D : va_G} {y : pq_Y} {G : pq_G} {r : Int32} {S1 : pq_N} (W0 : pq_WT G) (C : pq_C p s m av c D y RX11 wsX11_blame cX11_blame 7) (hr : meth.sig.returnType = (some .int)) (hlk : meth.locks = false) {c5 : pq_N → Nat → Int32 → Int32 → Int32 → Int32 → Option (Int32 × pq_N)} (hk5 : ∀ (S : pq_N) (a0 : Nat) (x1 : Int32) (x2 : Int32) (x3 : Int32) (x4 : Int32), pq_ok G 11 a0 → c5 S a0 x1 x2 x3 x4 = some (r, S1) → pq_V p l e (headSpec wsX11_blame ({ frames := 5, cells := 0, slots := 0, locals := 122 } : Room)).room s m av below meth c 0 0 (MQ below (pq_Qi D y G s.heap.size r S1) av s 0 0 (pq_A G s.heap.size)) D y 7 (pq_A G s.heap.size) (fun _ => True) G S 5 [(0, .ref a0), (1, .int x1), (2, .int x2), (3, .int x3), (4, .int x4)] []) {c19 : pq_N → Nat → Int32 → Int32 → Int32 → Int32 → Int32 → Option (Int32 × pq_N)} (hk19 : ∀ (S : pq_N) (a0 : Nat) (x1 : Int32) (x2 : Int32) (x3 : Int32) (x4 : Int32) (x5 : Int32), pq_ok G 11 a0 → c19 S a0 x1 x2 x3 x4 x5 = some (r, S1) → pq_V p l e (headSpec wsX11_blame ({ frames := 5, cells := 0, slots := 0, locals := 122 } : Room)).room s m av below meth c 0 0 (MQ below (pq_Qi D y G s.heap.size r S1) av s 0 0 (pq_A G s.heap.size)) D y 7 (pq_A G s.heap.size) (fun _ => True) G S 19 [(0, .ref a0), (1, .int x1), (2, .int x2), (3, .int x3), (4, .int x4), (5, .int x5)] []) : ∀ (S : pq_N) (a0 : Nat) (x1 : Int32) (x2 : Int32) (x3 : Int32) (x4 : Int32) (x5 : Int32) (t0 : Int32), pq_ok G 11 a0 → F_X11_blame_b52 G c5 c19 S a0 x1 x2 x3 x4 x5 t0 = some (r, S1) → pq_V p l e (headSpec wsX11_blame ({ frames := 5, cells := 0, slots := 0, locals := 122 } : Room)).room s m av below meth c 0 0 (MQ below (pq_Qi D y G s.heap.size r S1) av s 0 0 (pq_A G s.heap.size)) D y 7 (pq_A G s.heap.size) (fun _ => True) G S 52 [(0, .ref a0), (1, .int x1), (2, .int x2), (3, .int x3), (4, .int x4), (5, .int x5)] [.int t0] := by
  intro S a0 x1 x2 x3 x4 x5 t0 k0_ h
  unfold F_X11_blame_b52 at h
  refine pv_istore C [(6, .int t0), (0, .ref a0), (1, .int x1), (2, .int x2), (3, .int x3), (4, .int x4), (5, .int x5)] dX11_blame_52 (by decide) rfl ?_
  refine pv_iload C 0 dX11_blame_54 rfl ?_
  refine pv_if_eq (tgt := 85) C dX11_blame_56 (by decide) (fun c23 => ?_) (fun c23 => ?_)
  · have h := pq_it c23 h
    refine pv_iconst (v := 0) C dX11_blame_85 (by decide) ?_
    refine pv_sub [1, 2, 3, 4, 5, 6] rfl ?_
    exact r_X11_blame_b86 W0 C hr hlk hk5 hk19 _ _ _ _ _ _ _ _ k0_ h
  · have h := pq_if c23 h
    refine pv_iload_n C 3 dX11_blame_59 rfl rfl ?_
    refine pv_iconst (v := -1) C dX11_blame_60 (by decide) ?_
    refine pv_icmp_eq (tgt := 81) C dX11_blame_61 (by decide) (fun c24 => ?_) (fun c24 => ?_)
    · have h := pq_it c24 h
      refine pv_iconst (v := 1) C dX11_blame_81 (by decide) ?_
      refine pv_goto (tgt := 86) C dX11_blame_82 (by decide) ?_
      refine pv_sub [1, 2, 3, 4, 5, 6] rfl ?_
      exact r_X11_blame_b86 W0 C hr hlk hk5 hk19 _ _ _ _ _ _ _ _ k0_ h
    · have h := pq_if c24 h
      refine pv_aload_n C 1 dX11_blame_64 rfl rfl ?_
      refine pv_aload_n C 1 dX11_blame_65 rfl rfl ?_
      refine pv_iload C 5 dX11_blame_66 rfl ?_
      refine pv_iload C 6 dX11_blame_68 rfl ?_
      obtain ⟨v25, S26, e27, h⟩ := pq_bs h
      refine pv_calliV C (ci := 11) rfl (by decide) k0_ [.int x4, .int x5] (fun sz => r_X11_source W0 k0_ e27 sz) (cwV 2 C.1.2.2.2.2 gX11_blame_X11_source rfl rfl rfl (by decide +kernel) ⟨Nat.le_of_ble_eq_true rfl, Nat.le_of_ble_eq_true rfl⟩) rfl rfl (Nat.le_of_ble_eq_true rfl) dX11_blame_70 ⟨Nat.le_of_ble_eq_true rfl, Nat.le_of_ble_eq_true rfl⟩ ?_
      refine pv_iconst (v := 2) C dX11_blame_73 (by decide) ?_
      obtain ⟨v28, S29, e30, h⟩ := pq_bs h
      refine pv_calliV C (ci := 11) rfl (by decide) k0_ [.int v25, .int (2 : Int32)] (fun sz => r_X11_get W0 k0_ e30 sz) (cwV 2 C.1.2.2.2.2 gX11_blame_X11_get rfl rfl rfl (by decide +kernel) ⟨Nat.le_of_ble_eq_true rfl, Nat.le_of_ble_eq_true rfl⟩) rfl rfl (Nat.le_of_ble_eq_true rfl) dX11_blame_74 ⟨Nat.le_of_ble_eq_true rfl, Nat.le_of_ble_eq_true rfl⟩ ?_
      refine pv_iload_n C 3 dX11_blame_77 rfl rfl ?_
      refine pv_icmp_ne (tgt := 85) C dX11_blame_78 (by decide) (fun c31 => ?_) (fun c31 => ?_)
      · have h := pq_if c31 h
        refine pv_iconst (v := 0) C dX11_blame_85 (by decide) ?_
        refine pv_sub [1, 2, 3, 4, 5, 6] rfl ?_
        exact r_X11_blame_b86 W0 C hr hlk hk5 hk19 _ _ _ _ _ _ _ _ k0_ h
      · have h := pq_it c31 h
        refine pv_iconst (v := 1) C dX11_blame_81 (by decide) ?_
        refine pv_goto (tgt := 86) C dX11_blame_82 (by decide) ?_
        refine pv_sub [1, 2, 3, 4, 5, 6] rfl ?_
        exact r_X11_blame_b86 W0 C hr hlk hk5 hk19 _ _ _ _ _ _ _ _ k0_ h
set_option maxHeartbeats 4000000 in
set_option maxRecDepth 100000 in
theorem r_X11_blame_b19 {p : Program} {l : Launch} {e : Env} {s : State} {m : MethodId} {av : Array Value} {below : List Frame} {meth : Method} {c : Code} {D : va_G} {y : pq_Y} {G : pq_G} {r : Int32} {S1 : pq_N} (W0 : pq_WT G) (C : pq_C p s m av c D y RX11 wsX11_blame cX11_blame 7) (hr : meth.sig.returnType = (some .int)) (hlk : meth.locks = false) {c5 : pq_N → Nat → Int32 → Int32 → Int32 → Int32 → Option (Int32 × pq_N)} (hk5 : ∀ (S : pq_N) (a0 : Nat) (x1 : Int32) (x2 : Int32) (x3 : Int32) (x4 : Int32), pq_ok G 11 a0 → c5 S a0 x1 x2 x3 x4 = some (r, S1) → pq_V p l e (headSpec wsX11_blame ({ frames := 5, cells := 0, slots := 0, locals := 122 } : Room)).room s m av below meth c 0 0 (MQ below (pq_Qi D y G s.heap.size r S1) av s 0 0 (pq_A G s.heap.size)) D y 7 (pq_A G s.heap.size) (fun _ => True) G S 5 [(0, .ref a0), (1, .int x1), (2, .int x2), (3, .int x3), (4, .int x4)] []) (n : Nat) : ∀ (S : pq_N) (a0 : Nat) (x1 : Int32) (x2 : Int32) (x3 : Int32) (x4 : Int32) (x5 : Int32), pq_ok G 11 a0 → F_X11_blame_b19 G c5 n S a0 x1 x2 x3 x4 x5 = some (r, S1) → pq_V p l e (headSpec wsX11_blame ({ frames := 5, cells := 0, slots := 0, locals := 122 } : Room)).room s m av below meth c 0 0 (MQ below (pq_Qi D y G s.heap.size r S1) av s 0 0 (pq_A G s.heap.size)) D y 7 (pq_A G s.heap.size) (fun _ => True) G S 19 [(0, .ref a0), (1, .int x1), (2, .int x2), (3, .int x3), (4, .int x4), (5, .int x5)] [] := by
  induction n with
  | zero =>
    intro S a0 x1 x2 x3 x4 x5 k0_ h
    rw [F_X11_blame_b19.eq_1] at h; cases h
  | succ n ih =>
    intro S a0 x1 x2 x3 x4 x5 k0_ h
    rw [F_X11_blame_b19.eq_2] at h
    refine pv_iload C 5 dX11_blame_19 rfl ?_
    refine pv_aload_n C 0 dX11_blame_21 rfl rfl ?_
    refine pv_iload C 4 dX11_blame_22 rfl ?_
    refine pv_iconst (v := 5) C dX11_blame_24 (by decide) ?_
    obtain ⟨v14, S15, e16, h⟩ := pq_bs h
    refine pv_calliV C (ci := 11) rfl (by decide) k0_ [.int x4, .int (5 : Int32)] (fun sz => r_X11_get W0 k0_ e16 sz) (cwV 2 C.1.2.2.2.2 gX11_blame_X11_get rfl rfl rfl (by decide +kernel) ⟨Nat.le_of_ble_eq_true rfl, Nat.le_of_ble_eq_true rfl⟩) rfl rfl (Nat.le_of_ble_eq_true rfl) dX11_blame_25 ⟨Nat.le_of_ble_eq_true rfl, Nat.le_of_ble_eq_true rfl⟩ ?_
    refine pv_icmp_ge (tgt := 114) C dX11_blame_28 (by decide) (fun c17 => ?_) (fun c17 => ?_)
    · have h := pq_it c17 h
      refine pv_iinc (v := (x4 + (1 : Int32))) C 4 [(4, .int (x4 + (1 : Int32))), (0, .ref a0), (1, .int x1), (2, .int x2), (3, .int x3), (5, .int x5)] dX11_blame_114 rfl rfl (by decide) rfl ?_
      refine pv_goto (tgt := 5) C dX11_blame_117 (by decide) ?_
      refine pv_sub [1, 2, 3, 4, 0] rfl ?_
      exact hk5 _ _ _ _ _ _ k0_ h
    · have h := pq_if c17 h
      refine pv_iload_n C 1 dX11_blame_31 rfl rfl ?_
      refine pv_iconst (v := -1) C dX11_blame_32 (by decide) ?_
      refine pv_icmp_eq (tgt := 47) C dX11_blame_33 (by decide) (fun c18 => ?_) (fun c18 => ?_)
      · have h := pq_it c18 h
        refine pv_iconst (v := 1) C dX11_blame_47 (by decide) ?_
        refine pv_goto (tgt := 52) C dX11_blame_48 (by decide) ?_
        refine pv_sub [0, 1, 2, 3, 4, 5] rfl ?_
        exact r_X11_blame_b52 W0 C hr hlk hk5 ih _ _ _ _ _ _ _ _ k0_ h
      · have h := pq_if c18 h
        refine pv_aload_n C 0 dX11_blame_36 rfl rfl ?_
        refine pv_iload C 4 dX11_blame_37 rfl ?_
        refine pv_iconst (v := 2) C dX11_blame_39 (by decide) ?_
        obtain ⟨v19, S20, e21, h⟩ := pq_bs h
        refine pv_calliV C (ci := 11) rfl (by decide) k0_ [.int x4, .int (2 : Int32)] (fun sz => r_X11_get W0 k0_ e21 sz) (cwV 2 C.1.2.2.2.2 gX11_blame_X11_get rfl rfl rfl (by decide +kernel) ⟨Nat.le_of_ble_eq_true rfl, Nat.le_of_ble_eq_true rfl⟩) rfl rfl (Nat.le_of_ble_eq_true rfl) dX11_blame_40 ⟨Nat.le_of_ble_eq_true rfl, Nat.le_of_ble_eq_true rfl⟩ ?_
        refine pv_iload_n C 1 dX11_blame_43 rfl rfl ?_
        refine pv_icmp_ne (tgt := 51) C dX11_blame_44 (by decide) (fun c22 => ?_) (fun c22 => ?_)
        · have h := pq_if c22 h
          refine pv_iconst (v := 0) C dX11_blame_51 (by decide) ?_
          refine pv_sub [0, 1, 2, 3, 4, 5] rfl ?_
          exact r_X11_blame_b52 W0 C hr hlk hk5 ih _ _ _ _ _ _ _ _ k0_ h
        · have h := pq_it c22 h
          refine pv_iconst (v := 1) C dX11_blame_47 (by decide) ?_
          refine pv_goto (tgt := 52) C dX11_blame_48 (by decide) ?_
          refine pv_sub [0, 1, 2, 3, 4, 5] rfl ?_
          exact r_X11_blame_b52 W0 C hr hlk hk5 ih _ _ _ _ _ _ _ _ k0_ h
set_option maxHeartbeats 4000000 in
set_option maxRecDepth 100000 in
theorem r_X11_blame_b5 {p : Program} {l : Launch} {e : Env} {s : State} {m : MethodId} {av : Array Value} {below : List Frame} {meth : Method} {c : Code} {D : va_G} {y : pq_Y} {G : pq_G} {r : Int32} {S1 : pq_N} (W0 : pq_WT G) (C : pq_C p s m av c D y RX11 wsX11_blame cX11_blame 7) (hr : meth.sig.returnType = (some .int)) (hlk : meth.locks = false) (n : Nat) : ∀ (S : pq_N) (a0 : Nat) (x1 : Int32) (x2 : Int32) (x3 : Int32) (x4 : Int32), pq_ok G 11 a0 → F_X11_blame_b5 G n S a0 x1 x2 x3 x4 = some (r, S1) → pq_V p l e (headSpec wsX11_blame ({ frames := 5, cells := 0, slots := 0, locals := 122 } : Room)).room s m av below meth c 0 0 (MQ below (pq_Qi D y G s.heap.size r S1) av s 0 0 (pq_A G s.heap.size)) D y 7 (pq_A G s.heap.size) (fun _ => True) G S 5 [(0, .ref a0), (1, .int x1), (2, .int x2), (3, .int x3), (4, .int x4)] [] := by
  induction n with
  | zero =>
    intro S a0 x1 x2 x3 x4 k0_ h
    rw [F_X11_blame_b5.eq_1] at h; cases h
  | succ n ih =>
    intro S a0 x1 x2 x3 x4 k0_ h
    rw [F_X11_blame_b5.eq_2] at h
    refine pv_iload C 4 dX11_blame_5 rfl ?_
    refine pv_aload_n C 0 dX11_blame_7 rfl rfl ?_
    have k11 := pq_wt (k := 0) W0 k0_ rfl
    refine pv_getr (T := TX11) (N := 24) C 0 inu_X11_blame_11 rfl (by decide) (by decide) (List.mem_of_getElem? (i := 1) rfl) rfl k0_ k11.1 dX11_blame_8 ?_
    refine pv_iconst (v := 1) C dX11_blame_11 (by decide) ?_
    obtain ⟨g12, h⟩ := pq_gd h
    refine pv_iaload C k11.2 g12 dX11_blame_12 ?_
    refine pv_icmp_ge (tgt := 120) C dX11_blame_13 (by decide) (fun c13 => ?_) (fun c13 => ?_)
    · have h := pq_it c13 h
      refine pv_iload_n C 3 dX11_blame_120 rfl rfl ?_
      exact pv_iret C hr hlk h dX11_blame_121
    · have h := pq_if c13 h
      refine pv_iconst (v := 0) C dX11_blame_16 (by decide) ?_
      refine pv_istore C [(5, .int (0 : Int32)), (0, .ref a0), (1, .int x1), (2, .int x2), (3, .int x3), (4, .int x4)] dX11_blame_17 (by decide) rfl ?_
      refine pv_sub [1, 2, 3, 4, 5, 0] rfl ?_
      exact r_X11_blame_b19 W0 C hr hlk ih pq_fuel _ _ _ _ _ _ _ k0_ h
set_option maxHeartbeats 4000000 in
set_option maxRecDepth 100000 in
theorem r_X11_blame {l : Launch} {D : va_G} {y : pq_Y} {G : pq_G} (W0 : pq_WT G) {S : pq_N} {a0 : Nat} {x1 : Int32} {x2 : Int32} (k0_ : pq_ok G 11 a0) {r : Int32} {S1 : pq_N} (h : F_X11_blame G S a0 x1 x2 = some (r, S1)) (sz : Nat) : Met l yX11_blame wsX11_blame ({ frames := 5, cells := 0, slots := 0, locals := 122 } : Room) (pq_P D y G S sz [.ref a0, .int x1, .int x2]) (pq_Qi D y G sz r S1) 0 0 (pq_A G sz) := by
  refine pq_enter RX11 7 (by decide) rfl rfl rfl ?_
  intro p e s m below meth c C hsz hr hlk
  subst hsz
  unfold F_X11_blame at h
  refine pv_sub (lo1 := [(0, .ref a0), (1, .int x1), (2, .int x2)]) [0, 1, 2] rfl ?_
  refine pv_iconst (v := 0) C dX11_blame_0 (by decide) ?_
  refine pv_istore_n C [(3, .int (0 : Int32)), (0, .ref a0), (1, .int x1), (2, .int x2)] dX11_blame_1 rfl (by decide) rfl ?_
  refine pv_iconst (v := 0) C dX11_blame_2 (by decide) ?_
  refine pv_istore C [(4, .int (0 : Int32)), (3, .int (0 : Int32)), (0, .ref a0), (1, .int x1), (2, .int x2)] dX11_blame_3 (by decide) rfl ?_
  refine pv_sub [2, 3, 4, 1, 0] rfl ?_
  exact r_X11_blame_b5 W0 C hr hlk pq_fuel _ _ _ _ _ _ k0_ h
def F_X11_byTable_b26 (G : pq_G)  : Nat → pq_N → Nat → Int32 → Int32 → Int32 → Int32 → Int32 → Int32 → Option (Int32 × pq_N)
  | 0, _, _, _, _, _, _, _, _ => none
  | n + 1, S, a0, x1, x2, x3, x4, x5, x6 => (pq_bd (F_X11_get G S a0 x4 (4 : Int32)) fun v20 S21 => (if v20 ≤ x6 then some (x5, S21) else (pq_bd (F_X11_word G S21 a0 x4 x6) fun v24 S25 => (pq_bd (F_X11_goOn G S25 a0 x1 x2 v24 (1 : Int32)) fun _ S28 => (if x3 < 0 ∨ pq_n G (pq_r G a0 13) ≤ (Int32.toNatClampNeg x3) then none else (if x5 ≤ (S28.1 (pq_r G a0 13) (Int32.toNatClampNeg x3)) then (F_X11_byTable_b26 G n) S28 a0 x1 x2 x3 x4 x5 (x6 + (1 : Int32)) else (if x3 < 0 ∨ pq_n G (pq_r G a0 13) ≤ (Int32.toNatClampNeg x3) then none else (pq_lt (S28.1 (pq_r G a0 13) (Int32.toNatClampNeg x3)) fun i35 => (F_X11_byTable_b26 G n) S28 a0 x1 x2 x3 x4 i35 (x6 + (1 : Int32))))))))))
def F_X11_byTable (G : pq_G) (S : pq_N) (a0 : Nat) (x1 : Int32) (x2 : Int32) : Option (Int32 × pq_N) := (pq_bd (F_X11_size G S a0 x1 x2) fun v11 S12 => (pq_bd (F_X11_source G S12 a0 x1 x2) fun v14 S15 => (pq_bd (F_X11_start G S15 a0 v11) fun _ S18 => F_X11_byTable_b26 G pq_fuel S18 a0 x1 x2 v11 v14 v11 (0 : Int32))))
theorem inu_X11_byTable_11 : ∀ w ∈ u_ws RX11 TX11 24, w ∈ wsX11_byTable := pq_inu 33 rfl
set_option maxHeartbeats 4000000 in
set_option maxRecDepth 100000 in
theorem r_X11_byTable_b26 {p : Program} {l : Launch} {e : Env} {s : State} {m : MethodId} {av : Array Value} {below : List Frame} {meth : Method} {c : Code} {D : va_G} {y : pq_Y} {G : pq_G} {r : Int32} {S1 : pq_N} (W0 : pq_WT G) (C : pq_C p s m av c D y RX11 wsX11_byTable cX11_byTable 7) (hr : meth.sig.returnType = (some .int)) (hlk : meth.locks = false) (n : Nat) : ∀ (S : pq_N) (a0 : Nat) (x1 : Int32) (x2 : Int32) (x3 : Int32) (x4 : Int32) (x5 : Int32) (x6 : Int32), pq_ok G 11 a0 → F_X11_byTable_b26 G n S a0 x1 x2 x3 x4 x5 x6 = some (r, S1) → pq_V p l e (headSpec wsX11_byTable ({ frames := 3, cells := 0, slots := 0, locals := 74 } : Room)).room s m av below meth c 0 0 (MQ below (pq_Qi D y G s.heap.size r S1) av s 0 0 (pq_A G s.heap.size)) D y 7 (pq_A G s.heap.size) (fun _ => True) G S 26 [(0, .ref a0), (1, .int x1), (2, .int x2), (3, .int x3), (4, .int x4), (5, .int x5), (6, .int x6)] [] := by
  induction n with
  | zero =>
    intro S a0 x1 x2 x3 x4 x5 x6 k0_ h
    rw [F_X11_byTable_b26.eq_1] at h; cases h
  | succ n ih =>
    intro S a0 x1 x2 x3 x4 x5 x6 k0_ h
    rw [F_X11_byTable_b26.eq_2] at h
    refine pv_iload C 6 dX11_byTable_26 rfl ?_
    refine pv_aload_n C 0 dX11_byTable_28 rfl rfl ?_
    refine pv_iload C 4 dX11_byTable_29 rfl ?_
    refine pv_iconst (v := 4) C dX11_byTable_31 (by decide) ?_
    obtain ⟨v20, S21, e22, h⟩ := pq_bs h
    refine pv_calliV C (ci := 11) rfl (by decide) k0_ [.int x4, .int (4 : Int32)] (fun sz => r_X11_get W0 k0_ e22 sz) (cwV 2 C.1.2.2.2.2 gX11_byTable_X11_get rfl rfl rfl (by decide +kernel) ⟨Nat.le_of_ble_eq_true rfl, Nat.le_of_ble_eq_true rfl⟩) rfl rfl (Nat.le_of_ble_eq_true rfl) dX11_byTable_32 ⟨Nat.le_of_ble_eq_true rfl, Nat.le_of_ble_eq_true rfl⟩ ?_
    refine pv_icmp_ge (tgt := 83) C dX11_byTable_35 (by decide) (fun c23 => ?_) (fun c23 => ?_)
    · have h := pq_it c23 h
      refine pv_iload C 5 dX11_byTable_83 rfl ?_
      exact pv_iret C hr hlk h dX11_byTable_85
    · have h := pq_if c23 h
      refine pv_aload_n C 0 dX11_byTable_38 rfl rfl ?_
      refine pv_iload_n C 1 dX11_byTable_39 rfl rfl ?_
      refine pv_iload_n C 2 dX11_byTable_40 rfl rfl ?_
      refine pv_aload_n C 0 dX11_byTable_41 rfl rfl ?_
      refine pv_iload C 4 dX11_byTable_42 rfl ?_
      refine pv_iload C 6 dX11_byTable_44 rfl ?_
      obtain ⟨v24, S25, e26, h⟩ := pq_bs h
      refine pv_calllV C (ci := 11) rfl (by decide) k0_ [.int x4, .int x6] (fun sz => r_X11_word W0 k0_ e26 sz) (cwV 2 C.1.2.2.2.2 gX11_byTable_X11_word rfl rfl rfl (by decide +kernel) ⟨Nat.le_of_ble_eq_true rfl, Nat.le_of_ble_eq_true rfl⟩) rfl rfl (Nat.le_of_ble_eq_true rfl) dX11_byTable_46 ⟨Nat.le_of_ble_eq_true rfl, Nat.le_of_ble_eq_true rfl⟩ ?_
      refine pv_iconst (v := 1) C dX11_byTable_49 (by decide) ?_
      obtain ⟨⟨⟩, S28, e29, h⟩ := pq_bs h
      refine pv_callvV C (ci := 11) rfl (by decide) k0_ [.int x1, .int x2, .long v24, .int (1 : Int32)] (fun sz => r_X11_goOn W0 k0_ e29 sz) (cwV 4 C.1.2.2.2.2 gX11_byTable_X11_goOn rfl rfl rfl (by decide +kernel) ⟨Nat.le_of_ble_eq_true rfl, Nat.le_of_ble_eq_true rfl⟩) rfl rfl (Nat.le_of_ble_eq_true rfl) dX11_byTable_50 ⟨Nat.le_of_ble_eq_true rfl, Nat.le_of_ble_eq_true rfl⟩ ?_
      refine pv_aload_n C 0 dX11_byTable_53 rfl rfl ?_
      have k30 := pq_wt (k := 13) W0 k0_ rfl
      refine pv_getr (T := TX11) (N := 24) C 13 inu_X11_byTable_11 rfl (by decide) (by decide) (List.mem_of_getElem? (i := 1) rfl) rfl k0_ k30.1 dX11_byTable_54 ?_
      refine pv_iload_n C 3 dX11_byTable_57 rfl rfl ?_
      obtain ⟨g31, h⟩ := pq_gd h
      refine pv_iaload C k30.2 g31 dX11_byTable_58 ?_
      refine pv_iload C 5 dX11_byTable_59 rfl ?_
      refine pv_icmp_ge (tgt := 73) C dX11_byTable_61 (by decide) (fun c32 => ?_) (fun c32 => ?_)
      · have h := pq_it c32 h
        refine pv_iload C 5 dX11_byTable_73 rfl ?_
        refine pv_istore C [(5, .int x5), (0, .ref a0), (1, .int x1), (2, .int x2), (3, .int x3), (4, .int x4), (6, .int x6)] dX11_byTable_75 (by decide) rfl ?_
        refine pv_iinc (v := (x6 + (1 : Int32))) C 6 [(6, .int (x6 + (1 : Int32))), (5, .int x5), (0, .ref a0), (1, .int x1), (2, .int x2), (3, .int x3), (4, .int x4)] dX11_byTable_77 rfl rfl (by decide) rfl ?_
        refine pv_goto (tgt := 26) C dX11_byTable_80 (by decide) ?_
        refine pv_sub [2, 3, 4, 5, 6, 1, 0] rfl ?_
        exact ih _ _ _ _ _ _ _ _ k0_ h
      · have h := pq_if c32 h
        refine pv_aload_n C 0 dX11_byTable_64 rfl rfl ?_
        have k33 := pq_wt (k := 13) W0 k0_ rfl
        refine pv_getr (T := TX11) (N := 24) C 13 inu_X11_byTable_11 rfl (by decide) (by decide) (List.mem_of_getElem? (i := 1) rfl) rfl k0_ k33.1 dX11_byTable_65 ?_
        refine pv_iload_n C 3 dX11_byTable_68 rfl rfl ?_
        obtain ⟨g34, h⟩ := pq_gd h
        refine pv_iaload C k33.2 g34 dX11_byTable_69 ?_
        refine pv_goto (tgt := 75) C dX11_byTable_70 (by decide) ?_
        refine pv_nmi (fun i35 e36 => ?_)
        have h := pq_ls e36 h
        refine pv_istore C [(5, .int i35), (0, .ref a0), (1, .int x1), (2, .int x2), (3, .int x3), (4, .int x4), (6, .int x6)] dX11_byTable_75 (by decide) rfl ?_
        refine pv_iinc (v := (x6 + (1 : Int32))) C 6 [(6, .int (x6 + (1 : Int32))), (5, .int i35), (0, .ref a0), (1, .int x1), (2, .int x2), (3, .int x3), (4, .int x4)] dX11_byTable_77 rfl rfl (by decide) rfl ?_
        refine pv_goto (tgt := 26) C dX11_byTable_80 (by decide) ?_
        refine pv_sub [2, 3, 4, 5, 6, 1, 0] rfl ?_
        exact ih _ _ _ _ _ _ _ _ k0_ h
set_option maxHeartbeats 4000000 in
set_option maxRecDepth 100000 in
theorem r_X11_byTable {l : Launch} {D : va_G} {y : pq_Y} {G : pq_G} (W0 : pq_WT G) {S : pq_N} {a0 : Nat} {x1 : Int32} {x2 : Int32} (k0_ : pq_ok G 11 a0) {r : Int32} {S1 : pq_N} (h : F_X11_byTable G S a0 x1 x2 = some (r, S1)) (sz : Nat) : Met l yX11_byTable wsX11_byTable ({ frames := 3, cells := 0, slots := 0, locals := 74 } : Room) (pq_P D y G S sz [.ref a0, .int x1, .int x2]) (pq_Qi D y G sz r S1) 0 0 (pq_A G sz) := by
  refine pq_enter RX11 7 (by decide) rfl rfl rfl ?_
  intro p e s m below meth c C hsz hr hlk
  subst hsz
  unfold F_X11_byTable at h
  refine pv_sub (lo1 := [(0, .ref a0), (1, .int x1), (2, .int x2)]) [0, 1, 2] rfl ?_
  refine pv_aload_n C 0 dX11_byTable_0 rfl rfl ?_
  refine pv_iload_n C 1 dX11_byTable_1 rfl rfl ?_
  refine pv_iload_n C 2 dX11_byTable_2 rfl rfl ?_
  obtain ⟨v11, S12, e13, h⟩ := pq_bs h
  refine pv_calliV C (ci := 11) rfl (by decide) k0_ [.int x1, .int x2] (fun sz => r_X11_size W0 k0_ e13 sz) (cwV 2 C.1.2.2.2.2 gX11_byTable_X11_size rfl rfl rfl (by decide +kernel) ⟨Nat.le_of_ble_eq_true rfl, Nat.le_of_ble_eq_true rfl⟩) rfl rfl (Nat.le_of_ble_eq_true rfl) dX11_byTable_3 ⟨Nat.le_of_ble_eq_true rfl, Nat.le_of_ble_eq_true rfl⟩ ?_
  refine pv_istore_n C [(3, .int v11), (0, .ref a0), (1, .int x1), (2, .int x2)] dX11_byTable_6 rfl (by decide) rfl ?_
  refine pv_aload_n C 1 dX11_byTable_7 rfl rfl ?_
  refine pv_iload_n C 2 dX11_byTable_8 rfl rfl ?_
  refine pv_iload_n C 3 dX11_byTable_9 rfl rfl ?_
  obtain ⟨v14, S15, e16, h⟩ := pq_bs h
  refine pv_calliV C (ci := 11) rfl (by decide) k0_ [.int x1, .int x2] (fun sz => r_X11_source W0 k0_ e16 sz) (cwV 2 C.1.2.2.2.2 gX11_byTable_X11_source rfl rfl rfl (by decide +kernel) ⟨Nat.le_of_ble_eq_true rfl, Nat.le_of_ble_eq_true rfl⟩) rfl rfl (Nat.le_of_ble_eq_true rfl) dX11_byTable_10 ⟨Nat.le_of_ble_eq_true rfl, Nat.le_of_ble_eq_true rfl⟩ ?_
  refine pv_istore C [(4, .int v14), (3, .int v11), (0, .ref a0), (1, .int x1), (2, .int x2)] dX11_byTable_13 (by decide) rfl ?_
  refine pv_iload_n C 1 dX11_byTable_15 rfl rfl ?_
  refine pv_istore C [(5, .int v11), (4, .int v14), (3, .int v11), (0, .ref a0), (1, .int x1), (2, .int x2)] dX11_byTable_16 (by decide) rfl ?_
  refine pv_aload_n C 3 dX11_byTable_18 rfl rfl ?_
  refine pv_iload_n C 2 dX11_byTable_19 rfl rfl ?_
  obtain ⟨⟨⟩, S18, e19, h⟩ := pq_bs h
  refine pv_callvV C (ci := 11) rfl (by decide) k0_ [.int v11] (fun sz => r_X11_start W0 k0_ e19 sz) (cwV 1 C.1.2.2.2.2 gX11_byTable_X11_start rfl rfl rfl (by decide +kernel) ⟨Nat.le_of_ble_eq_true rfl, Nat.le_of_ble_eq_true rfl⟩) rfl rfl (Nat.le_of_ble_eq_true rfl) dX11_byTable_20 ⟨Nat.le_of_ble_eq_true rfl, Nat.le_of_ble_eq_true rfl⟩ ?_
  refine pv_iconst (v := 0) C dX11_byTable_23 (by decide) ?_
  refine pv_istore C [(6, .int (0 : Int32)), (5, .int v11), (4, .int v14), (3, .int v11), (0, .ref a0), (1, .int x1), (2, .int x2)] dX11_byTable_24 (by decide) rfl ?_
  refine pv_sub [4, 5, 6, 3, 2, 1, 0] rfl ?_
  exact r_X11_byTable_b26 W0 C hr hlk pq_fuel _ _ _ _ _ _ _ _ k0_ h
def F_X11_blameAt_b19 (G : pq_G) (c6 : pq_N → Nat → Int32 → Int32 → Int32 → Option (Int32 × pq_N)) : Nat → pq_N → Nat → Int32 → Int32 → Int32 → Int32 → Option (Int32 × pq_N)
  | 0, _, _, _, _, _, _ => none
  | n + 1, S, a0, x1, x2, x3, x4 => (pq_bd (F_X11_get G S a0 x3 (5 : Int32)) fun v14 S15 => (if v14 ≤ x4 then c6 S15 a0 x1 x2 (x3 + (1 : Int32)) else (pq_bd (F_X11_source G S15 a0 x3 x4) fun v18 S19 => (if v18 = x1 then (pq_bd (F_X11_byTable G S19 a0 x3 x4) fun v22 S23 => (F_X11_blameAt_b19 G c6 n) S23 a0 x1 (x2 + v22) x3 (x4 + (1 : Int32))) else (F_X11_blameAt_b19 G c6 n) S19 a0 x1 (x2 + (0 : Int32)) x3 (x4 + (1 : Int32))))))
def F_X11_blameAt_b6 (G : pq_G)  : Nat → pq_N → Nat → Int32 → Int32 → Int32 → Option (Int32 × pq_N)
  | 0, _, _, _, _, _ => none
  | n + 1, S, a0, x1, x2, x3 => (if (1 : Int32) < 0 ∨ pq_n G (pq_r G a0 0) ≤ (Int32.toNatClampNeg (1 : Int32)) then none else (if (S.1 (pq_r G a0 0) (Int32.toNatClampNeg (1 : Int32))) ≤ x3 then some (x2, S) else F_X11_blameAt_b19 G ((F_X11_blameAt_b6 G n)) pq_fuel S a0 x1 x2 x3 (0 : Int32)))
def F_X11_blameAt (G : pq_G) (S : pq_N) (a0 : Nat) (x1 : Int32) : Option (Int32 × pq_N) := F_X11_blameAt_b6 G pq_fuel S a0 x1 (0 : Int32) (x1 + (1 : Int32))
theorem inu_X11_blameAt_11 : ∀ w ∈ u_ws RX11 TX11 24, w ∈ wsX11_blameAt := pq_inu 37 rfl
set_option maxHeartbeats 4000000 in
set_option maxRecDepth 100000 in
theorem r_X11_blameAt_b19 {p : Program} {l : Launch} {e : Env} {s : State} {m : MethodId} {av : Array Value} {below : List Frame} {meth : Method} {c : Code} {D : va_G} {y : pq_Y} {G : pq_G} {r : Int32} {S1 : pq_N} (W0 : pq_WT G) (C : pq_C p s m av c D y RX11 wsX11_blameAt cX11_blameAt 5) (hr : meth.sig.returnType = (some .int)) (hlk : meth.locks = false) {c6 : pq_N → Nat → Int32 → Int32 → Int32 → Option (Int32 × pq_N)} (hk6 : ∀ (S : pq_N) (a0 : Nat) (x1 : Int32) (x2 : Int32) (x3 : Int32), pq_ok G 11 a0 → c6 S a0 x1 x2 x3 = some (r, S1) → pq_V p l e (headSpec wsX11_blameAt ({ frames := 4, cells := 0, slots := 0, locals := 100 } : Room)).room s m av below meth c 0 0 (MQ below (pq_Qi D y G s.heap.size r S1) av s 0 0 (pq_A G s.heap.size)) D y 5 (pq_A G s.heap.size) (fun _ => True) G S 6 [(0, .ref a0), (1, .int x1), (2, .int x2), (3, .int x3)] []) (n : Nat) : ∀ (S : pq_N) (a0 : Nat) (x1 : Int32) (x2 : Int32) (x3 : Int32) (x4 : Int32), pq_ok G 11 a0 → F_X11_blameAt_b19 G c6 n S a0 x1 x2 x3 x4 = some (r, S1) → pq_V p l e (headSpec wsX11_blameAt ({ frames := 4, cells := 0, slots := 0, locals := 100 } : Room)).room s m av below meth c 0 0 (MQ below (pq_Qi D y G s.heap.size r S1) av s 0 0 (pq_A G s.heap.size)) D y 5 (pq_A G s.heap.size) (fun _ => True) G S 19 [(0, .ref a0), (1, .int x1), (2, .int x2), (3, .int x3), (4, .int x4)] [] := by
  induction n with
  | zero =>
    intro S a0 x1 x2 x3 x4 k0_ h
    rw [F_X11_blameAt_b19.eq_1] at h; cases h
  | succ n ih =>
    intro S a0 x1 x2 x3 x4 k0_ h
    rw [F_X11_blameAt_b19.eq_2] at h
    refine pv_iload C 4 dX11_blameAt_19 rfl ?_
    refine pv_aload_n C 0 dX11_blameAt_21 rfl rfl ?_
    refine pv_iload_n C 3 dX11_blameAt_22 rfl rfl ?_
    refine pv_iconst (v := 5) C dX11_blameAt_23 (by decide) ?_
    obtain ⟨v14, S15, e16, h⟩ := pq_bs h
    refine pv_calliV C (ci := 11) rfl (by decide) k0_ [.int x3, .int (5 : Int32)] (fun sz => r_X11_get W0 k0_ e16 sz) (cwV 2 C.1.2.2.2.2 gX11_blameAt_X11_get rfl rfl rfl (by decide +kernel) ⟨Nat.le_of_ble_eq_true rfl, Nat.le_of_ble_eq_true rfl⟩) rfl rfl (Nat.le_of_ble_eq_true rfl) dX11_blameAt_24 ⟨Nat.le_of_ble_eq_true rfl, Nat.le_of_ble_eq_true rfl⟩ ?_
    refine pv_icmp_ge (tgt := 61) C dX11_blameAt_27 (by decide) (fun c17 => ?_) (fun c17 => ?_)
    · have h := pq_it c17 h
      refine pv_iinc (v := (x3 + (1 : Int32))) C 3 [(3, .int (x3 + (1 : Int32))), (0, .ref a0), (1, .int x1), (2, .int x2), (4, .int x4)] dX11_blameAt_61 rfl rfl (by decide) rfl ?_
      refine pv_goto (tgt := 6) C dX11_blameAt_64 (by decide) ?_
      refine pv_sub [1, 2, 3, 0] rfl ?_
      exact hk6 _ _ _ _ _ k0_ h
    · have h := pq_if c17 h
      refine pv_iload_n C 2 dX11_blameAt_30 rfl rfl ?_
      refine pv_aload_n C 0 dX11_blameAt_31 rfl rfl ?_
      refine pv_iload_n C 3 dX11_blameAt_32 rfl rfl ?_
      refine pv_iload C 4 dX11_blameAt_33 rfl ?_
      obtain ⟨v18, S19, e20, h⟩ := pq_bs h
      refine pv_calliV C (ci := 11) rfl (by decide) k0_ [.int x3, .int x4] (fun sz => r_X11_source W0 k0_ e20 sz) (cwV 2 C.1.2.2.2.2 gX11_blameAt_X11_source rfl rfl rfl (by decide +kernel) ⟨Nat.le_of_ble_eq_true rfl, Nat.le_of_ble_eq_true rfl⟩) rfl rfl (Nat.le_of_ble_eq_true rfl) dX11_blameAt_35 ⟨Nat.le_of_ble_eq_true rfl, Nat.le_of_ble_eq_true rfl⟩ ?_
      refine pv_iload_n C 1 dX11_blameAt_38 rfl rfl ?_
      refine pv_icmp_ne (tgt := 52) C dX11_blameAt_39 (by decide) (fun c21 => ?_) (fun c21 => ?_)
      · have h := pq_if c21 h
        refine pv_iconst (v := 0) C dX11_blameAt_52 (by decide) ?_
        refine pv_iadd C dX11_blameAt_53 ?_
        refine pv_istore_n C [(2, .int (x2 + (0 : Int32))), (0, .ref a0), (1, .int x1), (3, .int x3), (4, .int x4)] dX11_blameAt_54 rfl (by decide) rfl ?_
        refine pv_iinc (v := (x4 + (1 : Int32))) C 4 [(4, .int (x4 + (1 : Int32))), (2, .int (x2 + (0 : Int32))), (0, .ref a0), (1, .int x1), (3, .int x3)] dX11_blameAt_55 rfl rfl (by decide) rfl ?_
        refine pv_goto (tgt := 19) C dX11_blameAt_58 (by decide) ?_
        refine pv_sub [2, 3, 1, 4, 0] rfl ?_
        exact ih _ _ _ _ _ _ k0_ h
      · have h := pq_it c21 h
        refine pv_aload_n C 0 dX11_blameAt_42 rfl rfl ?_
        refine pv_iload_n C 3 dX11_blameAt_43 rfl rfl ?_
        refine pv_iload C 4 dX11_blameAt_44 rfl ?_
        obtain ⟨v22, S23, e24, h⟩ := pq_bs h
        refine pv_calliV C (ci := 11) rfl (by decide) k0_ [.int x3, .int x4] (fun sz => r_X11_byTable W0 k0_ e24 sz) (cwV 2 C.1.2.2.2.2 gX11_blameAt_X11_byTable rfl rfl rfl (by decide +kernel) ⟨Nat.le_of_ble_eq_true rfl, Nat.le_of_ble_eq_true rfl⟩) rfl rfl (Nat.le_of_ble_eq_true rfl) dX11_blameAt_46 ⟨Nat.le_of_ble_eq_true rfl, Nat.le_of_ble_eq_true rfl⟩ ?_
        refine pv_goto (tgt := 53) C dX11_blameAt_49 (by decide) ?_
        refine pv_iadd C dX11_blameAt_53 ?_
        refine pv_istore_n C [(2, .int (x2 + v22)), (0, .ref a0), (1, .int x1), (3, .int x3), (4, .int x4)] dX11_blameAt_54 rfl (by decide) rfl ?_
        refine pv_iinc (v := (x4 + (1 : Int32))) C 4 [(4, .int (x4 + (1 : Int32))), (2, .int (x2 + v22)), (0, .ref a0), (1, .int x1), (3, .int x3)] dX11_blameAt_55 rfl rfl (by decide) rfl ?_
        refine pv_goto (tgt := 19) C dX11_blameAt_58 (by decide) ?_
        refine pv_sub [2, 3, 1, 4, 0] rfl ?_
        exact ih _ _ _ _ _ _ k0_ h
set_option maxHeartbeats 4000000 in
set_option maxRecDepth 100000 in
theorem r_X11_blameAt_b6 {p : Program} {l : Launch} {e : Env} {s : State} {m : MethodId} {av : Array Value} {below : List Frame} {meth : Method} {c : Code} {D : va_G} {y : pq_Y} {G : pq_G} {r : Int32} {S1 : pq_N} (W0 : pq_WT G) (C : pq_C p s m av c D y RX11 wsX11_blameAt cX11_blameAt 5) (hr : meth.sig.returnType = (some .int)) (hlk : meth.locks = false) (n : Nat) : ∀ (S : pq_N) (a0 : Nat) (x1 : Int32) (x2 : Int32) (x3 : Int32), pq_ok G 11 a0 → F_X11_blameAt_b6 G n S a0 x1 x2 x3 = some (r, S1) → pq_V p l e (headSpec wsX11_blameAt ({ frames := 4, cells := 0, slots := 0, locals := 100 } : Room)).room s m av below meth c 0 0 (MQ below (pq_Qi D y G s.heap.size r S1) av s 0 0 (pq_A G s.heap.size)) D y 5 (pq_A G s.heap.size) (fun _ => True) G S 6 [(0, .ref a0), (1, .int x1), (2, .int x2), (3, .int x3)] [] := by
  induction n with
  | zero =>
    intro S a0 x1 x2 x3 k0_ h
    rw [F_X11_blameAt_b6.eq_1] at h; cases h
  | succ n ih =>
    intro S a0 x1 x2 x3 k0_ h
    rw [F_X11_blameAt_b6.eq_2] at h
    refine pv_iload_n C 3 dX11_blameAt_6 rfl rfl ?_
    refine pv_aload_n C 0 dX11_blameAt_7 rfl rfl ?_
    have k11 := pq_wt (k := 0) W0 k0_ rfl
    refine pv_getr (T := TX11) (N := 24) C 0 inu_X11_blameAt_11 rfl (by decide) (by decide) (List.mem_of_getElem? (i := 1) rfl) rfl k0_ k11.1 dX11_blameAt_8 ?_
    refine pv_iconst (v := 1) C dX11_blameAt_11 (by decide) ?_
    obtain ⟨g12, h⟩ := pq_gd h
    refine pv_iaload C k11.2 g12 dX11_blameAt_12 ?_
    refine pv_icmp_ge (tgt := 67) C dX11_blameAt_13 (by decide) (fun c13 => ?_) (fun c13 => ?_)
    · have h := pq_it c13 h
      refine pv_iload_n C 2 dX11_blameAt_67 rfl rfl ?_
      exact pv_iret C hr hlk h dX11_blameAt_68
    · have h := pq_if c13 h
      refine pv_iconst (v := 0) C dX11_blameAt_16 (by decide) ?_
      refine pv_istore C [(4, .int (0 : Int32)), (0, .ref a0), (1, .int x1), (2, .int x2), (3, .int x3)] dX11_blameAt_17 (by decide) rfl ?_
      refine pv_sub [1, 2, 3, 4, 0] rfl ?_
      exact r_X11_blameAt_b19 W0 C hr hlk ih pq_fuel _ _ _ _ _ _ k0_ h
set_option maxHeartbeats 4000000 in
set_option maxRecDepth 100000 in
theorem r_X11_blameAt {l : Launch} {D : va_G} {y : pq_Y} {G : pq_G} (W0 : pq_WT G) {S : pq_N} {a0 : Nat} {x1 : Int32} (k0_ : pq_ok G 11 a0) {r : Int32} {S1 : pq_N} (h : F_X11_blameAt G S a0 x1 = some (r, S1)) (sz : Nat) : Met l yX11_blameAt wsX11_blameAt ({ frames := 4, cells := 0, slots := 0, locals := 100 } : Room) (pq_P D y G S sz [.ref a0, .int x1]) (pq_Qi D y G sz r S1) 0 0 (pq_A G sz) := by
  refine pq_enter RX11 5 (by decide) rfl rfl rfl ?_
  intro p e s m below meth c C hsz hr hlk
  subst hsz
  unfold F_X11_blameAt at h
  refine pv_sub (lo1 := [(0, .ref a0), (1, .int x1)]) [0, 1] rfl ?_
  refine pv_iconst (v := 0) C dX11_blameAt_0 (by decide) ?_
  refine pv_istore_n C [(2, .int (0 : Int32)), (0, .ref a0), (1, .int x1)] dX11_blameAt_1 rfl (by decide) rfl ?_
  refine pv_iload_n C 2 dX11_blameAt_2 rfl rfl ?_
  refine pv_iconst (v := 1) C dX11_blameAt_3 (by decide) ?_
  refine pv_iadd C dX11_blameAt_4 ?_
  refine pv_istore_n C [(3, .int (x1 + (1 : Int32))), (2, .int (0 : Int32)), (0, .ref a0), (1, .int x1)] dX11_blameAt_5 rfl (by decide) rfl ?_
  refine pv_sub [2, 3, 1, 0] rfl ?_
  exact r_X11_blameAt_b6 W0 C hr hlk pq_fuel _ _ _ _ _ k0_ h
def F_X11_plain (G : pq_G) (S : pq_N) (a0 : Nat) (x1 : Int32) : Option (Int32 × pq_N) := (pq_lt (pq_wi S a0 8 (0 : Int32)) fun S11 => some (x1, S11))
theorem inu_X11_plain_11 : ∀ w ∈ u_ws RX11 TX11 24, w ∈ wsX11_plain := pq_inu 2 rfl
set_option maxHeartbeats 4000000 in
set_option maxRecDepth 100000 in
theorem r_X11_plain {l : Launch} {D : va_G} {y : pq_Y} {G : pq_G} (W0 : pq_WT G) {S : pq_N} {a0 : Nat} {x1 : Int32} (k0_ : pq_ok G 11 a0) {r : Int32} {S1 : pq_N} (h : F_X11_plain G S a0 x1 = some (r, S1)) (sz : Nat) : Met l yX11_plain wsX11_plain ({ frames := 0, cells := 0, slots := 0, locals := 0 } : Room) (pq_P D y G S sz [.ref a0, .int x1]) (pq_Qi D y G sz r S1) 0 0 (pq_A G sz) := by
  refine pq_enter RX11 2 (by decide) rfl rfl rfl ?_
  intro p e s m below meth c C hsz hr hlk
  subst hsz
  unfold F_X11_plain at h
  refine pv_sub (lo1 := [(0, .ref a0), (1, .int x1)]) [0, 1] rfl ?_
  refine pv_aload_n C 0 dX11_plain_0 rfl rfl ?_
  refine pv_iconst (v := 0) C dX11_plain_1 (by decide) ?_
  refine pv_put (T := TX11) (N := 24) (ty := .int) C 8 inu_X11_plain_11 rfl (by decide) tyX11 tyX11_ok nmX11 (by decide) (List.mem_of_getElem? (i := 1) rfl) rfl k0_ rfl (by decide +kernel) rfl rfl dX11_plain_2 ?_
  refine pv_nm (fun S11 e12 => ?_)
  have h := pq_ls e12 h
  refine pv_iload_n C 1 dX11_plain_5 rfl rfl ?_
  exact pv_iret C hr hlk h dX11_plain_6
def F_X11_blameByAuthors_b4 (G : pq_G)  : Nat → pq_N → Nat → Int32 → Int32 → Option (Int32 × pq_N)
  | 0, _, _, _, _ => none
  | n + 1, S, a0, x1, x2 => (if (8 : Int32) ≤ x2 then (pq_bd (F_X11_plain G S a0 x1) fun v12 S13 => some (v12, S13)) else (pq_bd (F_X11_blame G S a0 x2 (-1 : Int32)) fun v15 S16 => (F_X11_blameByAuthors_b4 G n) S16 a0 (x1 + v15) (x2 + (1 : Int32))))
def F_X11_blameByAuthors (G : pq_G) (S : pq_N) (a0 : Nat) : Option (Int32 × pq_N) := F_X11_blameByAuthors_b4 G pq_fuel S a0 (0 : Int32) (0 : Int32)
set_option maxHeartbeats 4000000 in
set_option maxRecDepth 100000 in
theorem r_X11_blameByAuthors_b4 {p : Program} {l : Launch} {e : Env} {s : State} {m : MethodId} {av : Array Value} {below : List Frame} {meth : Method} {c : Code} {D : va_G} {y : pq_Y} {G : pq_G} {r : Int32} {S1 : pq_N} (W0 : pq_WT G) (C : pq_C p s m av c D y RX11 wsX11_blameByAuthors cX11_blameByAuthors 3) (hr : meth.sig.returnType = (some .int)) (hlk : meth.locks = false) (n : Nat) : ∀ (S : pq_N) (a0 : Nat) (x1 : Int32) (x2 : Int32), pq_ok G 11 a0 → F_X11_blameByAuthors_b4 G n S a0 x1 x2 = some (r, S1) → pq_V p l e (headSpec wsX11_blameByAuthors ({ frames := 6, cells := 0, slots := 0, locals := 148 } : Room)).room s m av below meth c 0 0 (MQ below (pq_Qi D y G s.heap.size r S1) av s 0 0 (pq_A G s.heap.size)) D y 3 (pq_A G s.heap.size) (fun _ => True) G S 4 [(0, .ref a0), (1, .int x1), (2, .int x2)] [] := by
  induction n with
  | zero =>
    intro S a0 x1 x2 k0_ h
    rw [F_X11_blameByAuthors_b4.eq_1] at h; cases h
  | succ n ih =>
    intro S a0 x1 x2 k0_ h
    rw [F_X11_blameByAuthors_b4.eq_2] at h
    refine pv_iload_n C 2 dX11_blameByAuthors_4 rfl rfl ?_
    refine pv_bipush (v := 8) C dX11_blameByAuthors_5 (by decide) ?_
    refine pv_icmp_ge (tgt := 25) C dX11_blameByAuthors_7 (by decide) (fun c11 => ?_) (fun c11 => ?_)
    · have h := pq_it c11 h
      refine pv_aload_n C 0 dX11_blameByAuthors_25 rfl rfl ?_
      refine pv_iload_n C 1 dX11_blameByAuthors_26 rfl rfl ?_
      obtain ⟨v12, S13, e14, h⟩ := pq_bs h
      refine pv_calliV C (ci := 11) rfl (by decide) k0_ [.int x1] (fun sz => r_X11_plain W0 k0_ e14 sz) (cwV 1 C.1.2.2.2.2 gX11_blameByAuthors_X11_plain rfl rfl rfl (by decide +kernel) ⟨Nat.le_of_ble_eq_true rfl, Nat.le_of_ble_eq_true rfl⟩) rfl rfl (Nat.le_of_ble_eq_true rfl) dX11_blameByAuthors_27 ⟨Nat.le_of_ble_eq_true rfl, Nat.le_of_ble_eq_true rfl⟩ ?_
      exact pv_iret C hr hlk h dX11_blameByAuthors_30
    · have h := pq_if c11 h
      refine pv_iload_n C 1 dX11_blameByAuthors_10 rfl rfl ?_
      refine pv_aload_n C 0 dX11_blameByAuthors_11 rfl rfl ?_
      refine pv_iload_n C 2 dX11_blameByAuthors_12 rfl rfl ?_
      refine pv_iconst (v := -1) C dX11_blameByAuthors_13 (by decide) ?_
      obtain ⟨v15, S16, e17, h⟩ := pq_bs h
      refine pv_calliV C (ci := 11) rfl (by decide) k0_ [.int x2, .int (-1 : Int32)] (fun sz => r_X11_blame W0 k0_ e17 sz) (cwV 2 C.1.2.2.2.2 gX11_blameByAuthors_X11_blame rfl rfl rfl (by decide +kernel) ⟨Nat.le_of_ble_eq_true rfl, Nat.le_of_ble_eq_true rfl⟩) rfl rfl (Nat.le_of_ble_eq_true rfl) dX11_blameByAuthors_14 ⟨Nat.le_of_ble_eq_true rfl, Nat.le_of_ble_eq_true rfl⟩ ?_
      refine pv_iadd C dX11_blameByAuthors_17 ?_
      refine pv_istore_n C [(1, .int (x1 + v15)), (0, .ref a0), (2, .int x2)] dX11_blameByAuthors_18 rfl (by decide) rfl ?_
      refine pv_iinc (v := (x2 + (1 : Int32))) C 2 [(2, .int (x2 + (1 : Int32))), (1, .int (x1 + v15)), (0, .ref a0)] dX11_blameByAuthors_19 rfl rfl (by decide) rfl ?_
      refine pv_goto (tgt := 4) C dX11_blameByAuthors_22 (by decide) ?_
      refine pv_sub [2, 1, 0] rfl ?_
      exact ih _ _ _ _ k0_ h
set_option maxHeartbeats 4000000 in
set_option maxRecDepth 100000 in
theorem r_X11_blameByAuthors {l : Launch} {D : va_G} {y : pq_Y} {G : pq_G} (W0 : pq_WT G) {S : pq_N} {a0 : Nat} (k0_ : pq_ok G 11 a0) {r : Int32} {S1 : pq_N} (h : F_X11_blameByAuthors G S a0 = some (r, S1)) (sz : Nat) : Met l yX11_blameByAuthors wsX11_blameByAuthors ({ frames := 6, cells := 0, slots := 0, locals := 148 } : Room) (pq_P D y G S sz [.ref a0]) (pq_Qi D y G sz r S1) 0 0 (pq_A G sz) := by
  refine pq_enter RX11 3 (by decide) rfl rfl rfl ?_
  intro p e s m below meth c C hsz hr hlk
  subst hsz
  unfold F_X11_blameByAuthors at h
  refine pv_sub (lo1 := [(0, .ref a0)]) [0] rfl ?_
  refine pv_iconst (v := 0) C dX11_blameByAuthors_0 (by decide) ?_
  refine pv_istore_n C [(1, .int (0 : Int32)), (0, .ref a0)] dX11_blameByAuthors_1 rfl (by decide) rfl ?_
  refine pv_iconst (v := 0) C dX11_blameByAuthors_2 (by decide) ?_
  refine pv_istore_n C [(2, .int (0 : Int32)), (1, .int (0 : Int32)), (0, .ref a0)] dX11_blameByAuthors_3 rfl (by decide) rfl ?_
  refine pv_sub [2, 1, 0] rfl ?_
  exact r_X11_blameByAuthors_b4 W0 C hr hlk pq_fuel _ _ _ _ k0_ h
def F_X11_blameBySources_b4 (G : pq_G)  : Nat → pq_N → Nat → Int32 → Int32 → Option (Int32 × pq_N)
  | 0, _, _, _, _ => none
  | n + 1, S, a0, x1, x2 => (if (1 : Int32) < 0 ∨ pq_n G (pq_r G a0 0) ≤ (Int32.toNatClampNeg (1 : Int32)) then none else (if (S.1 (pq_r G a0 0) (Int32.toNatClampNeg (1 : Int32))) ≤ x2 then (pq_bd (F_X11_plain G S a0 x1) fun v14 S15 => some (v14, S15)) else (pq_bd (F_X11_blameAt G S a0 x2) fun v17 S18 => (F_X11_blameBySources_b4 G n) S18 a0 (x1 + v17) (x2 + (1 : Int32)))))
def F_X11_blameBySources (G : pq_G) (S : pq_N) (a0 : Nat) : Option (Int32 × pq_N) := F_X11_blameBySources_b4 G pq_fuel S a0 (0 : Int32) (0 : Int32)
theorem inu_X11_blameBySources_11 : ∀ w ∈ u_ws RX11 TX11 24, w ∈ wsX11_blameBySources := pq_inu 46 rfl
set_option maxHeartbeats 4000000 in
set_option maxRecDepth 100000 in
theorem r_X11_blameBySources_b4 {p : Program} {l : Launch} {e : Env} {s : State} {m : MethodId} {av : Array Value} {below : List Frame} {meth : Method} {c : Code} {D : va_G} {y : pq_Y} {G : pq_G} {r : Int32} {S1 : pq_N} (W0 : pq_WT G) (C : pq_C p s m av c D y RX11 wsX11_blameBySources cX11_blameBySources 3) (hr : meth.sig.returnType = (some .int)) (hlk : meth.locks = false) (n : Nat) : ∀ (S : pq_N) (a0 : Nat) (x1 : Int32) (x2 : Int32), pq_ok G 11 a0 → F_X11_blameBySources_b4 G n S a0 x1 x2 = some (r, S1) → pq_V p l e (headSpec wsX11_blameBySources ({ frames := 5, cells := 0, slots := 0, locals := 124 } : Room)).room s m av below meth c 0 0 (MQ below (pq_Qi D y G s.heap.size r S1) av s 0 0 (pq_A G s.heap.size)) D y 3 (pq_A G s.heap.size) (fun _ => True) G S 4 [(0, .ref a0), (1, .int x1), (2, .int x2)] [] := by
  induction n with
  | zero =>
    intro S a0 x1 x2 k0_ h
    rw [F_X11_blameBySources_b4.eq_1] at h; cases h
  | succ n ih =>
    intro S a0 x1 x2 k0_ h
    rw [F_X11_blameBySources_b4.eq_2] at h
    refine pv_iload_n C 2 dX11_blameBySources_4 rfl rfl ?_
    refine pv_aload_n C 0 dX11_blameBySources_5 rfl rfl ?_
    have k11 := pq_wt (k := 0) W0 k0_ rfl
    refine pv_getr (T := TX11) (N := 24) C 0 inu_X11_blameBySources_11 rfl (by decide) (by decide) (List.mem_of_getElem? (i := 1) rfl) rfl k0_ k11.1 dX11_blameBySources_6 ?_
    refine pv_iconst (v := 1) C dX11_blameBySources_9 (by decide) ?_
    obtain ⟨g12, h⟩ := pq_gd h
    refine pv_iaload C k11.2 g12 dX11_blameBySources_10 ?_
    refine pv_icmp_ge (tgt := 28) C dX11_blameBySources_11 (by decide) (fun c13 => ?_) (fun c13 => ?_)
    · have h := pq_it c13 h
      refine pv_aload_n C 0 dX11_blameBySources_28 rfl rfl ?_
      refine pv_iload_n C 1 dX11_blameBySources_29 rfl rfl ?_
      obtain ⟨v14, S15, e16, h⟩ := pq_bs h
      refine pv_calliV C (ci := 11) rfl (by decide) k0_ [.int x1] (fun sz => r_X11_plain W0 k0_ e16 sz) (cwV 1 C.1.2.2.2.2 gX11_blameBySources_X11_plain rfl rfl rfl (by decide +kernel) ⟨Nat.le_of_ble_eq_true rfl, Nat.le_of_ble_eq_true rfl⟩) rfl rfl (Nat.le_of_ble_eq_true rfl) dX11_blameBySources_30 ⟨Nat.le_of_ble_eq_true rfl, Nat.le_of_ble_eq_true rfl⟩ ?_
      exact pv_iret C hr hlk h dX11_blameBySources_33
    · have h := pq_if c13 h
      refine pv_iload_n C 1 dX11_blameBySources_14 rfl rfl ?_
      refine pv_aload_n C 0 dX11_blameBySources_15 rfl rfl ?_
      refine pv_iload_n C 2 dX11_blameBySources_16 rfl rfl ?_
      obtain ⟨v17, S18, e19, h⟩ := pq_bs h
      refine pv_calliV C (ci := 11) rfl (by decide) k0_ [.int x2] (fun sz => r_X11_blameAt W0 k0_ e19 sz) (cwV 1 C.1.2.2.2.2 gX11_blameBySources_X11_blameAt rfl rfl rfl (by decide +kernel) ⟨Nat.le_of_ble_eq_true rfl, Nat.le_of_ble_eq_true rfl⟩) rfl rfl (Nat.le_of_ble_eq_true rfl) dX11_blameBySources_17 ⟨Nat.le_of_ble_eq_true rfl, Nat.le_of_ble_eq_true rfl⟩ ?_
      refine pv_iadd C dX11_blameBySources_20 ?_
      refine pv_istore_n C [(1, .int (x1 + v17)), (0, .ref a0), (2, .int x2)] dX11_blameBySources_21 rfl (by decide) rfl ?_
      refine pv_iinc (v := (x2 + (1 : Int32))) C 2 [(2, .int (x2 + (1 : Int32))), (1, .int (x1 + v17)), (0, .ref a0)] dX11_blameBySources_22 rfl rfl (by decide) rfl ?_
      refine pv_goto (tgt := 4) C dX11_blameBySources_25 (by decide) ?_
      refine pv_sub [2, 1, 0] rfl ?_
      exact ih _ _ _ _ k0_ h
set_option maxHeartbeats 4000000 in
set_option maxRecDepth 100000 in
theorem r_X11_blameBySources {l : Launch} {D : va_G} {y : pq_Y} {G : pq_G} (W0 : pq_WT G) {S : pq_N} {a0 : Nat} (k0_ : pq_ok G 11 a0) {r : Int32} {S1 : pq_N} (h : F_X11_blameBySources G S a0 = some (r, S1)) (sz : Nat) : Met l yX11_blameBySources wsX11_blameBySources ({ frames := 5, cells := 0, slots := 0, locals := 124 } : Room) (pq_P D y G S sz [.ref a0]) (pq_Qi D y G sz r S1) 0 0 (pq_A G sz) := by
  refine pq_enter RX11 3 (by decide) rfl rfl rfl ?_
  intro p e s m below meth c C hsz hr hlk
  subst hsz
  unfold F_X11_blameBySources at h
  refine pv_sub (lo1 := [(0, .ref a0)]) [0] rfl ?_
  refine pv_iconst (v := 0) C dX11_blameBySources_0 (by decide) ?_
  refine pv_istore_n C [(1, .int (0 : Int32)), (0, .ref a0)] dX11_blameBySources_1 rfl (by decide) rfl ?_
  refine pv_iconst (v := 0) C dX11_blameBySources_2 (by decide) ?_
  refine pv_istore_n C [(2, .int (0 : Int32)), (1, .int (0 : Int32)), (0, .ref a0)] dX11_blameBySources_3 rfl (by decide) rfl ?_
  refine pv_sub [2, 1, 0] rfl ?_
  exact r_X11_blameBySources_b4 W0 C hr hlk pq_fuel _ _ _ _ k0_ h
def F_X11_isAuthor (G : pq_G) (S : pq_N) (x0 : Int32) : Option (Int32 × pq_N) := (pq_bd (F_X11_in G S x0 (0 : Int32) (7 : Int32)) fun v11 S12 => (if ¬ (v11 = 0 ∨ v11 = 1) then none else some (v11, S12)))
set_option maxHeartbeats 4000000 in
set_option maxRecDepth 100000 in
theorem r_X11_isAuthor {l : Launch} {D : va_G} {y : pq_Y} {G : pq_G} (W0 : pq_WT G) {S : pq_N} {x0 : Int32}  {r : Int32} {S1 : pq_N} (h : F_X11_isAuthor G S x0 = some (r, S1)) (sz : Nat) : Met l yX11_isAuthor wsX11_isAuthor ({ frames := 1, cells := 0, slots := 0, locals := 22 } : Room) (pq_P D y G S sz [.int x0]) (pq_Qi D y G sz r S1) 0 0 (pq_A G sz) := by
  refine pq_enter RX11 1 (by decide) rfl rfl rfl ?_
  intro p e s m below meth c C hsz hr hlk
  subst hsz
  unfold F_X11_isAuthor at h
  refine pv_sub (lo1 := [(0, .int x0)]) [0] rfl ?_
  refine pv_iload_n C 0 dX11_isAuthor_0 rfl rfl ?_
  refine pv_iconst (v := 0) C dX11_isAuthor_1 (by decide) ?_
  refine pv_bipush (v := 7) C dX11_isAuthor_2 (by decide) ?_
  obtain ⟨v11, S12, e13, h⟩ := pq_bs h
  refine pv_calliS C [.int x0, .int (0 : Int32), .int (7 : Int32)] (fun sz => r_X11_in W0  e13 sz) (va_cwS 3 C.1.2.2.2.2 gX11_isAuthor_X11_in rfl rfl rfl (by decide +kernel) ⟨Nat.le_of_ble_eq_true rfl, Nat.le_of_ble_eq_true rfl⟩) rfl rfl (Nat.le_of_ble_eq_true rfl) dX11_isAuthor_4 ⟨Nat.le_of_ble_eq_true rfl, Nat.le_of_ble_eq_true rfl⟩ ?_
  obtain ⟨g14, h⟩ := pq_gd h
  exact pv_zret C hr (pq_nz (Decidable.not_not.mp g14)) hlk h dX11_isAuthor_7
def F_X11_blameOf_b13 (G : pq_G)  (S : pq_N) (a0 : Nat) (x1 : Int32) (t0 : Int32) (t1 : Nat) : Option (Int32 × pq_N) := (pq_bd (F_X11_holds G S t1 t0) fun v15 S16 => (if v15 = (0 : Int32) then some ((0 : Int32), S16) else (pq_bd (F_X11_blame G S16 a0 x1 (-1 : Int32)) fun v19 S20 => some (v19, S20))))
def F_X11_blameOf (G : pq_G) (S : pq_N) (a0 : Nat) (x1 : Int32) : Option (Int32 × pq_N) := (pq_bd (F_X11_isAuthor G S x1) fun v11 S12 => (if v11 = (0 : Int32) then F_X11_blameOf_b13 G S12 a0 x1 (1 : Int32) a0 else F_X11_blameOf_b13 G S12 a0 x1 (0 : Int32) a0))
set_option maxHeartbeats 4000000 in
set_option maxRecDepth 100000 in
theorem r_X11_blameOf_b13 {p : Program} {l : Launch} {e : Env} {s : State} {m : MethodId} {av : Array Value} {below : List Frame} {meth : Method} {c : Code} {D : va_G} {y : pq_Y} {G : pq_G} {r : Int32} {S1 : pq_N} (W0 : pq_WT G) (C : pq_C p s m av c D y RX11 wsX11_blameOf cX11_blameOf 2) (hr : meth.sig.returnType = (some .int)) (hlk : meth.locks = false) : ∀ (S : pq_N) (a0 : Nat) (x1 : Int32) (t0 : Int32) (t1 : Nat), pq_ok G 11 a0 → pq_ok G 11 t1 → F_X11_blameOf_b13 G S a0 x1 t0 t1 = some (r, S1) → pq_V p l e (headSpec wsX11_blameOf ({ frames := 6, cells := 0, slots := 0, locals := 148 } : Room)).room s m av below meth c 0 0 (MQ below (pq_Qi D y G s.heap.size r S1) av s 0 0 (pq_A G s.heap.size)) D y 2 (pq_A G s.heap.size) (fun _ => True) G S 13 [(0, .ref a0), (1, .int x1)] [.int t0, .ref t1] := by
  intro S a0 x1 t0 t1 k0_ kt1_ h
  unfold F_X11_blameOf_b13 at h
  obtain ⟨v15, S16, e17, h⟩ := pq_bs h
  refine pv_calliV C (ci := 11) rfl (by decide) kt1_ [.int t0] (fun sz => r_X11_holds W0 kt1_ e17 sz) (cwV 1 C.1.2.2.2.2 gX11_blameOf_X11_holds rfl rfl rfl (by decide +kernel) ⟨Nat.le_of_ble_eq_true rfl, Nat.le_of_ble_eq_true rfl⟩) rfl rfl (Nat.le_of_ble_eq_true rfl) dX11_blameOf_13 ⟨Nat.le_of_ble_eq_true rfl, Nat.le_of_ble_eq_true rfl⟩ ?_
  refine pv_if_eq (tgt := 28) C dX11_blameOf_16 (by decide) (fun c18 => ?_) (fun c18 => ?_)
  · have h := pq_it c18 h
    refine pv_iconst (v := 0) C dX11_blameOf_28 (by decide) ?_
    exact pv_iret C hr hlk h dX11_blameOf_29
  · have h := pq_if c18 h
    refine pv_aload_n C 0 dX11_blameOf_19 rfl rfl ?_
    refine pv_iload_n C 1 dX11_blameOf_20 rfl rfl ?_
    refine pv_iconst (v := -1) C dX11_blameOf_21 (by decide) ?_
    obtain ⟨v19, S20, e21, h⟩ := pq_bs h
    refine pv_calliV C (ci := 11) rfl (by decide) k0_ [.int x1, .int (-1 : Int32)] (fun sz => r_X11_blame W0 k0_ e21 sz) (cwV 2 C.1.2.2.2.2 gX11_blameOf_X11_blame rfl rfl rfl (by decide +kernel) ⟨Nat.le_of_ble_eq_true rfl, Nat.le_of_ble_eq_true rfl⟩) rfl rfl (Nat.le_of_ble_eq_true rfl) dX11_blameOf_22 ⟨Nat.le_of_ble_eq_true rfl, Nat.le_of_ble_eq_true rfl⟩ ?_
    refine pv_goto (tgt := 29) C dX11_blameOf_25 (by decide) ?_
    exact pv_iret C hr hlk h dX11_blameOf_29
set_option maxHeartbeats 4000000 in
set_option maxRecDepth 100000 in
theorem r_X11_blameOf {l : Launch} {D : va_G} {y : pq_Y} {G : pq_G} (W0 : pq_WT G) {S : pq_N} {a0 : Nat} {x1 : Int32} (k0_ : pq_ok G 11 a0) {r : Int32} {S1 : pq_N} (h : F_X11_blameOf G S a0 x1 = some (r, S1)) (sz : Nat) : Met l yX11_blameOf wsX11_blameOf ({ frames := 6, cells := 0, slots := 0, locals := 148 } : Room) (pq_P D y G S sz [.ref a0, .int x1]) (pq_Qi D y G sz r S1) 0 0 (pq_A G sz) := by
  refine pq_enter RX11 2 (by decide) rfl rfl rfl ?_
  intro p e s m below meth c C hsz hr hlk
  subst hsz
  unfold F_X11_blameOf at h
  refine pv_sub (lo1 := [(0, .ref a0), (1, .int x1)]) [0, 1] rfl ?_
  refine pv_aload_n C 0 dX11_blameOf_0 rfl rfl ?_
  refine pv_iload_n C 1 dX11_blameOf_1 rfl rfl ?_
  obtain ⟨v11, S12, e13, h⟩ := pq_bs h
  refine pv_calliS C [.int x1] (fun sz => r_X11_isAuthor W0  e13 sz) (va_cwS 1 C.1.2.2.2.2 gX11_blameOf_X11_isAuthor rfl rfl rfl (by decide +kernel) ⟨Nat.le_of_ble_eq_true rfl, Nat.le_of_ble_eq_true rfl⟩) rfl rfl (Nat.le_of_ble_eq_true rfl) dX11_blameOf_2 ⟨Nat.le_of_ble_eq_true rfl, Nat.le_of_ble_eq_true rfl⟩ ?_
  refine pv_if_eq (tgt := 12) C dX11_blameOf_5 (by decide) (fun c14 => ?_) (fun c14 => ?_)
  · have h := pq_it c14 h
    refine pv_iconst (v := 1) C dX11_blameOf_12 (by decide) ?_
    refine pv_sub [0, 1] rfl ?_
    exact r_X11_blameOf_b13 W0 C hr hlk _ _ _ _ _ k0_ k0_ h
  · have h := pq_if c14 h
    refine pv_iconst (v := 0) C dX11_blameOf_8 (by decide) ?_
    refine pv_goto (tgt := 13) C dX11_blameOf_9 (by decide) ?_
    refine pv_sub [0, 1] rfl ?_
    exact r_X11_blameOf_b13 W0 C hr hlk _ _ _ _ _ k0_ k0_ h
def F_X11_canMend (G : pq_G) (S : pq_N) (a0 : Nat) (x1 : Int32) (x2 : Int32) : Option (Int32 × pq_N) := (pq_bd (F_X11_source G S a0 x1 x2) fun v11 S12 => (pq_bd (F_X11_find G S12 a0 x1 x2 v11) fun _ S15 => (if (S15.1 a0 14) ≤ (0 : Int32) then some ((0 : Int32), S15) else (pq_bd (F_X11_get G S15 a0 x1 (4 : Int32)) fun v18 S19 => (pq_bd (F_X11_size G S19 a0 x1 x2) fun v21 S22 => (if (60 : Int32) < ((v18 - v21) + (S22.1 a0 16)) then some ((0 : Int32), S22) else some ((1 : Int32), S22)))))))
theorem inu_X11_canMend_11 : ∀ w ∈ u_ws RX11 TX11 24, w ∈ wsX11_canMend := pq_inu 40 rfl
set_option maxHeartbeats 4000000 in
set_option maxRecDepth 100000 in
theorem r_X11_canMend {l : Launch} {D : va_G} {y : pq_Y} {G : pq_G} (W0 : pq_WT G) {S : pq_N} {a0 : Nat} {x1 : Int32} {x2 : Int32} (k0_ : pq_ok G 11 a0) {r : Int32} {S1 : pq_N} (h : F_X11_canMend G S a0 x1 x2 = some (r, S1)) (sz : Nat) : Met l yX11_canMend wsX11_canMend ({ frames := 4, cells := 0, slots := 0, locals := 100 } : Room) (pq_P D y G S sz [.ref a0, .int x1, .int x2]) (pq_Qi D y G sz r S1) 0 0 (pq_A G sz) := by
  refine pq_enter RX11 3 (by decide) rfl rfl rfl ?_
  intro p e s m below meth c C hsz hr hlk
  subst hsz
  unfold F_X11_canMend at h
  refine pv_sub (lo1 := [(0, .ref a0), (1, .int x1), (2, .int x2)]) [0, 1, 2] rfl ?_
  refine pv_aload_n C 0 dX11_canMend_0 rfl rfl ?_
  refine pv_iload_n C 1 dX11_canMend_1 rfl rfl ?_
  refine pv_iload_n C 2 dX11_canMend_2 rfl rfl ?_
  refine pv_aload_n C 0 dX11_canMend_3 rfl rfl ?_
  refine pv_iload_n C 1 dX11_canMend_4 rfl rfl ?_
  refine pv_iload_n C 2 dX11_canMend_5 rfl rfl ?_
  obtain ⟨v11, S12, e13, h⟩ := pq_bs h
  refine pv_calliV C (ci := 11) rfl (by decide) k0_ [.int x1, .int x2] (fun sz => r_X11_source W0 k0_ e13 sz) (cwV 2 C.1.2.2.2.2 gX11_canMend_X11_source rfl rfl rfl (by decide +kernel) ⟨Nat.le_of_ble_eq_true rfl, Nat.le_of_ble_eq_true rfl⟩) rfl rfl (Nat.le_of_ble_eq_true rfl) dX11_canMend_6 ⟨Nat.le_of_ble_eq_true rfl, Nat.le_of_ble_eq_true rfl⟩ ?_
  obtain ⟨⟨⟩, S15, e16, h⟩ := pq_bs h
  refine pv_callvV C (ci := 11) rfl (by decide) k0_ [.int x1, .int x2, .int v11] (fun sz => r_X11_find W0 k0_ e16 sz) (cwV 3 C.1.2.2.2.2 gX11_canMend_X11_find rfl rfl rfl (by decide +kernel) ⟨Nat.le_of_ble_eq_true rfl, Nat.le_of_ble_eq_true rfl⟩) rfl rfl (Nat.le_of_ble_eq_true rfl) dX11_canMend_9 ⟨Nat.le_of_ble_eq_true rfl, Nat.le_of_ble_eq_true rfl⟩ ?_
  refine pv_aload_n C 0 dX11_canMend_12 rfl rfl ?_
  refine pv_geti (T := TX11) (N := 24) C 14 inu_X11_canMend_11 rfl (by decide) (by decide) (List.mem_of_getElem? (i := 1) rfl) rfl k0_ dX11_canMend_13 ?_
  refine pv_if_le (tgt := 46) C dX11_canMend_16 (by decide) (fun c17 => ?_) (fun c17 => ?_)
  · have h := pq_it c17 h
    refine pv_iconst (v := 0) C dX11_canMend_46 (by decide) ?_
    exact pv_zret C hr rfl hlk h dX11_canMend_47
  · have h := pq_if c17 h
    refine pv_aload_n C 0 dX11_canMend_19 rfl rfl ?_
    refine pv_iload_n C 1 dX11_canMend_20 rfl rfl ?_
    refine pv_iconst (v := 4) C dX11_canMend_21 (by decide) ?_
    obtain ⟨v18, S19, e20, h⟩ := pq_bs h
    refine pv_calliV C (ci := 11) rfl (by decide) k0_ [.int x1, .int (4 : Int32)] (fun sz => r_X11_get W0 k0_ e20 sz) (cwV 2 C.1.2.2.2.2 gX11_canMend_X11_get rfl rfl rfl (by decide +kernel) ⟨Nat.le_of_ble_eq_true rfl, Nat.le_of_ble_eq_true rfl⟩) rfl rfl (Nat.le_of_ble_eq_true rfl) dX11_canMend_22 ⟨Nat.le_of_ble_eq_true rfl, Nat.le_of_ble_eq_true rfl⟩ ?_
    refine pv_aload_n C 0 dX11_canMend_25 rfl rfl ?_
    refine pv_iload_n C 1 dX11_canMend_26 rfl rfl ?_
    refine pv_iload_n C 2 dX11_canMend_27 rfl rfl ?_
    obtain ⟨v21, S22, e23, h⟩ := pq_bs h
    refine pv_calliV C (ci := 11) rfl (by decide) k0_ [.int x1, .int x2] (fun sz => r_X11_size W0 k0_ e23 sz) (cwV 2 C.1.2.2.2.2 gX11_canMend_X11_size rfl rfl rfl (by decide +kernel) ⟨Nat.le_of_ble_eq_true rfl, Nat.le_of_ble_eq_true rfl⟩) rfl rfl (Nat.le_of_ble_eq_true rfl) dX11_canMend_28 ⟨Nat.le_of_ble_eq_true rfl, Nat.le_of_ble_eq_true rfl⟩ ?_
    refine pv_isub C dX11_canMend_31 ?_
    refine pv_aload_n C 0 dX11_canMend_32 rfl rfl ?_
    refine pv_geti (T := TX11) (N := 24) C 16 inu_X11_canMend_11 rfl (by decide) (by decide) (List.mem_of_getElem? (i := 2) rfl) rfl k0_ dX11_canMend_33 ?_
    refine pv_iadd C dX11_canMend_36 ?_
    refine pv_bipush (v := 60) C dX11_canMend_37 (by decide) ?_
    refine pv_icmp_gt (tgt := 46) C dX11_canMend_39 (by decide) (fun c24 => ?_) (fun c24 => ?_)
    · have h := pq_it c24 h
      refine pv_iconst (v := 0) C dX11_canMend_46 (by decide) ?_
      exact pv_zret C hr rfl hlk h dX11_canMend_47
    · have h := pq_if c24 h
      refine pv_iconst (v := 1) C dX11_canMend_42 (by decide) ?_
      refine pv_goto (tgt := 47) C dX11_canMend_43 (by decide) ?_
      exact pv_zret C hr rfl hlk h dX11_canMend_47
def F_X11_from_b77 (G : pq_G) (c20 : pq_N → Nat → Int32 → Int32 → Int32 → Option (Int32 × pq_N)) (S : pq_N) (a0 : Nat) (x3 : Int32) (x4 : Int32) (x5 : Int32) (t0 : Int32) : Option (Int32 × pq_N) := (if t0 = (0 : Int32) then c20 S a0 x3 x4 (x5 + (1 : Int32)) else c20 S a0 x3 x5 (x5 + (1 : Int32)))
def F_X11_from_b20 (G : pq_G)  : Nat → pq_N → Nat → Int32 → Int32 → Int32 → Option (Int32 × pq_N)
  | 0, _, _, _, _, _ => none
  | n + 1, S, a0, x3, x4, x5 => (pq_bd (F_X11_get G S a0 x3 (5 : Int32)) fun v17 S18 => (if v17 ≤ x5 then some (x4, S18) else (pq_bd (F_X11_begin G S18 a0 x3 x5) fun v21 S22 => (if (S18.1 a0 15) < v21 then F_X11_from_b77 G ((F_X11_from_b20 G n)) S22 a0 x3 x4 x5 (0 : Int32) else (pq_bd (F_X11_begin G S22 a0 x3 x5) fun v25 S26 => (pq_bd (F_X11_size G S26 a0 x3 x5) fun v28 S29 => (if (v25 + v28) < ((S22.1 a0 15) + (S22.1 a0 16)) then F_X11_from_b77 G ((F_X11_from_b20 G n)) S29 a0 x3 x4 x5 (0 : Int32) else F_X11_from_b77 G ((F_X11_from_b20 G n)) S29 a0 x3 x4 x5 (1 : Int32))))))))
def F_X11_from (G : pq_G) (S : pq_N) (a0 : Nat) (x1 : Int32) (x2 : Int32) : Option (Int32 × pq_N) := (pq_bd (F_X11_source G S a0 x1 x2) fun v11 S12 => (pq_bd (F_X11_find G S12 a0 x1 x2 v11) fun _ S15 => F_X11_from_b20 G pq_fuel S15 a0 v11 (-1 : Int32) (0 : Int32)))
theorem inu_X11_from_11 : ∀ w ∈ u_ws RX11 TX11 24, w ∈ wsX11_from := pq_inu 40 rfl
set_option maxHeartbeats 4000000 in
set_option maxRecDepth 100000 in
theorem r_X11_from_b77 {p : Program} {l : Launch} {e : Env} {s : State} {m : MethodId} {av : Array Value} {below : List Frame} {meth : Method} {c : Code} {D : va_G} {y : pq_Y} {G : pq_G} {r : Int32} {S1 : pq_N} (W0 : pq_WT G) (C : pq_C p s m av c D y RX11 wsX11_from cX11_from 7) (hr : meth.sig.returnType = (some .int)) (hlk : meth.locks = false) {c20 : pq_N → Nat → Int32 → Int32 → Int32 → Option (Int32 × pq_N)} (hk20 : ∀ (S : pq_N) (a0 : Nat) (x3 : Int32) (x4 : Int32) (x5 : Int32), pq_ok G 11 a0 → c20 S a0 x3 x4 x5 = some (r, S1) → pq_V p l e (headSpec wsX11_from ({ frames := 4, cells := 0, slots := 0, locals := 100 } : Room)).room s m av below meth c 0 0 (MQ below (pq_Qi D y G s.heap.size r S1) av s 0 0 (pq_A G s.heap.size)) D y 7 (pq_A G s.heap.size) (fun _ => True) G S 20 [(0, .ref a0), (3, .int x3), (4, .int x4), (5, .int x5)] []) : ∀ (S : pq_N) (a0 : Nat) (x3 : Int32) (x4 : Int32) (x5 : Int32) (t0 : Int32), pq_ok G 11 a0 → F_X11_from_b77 G c20 S a0 x3 x4 x5 t0 = some (r, S1) → pq_V p l e (headSpec wsX11_from ({ frames := 4, cells := 0, slots := 0, locals := 100 } : Room)).room s m av below meth c 0 0 (MQ below (pq_Qi D y G s.heap.size r S1) av s 0 0 (pq_A G s.heap.size)) D y 7 (pq_A G s.heap.size) (fun _ => True) G S 77 [(0, .ref a0), (3, .int x3), (4, .int x4), (5, .int x5)] [.int t0] := by
  intro S a0 x3 x4 x5 t0 k0_ h
  unfold F_X11_from_b77 at h
  refine pv_istore C [(6, .int t0), (0, .ref a0), (3, .int x3), (4, .int x4), (5, .int x5)] dX11_from_77 (by decide) rfl ?_
  refine pv_iload C 0 dX11_from_79 rfl ?_
  refine pv_if_eq (tgt := 89) C dX11_from_81 (by decide) (fun c32 => ?_) (fun c32 => ?_)
  · have h := pq_it c32 h
    refine pv_iload C 3 dX11_from_89 rfl ?_
    refine pv_istore C [(4, .int x4), (6, .int t0), (0, .ref a0), (3, .int x3), (5, .int x5)] dX11_from_91 (by decide) rfl ?_
    refine pv_iinc (v := (x5 + (1 : Int32))) C 4 [(5, .int (x5 + (1 : Int32))), (4, .int x4), (6, .int t0), (0, .ref a0), (3, .int x3)] dX11_from_93 rfl rfl (by decide) rfl ?_
    refine pv_goto (tgt := 20) C dX11_from_96 (by decide) ?_
    refine pv_sub [3, 4, 1, 0] rfl ?_
    exact hk20 _ _ _ _ _ k0_ h
  · have h := pq_if c32 h
    refine pv_iload C 4 dX11_from_84 rfl ?_
    refine pv_goto (tgt := 91) C dX11_from_86 (by decide) ?_
    refine pv_istore C [(4, .int x5), (6, .int t0), (0, .ref a0), (3, .int x3), (5, .int x5)] dX11_from_91 (by decide) rfl ?_
    refine pv_iinc (v := (x5 + (1 : Int32))) C 4 [(5, .int (x5 + (1 : Int32))), (4, .int x5), (6, .int t0), (0, .ref a0), (3, .int x3)] dX11_from_93 rfl rfl (by decide) rfl ?_
    refine pv_goto (tgt := 20) C dX11_from_96 (by decide) ?_
    refine pv_sub [3, 4, 1, 0] rfl ?_
    exact hk20 _ _ _ _ _ k0_ h
set_option maxHeartbeats 4000000 in
set_option maxRecDepth 100000 in
theorem r_X11_from_b20 {p : Program} {l : Launch} {e : Env} {s : State} {m : MethodId} {av : Array Value} {below : List Frame} {meth : Method} {c : Code} {D : va_G} {y : pq_Y} {G : pq_G} {r : Int32} {S1 : pq_N} (W0 : pq_WT G) (C : pq_C p s m av c D y RX11 wsX11_from cX11_from 7) (hr : meth.sig.returnType = (some .int)) (hlk : meth.locks = false) (n : Nat) : ∀ (S : pq_N) (a0 : Nat) (x3 : Int32) (x4 : Int32) (x5 : Int32), pq_ok G 11 a0 → F_X11_from_b20 G n S a0 x3 x4 x5 = some (r, S1) → pq_V p l e (headSpec wsX11_from ({ frames := 4, cells := 0, slots := 0, locals := 100 } : Room)).room s m av below meth c 0 0 (MQ below (pq_Qi D y G s.heap.size r S1) av s 0 0 (pq_A G s.heap.size)) D y 7 (pq_A G s.heap.size) (fun _ => True) G S 20 [(0, .ref a0), (3, .int x3), (4, .int x4), (5, .int x5)] [] := by
  induction n with
  | zero =>
    intro S a0 x3 x4 x5 k0_ h
    rw [F_X11_from_b20.eq_1] at h; cases h
  | succ n ih =>
    intro S a0 x3 x4 x5 k0_ h
    rw [F_X11_from_b20.eq_2] at h
    refine pv_iload C 3 dX11_from_20 rfl ?_
    refine pv_aload_n C 0 dX11_from_22 rfl rfl ?_
    refine pv_iload_n C 1 dX11_from_23 rfl rfl ?_
    refine pv_iconst (v := 5) C dX11_from_24 (by decide) ?_
    obtain ⟨v17, S18, e19, h⟩ := pq_bs h
    refine pv_calliV C (ci := 11) rfl (by decide) k0_ [.int x3, .int (5 : Int32)] (fun sz => r_X11_get W0 k0_ e19 sz) (cwV 2 C.1.2.2.2.2 gX11_from_X11_get rfl rfl rfl (by decide +kernel) ⟨Nat.le_of_ble_eq_true rfl, Nat.le_of_ble_eq_true rfl⟩) rfl rfl (Nat.le_of_ble_eq_true rfl) dX11_from_25 ⟨Nat.le_of_ble_eq_true rfl, Nat.le_of_ble_eq_true rfl⟩ ?_
    refine pv_icmp_ge (tgt := 99) C dX11_from_28 (by decide) (fun c20 => ?_) (fun c20 => ?_)
    · have h := pq_it c20 h
      refine pv_iload C 2 dX11_from_99 rfl ?_
      exact pv_iret C hr hlk h dX11_from_101
    · have h := pq_if c20 h
      refine pv_aload_n C 0 dX11_from_31 rfl rfl ?_
      refine pv_geti (T := TX11) (N := 24) C 15 inu_X11_from_11 rfl (by decide) (by decide) (List.mem_of_getElem? (i := 1) rfl) rfl k0_ dX11_from_32 ?_
      refine pv_aload_n C 0 dX11_from_35 rfl rfl ?_
      refine pv_iload_n C 1 dX11_from_36 rfl rfl ?_
      refine pv_iload C 3 dX11_from_37 rfl ?_
      obtain ⟨v21, S22, e23, h⟩ := pq_bs h
      refine pv_calliV C (ci := 11) rfl (by decide) k0_ [.int x3, .int x5] (fun sz => r_X11_begin W0 k0_ e23 sz) (cwV 2 C.1.2.2.2.2 gX11_from_X11_begin rfl rfl rfl (by decide +kernel) ⟨Nat.le_of_ble_eq_true rfl, Nat.le_of_ble_eq_true rfl⟩) rfl rfl (Nat.le_of_ble_eq_true rfl) dX11_from_39 ⟨Nat.le_of_ble_eq_true rfl, Nat.le_of_ble_eq_true rfl⟩ ?_
      refine pv_icmp_lt (tgt := 76) C dX11_from_42 (by decide) (fun c24 => ?_) (fun c24 => ?_)
      · have h := pq_it c24 h
        refine pv_iconst (v := 0) C dX11_from_76 (by decide) ?_
        refine pv_sub [0, 1, 2, 3] rfl ?_
        exact r_X11_from_b77 W0 C hr hlk ih _ _ _ _ _ _ k0_ h
      · have h := pq_if c24 h
        refine pv_aload_n C 0 dX11_from_45 rfl rfl ?_
        refine pv_geti (T := TX11) (N := 24) C 15 inu_X11_from_11 rfl (by decide) (by decide) (List.mem_of_getElem? (i := 1) rfl) rfl k0_ dX11_from_46 ?_
        refine pv_aload_n C 0 dX11_from_49 rfl rfl ?_
        refine pv_geti (T := TX11) (N := 24) C 16 inu_X11_from_11 rfl (by decide) (by decide) (List.mem_of_getElem? (i := 2) rfl) rfl k0_ dX11_from_50 ?_
        refine pv_iadd C dX11_from_53 ?_
        refine pv_aload_n C 0 dX11_from_54 rfl rfl ?_
        refine pv_iload_n C 1 dX11_from_55 rfl rfl ?_
        refine pv_iload C 3 dX11_from_56 rfl ?_
        obtain ⟨v25, S26, e27, h⟩ := pq_bs h
        refine pv_calliV C (ci := 11) rfl (by decide) k0_ [.int x3, .int x5] (fun sz => r_X11_begin W0 k0_ e27 sz) (cwV 2 C.1.2.2.2.2 gX11_from_X11_begin rfl rfl rfl (by decide +kernel) ⟨Nat.le_of_ble_eq_true rfl, Nat.le_of_ble_eq_true rfl⟩) rfl rfl (Nat.le_of_ble_eq_true rfl) dX11_from_58 ⟨Nat.le_of_ble_eq_true rfl, Nat.le_of_ble_eq_true rfl⟩ ?_
        refine pv_aload_n C 0 dX11_from_61 rfl rfl ?_
        refine pv_iload_n C 1 dX11_from_62 rfl rfl ?_
        refine pv_iload C 3 dX11_from_63 rfl ?_
        obtain ⟨v28, S29, e30, h⟩ := pq_bs h
        refine pv_calliV C (ci := 11) rfl (by decide) k0_ [.int x3, .int x5] (fun sz => r_X11_size W0 k0_ e30 sz) (cwV 2 C.1.2.2.2.2 gX11_from_X11_size rfl rfl rfl (by decide +kernel) ⟨Nat.le_of_ble_eq_true rfl, Nat.le_of_ble_eq_true rfl⟩) rfl rfl (Nat.le_of_ble_eq_true rfl) dX11_from_65 ⟨Nat.le_of_ble_eq_true rfl, Nat.le_of_ble_eq_true rfl⟩ ?_
        refine pv_iadd C dX11_from_68 ?_
        refine pv_icmp_gt (tgt := 76) C dX11_from_69 (by decide) (fun c31 => ?_) (fun c31 => ?_)
        · have h := pq_it c31 h
          refine pv_iconst (v := 0) C dX11_from_76 (by decide) ?_
          refine pv_sub [0, 1, 2, 3] rfl ?_
          exact r_X11_from_b77 W0 C hr hlk ih _ _ _ _ _ _ k0_ h
        · have h := pq_if c31 h
          refine pv_iconst (v := 1) C dX11_from_72 (by decide) ?_
          refine pv_goto (tgt := 77) C dX11_from_73 (by decide) ?_
          refine pv_sub [0, 1, 2, 3] rfl ?_
          exact r_X11_from_b77 W0 C hr hlk ih _ _ _ _ _ _ k0_ h
set_option maxHeartbeats 4000000 in
set_option maxRecDepth 100000 in
theorem r_X11_from {l : Launch} {D : va_G} {y : pq_Y} {G : pq_G} (W0 : pq_WT G) {S : pq_N} {a0 : Nat} {x1 : Int32} {x2 : Int32} (k0_ : pq_ok G 11 a0) {r : Int32} {S1 : pq_N} (h : F_X11_from G S a0 x1 x2 = some (r, S1)) (sz : Nat) : Met l yX11_from wsX11_from ({ frames := 4, cells := 0, slots := 0, locals := 100 } : Room) (pq_P D y G S sz [.ref a0, .int x1, .int x2]) (pq_Qi D y G sz r S1) 0 0 (pq_A G sz) := by
  refine pq_enter RX11 7 (by decide) rfl rfl rfl ?_
  intro p e s m below meth c C hsz hr hlk
  subst hsz
  unfold F_X11_from at h
  refine pv_sub (lo1 := [(0, .ref a0), (1, .int x1), (2, .int x2)]) [0, 1, 2] rfl ?_
  refine pv_aload_n C 0 dX11_from_0 rfl rfl ?_
  refine pv_iload_n C 1 dX11_from_1 rfl rfl ?_
  refine pv_iload_n C 2 dX11_from_2 rfl rfl ?_
  obtain ⟨v11, S12, e13, h⟩ := pq_bs h
  refine pv_calliV C (ci := 11) rfl (by decide) k0_ [.int x1, .int x2] (fun sz => r_X11_source W0 k0_ e13 sz) (cwV 2 C.1.2.2.2.2 gX11_from_X11_source rfl rfl rfl (by decide +kernel) ⟨Nat.le_of_ble_eq_true rfl, Nat.le_of_ble_eq_true rfl⟩) rfl rfl (Nat.le_of_ble_eq_true rfl) dX11_from_3 ⟨Nat.le_of_ble_eq_true rfl, Nat.le_of_ble_eq_true rfl⟩ ?_
  refine pv_istore_n C [(3, .int v11), (0, .ref a0), (1, .int x1), (2, .int x2)] dX11_from_6 rfl (by decide) rfl ?_
  refine pv_aload_n C 1 dX11_from_7 rfl rfl ?_
  refine pv_iload_n C 2 dX11_from_8 rfl rfl ?_
  refine pv_iload_n C 3 dX11_from_9 rfl rfl ?_
  refine pv_iload_n C 0 dX11_from_10 rfl rfl ?_
  obtain ⟨⟨⟩, S15, e16, h⟩ := pq_bs h
  refine pv_callvV C (ci := 11) rfl (by decide) k0_ [.int x1, .int x2, .int v11] (fun sz => r_X11_find W0 k0_ e16 sz) (cwV 3 C.1.2.2.2.2 gX11_from_X11_find rfl rfl rfl (by decide +kernel) ⟨Nat.le_of_ble_eq_true rfl, Nat.le_of_ble_eq_true rfl⟩) rfl rfl (Nat.le_of_ble_eq_true rfl) dX11_from_11 ⟨Nat.le_of_ble_eq_true rfl, Nat.le_of_ble_eq_true rfl⟩ ?_
  refine pv_iconst (v := -1) C dX11_from_14 (by decide) ?_
  refine pv_istore C [(4, .int (-1 : Int32)), (3, .int v11), (0, .ref a0), (1, .int x1), (2, .int x2)] dX11_from_15 (by decide) rfl ?_
  refine pv_iconst (v := 0) C dX11_from_17 (by decide) ?_
  refine pv_istore C [(5, .int (0 : Int32)), (4, .int (-1 : Int32)), (3, .int v11), (0, .ref a0), (1, .int x1), (2, .int x2)] dX11_from_18 (by decide) rfl ?_
  refine pv_sub [3, 2, 1, 0] rfl ?_
  exact r_X11_from_b20 W0 C hr hlk pq_fuel _ _ _ _ _ k0_ h
def F_X11_trace_b19 (G : pq_G)  : Nat → pq_N → Nat → Int32 → Int32 → Int32 → Option (Unit × pq_N)
  | 0, _, _, _, _, _ => none
  | n + 1, S, a0, x3, x4, x5 => (if x5 = (-1 : Int32) then (pq_bd (F_X11_source G S a0 x3 x4) fun v17 S18 => (pq_lt (pq_wi S18 a0 17 v17) fun S20 => some ((), S20))) else (pq_bd (F_X11_source G S a0 x3 x4) fun v22 S23 => (pq_bd (F_X11_from G S23 a0 v22 x5) fun v25 S26 => (pq_lt (pq_wi S26 a0 18 ((S26.1 a0 18) + (1 : Int32))) fun S28 => (F_X11_trace_b19 G n) S28 a0 v22 x5 v25))))
def F_X11_trace (G : pq_G) (S : pq_N) (a0 : Nat) (x1 : Int32) (x2 : Int32) : Option (Unit × pq_N) := (pq_bd (F_X11_from G S a0 x1 x2) fun v11 S12 => (pq_lt (pq_wi S12 a0 18 (1 : Int32)) fun S14 => F_X11_trace_b19 G pq_fuel S14 a0 x1 x2 v11))
theorem inu_X11_trace_11 : ∀ w ∈ u_ws RX11 TX11 24, w ∈ wsX11_trace := pq_inu 46 rfl
set_option maxHeartbeats 4000000 in
set_option maxRecDepth 100000 in
theorem r_X11_trace_b19 {p : Program} {l : Launch} {e : Env} {s : State} {m : MethodId} {av : Array Value} {below : List Frame} {meth : Method} {c : Code} {D : va_G} {y : pq_Y} {G : pq_G} {S1 : pq_N} (W0 : pq_WT G) (C : pq_C p s m av c D y RX11 wsX11_trace cX11_trace 6) (hr : meth.sig.returnType = none) (hlk : meth.locks = false) (n : Nat) : ∀ (S : pq_N) (a0 : Nat) (x3 : Int32) (x4 : Int32) (x5 : Int32), pq_ok G 11 a0 → F_X11_trace_b19 G n S a0 x3 x4 x5 = some ((), S1) → pq_V p l e (headSpec wsX11_trace ({ frames := 5, cells := 0, slots := 0, locals := 126 } : Room)).room s m av below meth c 0 0 (MQ below (pq_Qv D y G s.heap.size S1) av s 0 0 (pq_A G s.heap.size)) D y 6 (pq_A G s.heap.size) (fun _ => True) G S 19 [(0, .ref a0), (3, .int x3), (4, .int x4), (5, .int x5)] [] := by
  induction n with
  | zero =>
    intro S a0 x3 x4 x5 k0_ h
    rw [F_X11_trace_b19.eq_1] at h; cases h
  | succ n ih =>
    intro S a0 x3 x4 x5 k0_ h
    rw [F_X11_trace_b19.eq_2] at h
    refine pv_iload C 3 dX11_trace_19 rfl ?_
    refine pv_iconst (v := -1) C dX11_trace_21 (by decide) ?_
    refine pv_icmp_eq (tgt := 59) C dX11_trace_22 (by decide) (fun c16 => ?_) (fun c16 => ?_)
    · have h := pq_it c16 h
      refine pv_aload_n C 0 dX11_trace_59 rfl rfl ?_
      refine pv_aload_n C 0 dX11_trace_60 rfl rfl ?_
      refine pv_iload_n C 1 dX11_trace_61 rfl rfl ?_
      refine pv_iload C 2 dX11_trace_62 rfl ?_
      obtain ⟨v17, S18, e19, h⟩ := pq_bs h
      refine pv_calliV C (ci := 11) rfl (by decide) k0_ [.int x3, .int x4] (fun sz => r_X11_source W0 k0_ e19 sz) (cwV 2 C.1.2.2.2.2 gX11_trace_X11_source rfl rfl rfl (by decide +kernel) ⟨Nat.le_of_ble_eq_true rfl, Nat.le_of_ble_eq_true rfl⟩) rfl rfl (Nat.le_of_ble_eq_true rfl) dX11_trace_64 ⟨Nat.le_of_ble_eq_true rfl, Nat.le_of_ble_eq_true rfl⟩ ?_
      refine pv_put (T := TX11) (N := 24) (ty := .int) C 17 inu_X11_trace_11 rfl (by decide) tyX11 tyX11_ok nmX11 (by decide) (List.mem_of_getElem? (i := 2) rfl) rfl k0_ rfl (by decide +kernel) rfl rfl dX11_trace_67 ?_
      refine pv_nm (fun S20 e21 => ?_)
      have h := pq_ls e21 h
      exact pv_vret C hr hlk h dX11_trace_70
    · have h := pq_if c16 h
      refine pv_aload_n C 0 dX11_trace_25 rfl rfl ?_
      refine pv_iload_n C 1 dX11_trace_26 rfl rfl ?_
      refine pv_iload C 2 dX11_trace_27 rfl ?_
      obtain ⟨v22, S23, e24, h⟩ := pq_bs h
      refine pv_calliV C (ci := 11) rfl (by decide) k0_ [.int x3, .int x4] (fun sz => r_X11_source W0 k0_ e24 sz) (cwV 2 C.1.2.2.2.2 gX11_trace_X11_source rfl rfl rfl (by decide +kernel) ⟨Nat.le_of_ble_eq_true rfl, Nat.le_of_ble_eq_true rfl⟩) rfl rfl (Nat.le_of_ble_eq_true rfl) dX11_trace_29 ⟨Nat.le_of_ble_eq_true rfl, Nat.le_of_ble_eq_true rfl⟩ ?_
      refine pv_istore_n C [(3, .int v22), (0, .ref a0), (4, .int x4), (5, .int x5)] dX11_trace_32 rfl (by decide) rfl ?_
      refine pv_iload C 3 dX11_trace_33 rfl ?_
      refine pv_istore C [(4, .int x5), (3, .int v22), (0, .ref a0), (5, .int x5)] dX11_trace_35 (by decide) rfl ?_
      refine pv_aload_n C 2 dX11_trace_37 rfl rfl ?_
      refine pv_iload_n C 1 dX11_trace_38 rfl rfl ?_
      refine pv_iload C 0 dX11_trace_39 rfl ?_
      obtain ⟨v25, S26, e27, h⟩ := pq_bs h
      refine pv_calliV C (ci := 11) rfl (by decide) k0_ [.int v22, .int x5] (fun sz => r_X11_from W0 k0_ e27 sz) (cwV 2 C.1.2.2.2.2 gX11_trace_X11_from rfl rfl rfl (by decide +kernel) ⟨Nat.le_of_ble_eq_true rfl, Nat.le_of_ble_eq_true rfl⟩) rfl rfl (Nat.le_of_ble_eq_true rfl) dX11_trace_41 ⟨Nat.le_of_ble_eq_true rfl, Nat.le_of_ble_eq_true rfl⟩ ?_
      refine pv_istore C [(5, .int v25), (4, .int x5), (3, .int v22), (0, .ref a0)] dX11_trace_44 (by decide) rfl ?_
      refine pv_aload_n C 3 dX11_trace_46 rfl rfl ?_
      refine pv_dup C dX11_trace_47 rfl ?_
      refine pv_geti (T := TX11) (N := 24) C 18 inu_X11_trace_11 rfl (by decide) (by decide) (List.mem_of_getElem? (i := 1) rfl) rfl k0_ dX11_trace_48 ?_
      refine pv_iconst (v := 1) C dX11_trace_51 (by decide) ?_
      refine pv_iadd C dX11_trace_52 ?_
      refine pv_put (T := TX11) (N := 24) (ty := .int) C 18 inu_X11_trace_11 rfl (by decide) tyX11 tyX11_ok nmX11 (by decide) (List.mem_of_getElem? (i := 1) rfl) rfl k0_ rfl (by decide +kernel) rfl rfl dX11_trace_53 ?_
      refine pv_nm (fun S28 e29 => ?_)
      have h := pq_ls e29 h
      refine pv_goto (tgt := 19) C dX11_trace_56 (by decide) ?_
      refine pv_sub [3, 2, 1, 0] rfl ?_
      exact ih _ _ _ _ _ k0_ h
set_option maxHeartbeats 4000000 in
set_option maxRecDepth 100000 in
theorem r_X11_trace {l : Launch} {D : va_G} {y : pq_Y} {G : pq_G} (W0 : pq_WT G) {S : pq_N} {a0 : Nat} {x1 : Int32} {x2 : Int32} (k0_ : pq_ok G 11 a0) {S1 : pq_N} (h : F_X11_trace G S a0 x1 x2 = some ((), S1)) (sz : Nat) : Met l yX11_trace wsX11_trace ({ frames := 5, cells := 0, slots := 0, locals := 126 } : Room) (pq_P D y G S sz [.ref a0, .int x1, .int x2]) (pq_Qv D y G sz S1) 0 0 (pq_A G sz) := by
  refine pq_enter RX11 6 (by decide) rfl rfl rfl ?_
  intro p e s m below meth c C hsz hr hlk
  subst hsz
  unfold F_X11_trace at h
  refine pv_sub (lo1 := [(0, .ref a0), (1, .int x1), (2, .int x2)]) [0, 1, 2] rfl ?_
  refine pv_iload_n C 1 dX11_trace_0 rfl rfl ?_
  refine pv_istore_n C [(3, .int x1), (0, .ref a0), (1, .int x1), (2, .int x2)] dX11_trace_1 rfl (by decide) rfl ?_
  refine pv_iload_n C 3 dX11_trace_2 rfl rfl ?_
  refine pv_istore C [(4, .int x2), (3, .int x1), (0, .ref a0), (1, .int x1), (2, .int x2)] dX11_trace_3 (by decide) rfl ?_
  refine pv_aload_n C 2 dX11_trace_5 rfl rfl ?_
  refine pv_iload_n C 1 dX11_trace_6 rfl rfl ?_
  refine pv_iload C 0 dX11_trace_7 rfl ?_
  obtain ⟨v11, S12, e13, h⟩ := pq_bs h
  refine pv_calliV C (ci := 11) rfl (by decide) k0_ [.int x1, .int x2] (fun sz => r_X11_from W0 k0_ e13 sz) (cwV 2 C.1.2.2.2.2 gX11_trace_X11_from rfl rfl rfl (by decide +kernel) ⟨Nat.le_of_ble_eq_true rfl, Nat.le_of_ble_eq_true rfl⟩) rfl rfl (Nat.le_of_ble_eq_true rfl) dX11_trace_9 ⟨Nat.le_of_ble_eq_true rfl, Nat.le_of_ble_eq_true rfl⟩ ?_
  refine pv_istore C [(5, .int v11), (4, .int x2), (3, .int x1), (0, .ref a0), (1, .int x1), (2, .int x2)] dX11_trace_12 (by decide) rfl ?_
  refine pv_aload_n C 3 dX11_trace_14 rfl rfl ?_
  refine pv_iconst (v := 1) C dX11_trace_15 (by decide) ?_
  refine pv_put (T := TX11) (N := 24) (ty := .int) C 18 inu_X11_trace_11 rfl (by decide) tyX11 tyX11_ok nmX11 (by decide) (List.mem_of_getElem? (i := 1) rfl) rfl k0_ rfl (by decide +kernel) rfl rfl dX11_trace_16 ?_
  refine pv_nm (fun S14 e15 => ?_)
  have h := pq_ls e15 h
  refine pv_sub [3, 2, 1, 0] rfl ?_
  exact r_X11_trace_b19 W0 C hr hlk pq_fuel _ _ _ _ _ k0_ h
def F_X11_changesAtOrigin (G : pq_G) (S : pq_N) (a0 : Nat) (x1 : Int32) (x2 : Int32) : Option (Int32 × pq_N) := (pq_bd (F_X11_isTold G S a0 x1 x2) fun v11 S12 => (if v11 = (0 : Int32) then some ((0 : Int32), S12) else (pq_bd (F_X11_trace G S12 a0 x1 x2) fun _ S16 => (pq_bd (F_X11_find G S16 a0 x1 x2 (S16.1 a0 17)) fun _ S19 => some ((S19.1 a0 14), S19)))))
theorem inu_X11_changesAtOrigin_11 : ∀ w ∈ u_ws RX11 TX11 24, w ∈ wsX11_changesAtOrigin := pq_inu 70 rfl
set_option maxHeartbeats 4000000 in
set_option maxRecDepth 100000 in
theorem r_X11_changesAtOrigin {l : Launch} {D : va_G} {y : pq_Y} {G : pq_G} (W0 : pq_WT G) {S : pq_N} {a0 : Nat} {x1 : Int32} {x2 : Int32} (k0_ : pq_ok G 11 a0) {r : Int32} {S1 : pq_N} (h : F_X11_changesAtOrigin G S a0 x1 x2 = some (r, S1)) (sz : Nat) : Met l yX11_changesAtOrigin wsX11_changesAtOrigin ({ frames := 6, cells := 0, slots := 0, locals := 151 } : Room) (pq_P D y G S sz [.ref a0, .int x1, .int x2]) (pq_Qi D y G sz r S1) 0 0 (pq_A G sz) := by
  refine pq_enter RX11 3 (by decide) rfl rfl rfl ?_
  intro p e s m below meth c C hsz hr hlk
  subst hsz
  unfold F_X11_changesAtOrigin at h
  refine pv_sub (lo1 := [(0, .ref a0), (1, .int x1), (2, .int x2)]) [0, 1, 2] rfl ?_
  refine pv_aload_n C 0 dX11_changesAtOrigin_0 rfl rfl ?_
  refine pv_iload_n C 1 dX11_changesAtOrigin_1 rfl rfl ?_
  refine pv_iload_n C 2 dX11_changesAtOrigin_2 rfl rfl ?_
  obtain ⟨v11, S12, e13, h⟩ := pq_bs h
  refine pv_calliV C (ci := 11) rfl (by decide) k0_ [.int x1, .int x2] (fun sz => r_X11_isTold W0 k0_ e13 sz) (cwV 2 C.1.2.2.2.2 gX11_changesAtOrigin_X11_isTold rfl rfl rfl (by decide +kernel) ⟨Nat.le_of_ble_eq_true rfl, Nat.le_of_ble_eq_true rfl⟩) rfl rfl (Nat.le_of_ble_eq_true rfl) dX11_changesAtOrigin_3 ⟨Nat.le_of_ble_eq_true rfl, Nat.le_of_ble_eq_true rfl⟩ ?_
  refine pv_if_ne (tgt := 11) C dX11_changesAtOrigin_6 (by decide) (fun c14 => ?_) (fun c14 => ?_)
  · have h := pq_if c14 h
    refine pv_aload_n C 0 dX11_changesAtOrigin_11 rfl rfl ?_
    refine pv_iload_n C 1 dX11_changesAtOrigin_12 rfl rfl ?_
    refine pv_iload_n C 2 dX11_changesAtOrigin_13 rfl rfl ?_
    obtain ⟨⟨⟩, S16, e17, h⟩ := pq_bs h
    refine pv_callvV C (ci := 11) rfl (by decide) k0_ [.int x1, .int x2] (fun sz => r_X11_trace W0 k0_ e17 sz) (cwV 2 C.1.2.2.2.2 gX11_changesAtOrigin_X11_trace rfl rfl rfl (by decide +kernel) ⟨Nat.le_of_ble_eq_true rfl, Nat.le_of_ble_eq_true rfl⟩) rfl rfl (Nat.le_of_ble_eq_true rfl) dX11_changesAtOrigin_14 ⟨Nat.le_of_ble_eq_true rfl, Nat.le_of_ble_eq_true rfl⟩ ?_
    refine pv_aload_n C 0 dX11_changesAtOrigin_17 rfl rfl ?_
    refine pv_iload_n C 1 dX11_changesAtOrigin_18 rfl rfl ?_
    refine pv_iload_n C 2 dX11_changesAtOrigin_19 rfl rfl ?_
    refine pv_aload_n C 0 dX11_changesAtOrigin_20 rfl rfl ?_
    refine pv_geti (T := TX11) (N := 24) C 17 inu_X11_changesAtOrigin_11 rfl (by decide) (by decide) (List.mem_of_getElem? (i := 1) rfl) rfl k0_ dX11_changesAtOrigin_21 ?_
    obtain ⟨⟨⟩, S19, e20, h⟩ := pq_bs h
    refine pv_callvV C (ci := 11) rfl (by decide) k0_ [.int x1, .int x2, .int (S16.1 a0 17)] (fun sz => r_X11_find W0 k0_ e20 sz) (cwV 3 C.1.2.2.2.2 gX11_changesAtOrigin_X11_find rfl rfl rfl (by decide +kernel) ⟨Nat.le_of_ble_eq_true rfl, Nat.le_of_ble_eq_true rfl⟩) rfl rfl (Nat.le_of_ble_eq_true rfl) dX11_changesAtOrigin_24 ⟨Nat.le_of_ble_eq_true rfl, Nat.le_of_ble_eq_true rfl⟩ ?_
    refine pv_aload_n C 0 dX11_changesAtOrigin_27 rfl rfl ?_
    refine pv_geti (T := TX11) (N := 24) C 14 inu_X11_changesAtOrigin_11 rfl (by decide) (by decide) (List.mem_of_getElem? (i := 2) rfl) rfl k0_ dX11_changesAtOrigin_28 ?_
    exact pv_iret C hr hlk h dX11_changesAtOrigin_31
  · have h := pq_it c14 h
    refine pv_iconst (v := 0) C dX11_changesAtOrigin_9 (by decide) ?_
    exact pv_iret C hr hlk h dX11_changesAtOrigin_10
def F_X11_changesByPassages (G : pq_G) (S : pq_N) (a0 : Nat) (x1 : Int32) (x2 : Int32) : Option (Int32 × pq_N) := (pq_bd (F_X11_isTold G S a0 x1 x2) fun v11 S12 => (if v11 = (0 : Int32) then some ((0 : Int32), S12) else (pq_bd (F_X11_changesOf G S12 a0 x1 x2) fun v15 S16 => some (v15, S16))))
set_option maxHeartbeats 4000000 in
set_option maxRecDepth 100000 in
theorem r_X11_changesByPassages {l : Launch} {D : va_G} {y : pq_Y} {G : pq_G} (W0 : pq_WT G) {S : pq_N} {a0 : Nat} {x1 : Int32} {x2 : Int32} (k0_ : pq_ok G 11 a0) {r : Int32} {S1 : pq_N} (h : F_X11_changesByPassages G S a0 x1 x2 = some (r, S1)) (sz : Nat) : Met l yX11_changesByPassages wsX11_changesByPassages ({ frames := 5, cells := 0, slots := 0, locals := 122 } : Room) (pq_P D y G S sz [.ref a0, .int x1, .int x2]) (pq_Qi D y G sz r S1) 0 0 (pq_A G sz) := by
  refine pq_enter RX11 3 (by decide) rfl rfl rfl ?_
  intro p e s m below meth c C hsz hr hlk
  subst hsz
  unfold F_X11_changesByPassages at h
  refine pv_sub (lo1 := [(0, .ref a0), (1, .int x1), (2, .int x2)]) [0, 1, 2] rfl ?_
  refine pv_aload_n C 0 dX11_changesByPassages_0 rfl rfl ?_
  refine pv_iload_n C 1 dX11_changesByPassages_1 rfl rfl ?_
  refine pv_iload_n C 2 dX11_changesByPassages_2 rfl rfl ?_
  obtain ⟨v11, S12, e13, h⟩ := pq_bs h
  refine pv_calliV C (ci := 11) rfl (by decide) k0_ [.int x1, .int x2] (fun sz => r_X11_isTold W0 k0_ e13 sz) (cwV 2 C.1.2.2.2.2 gX11_changesByPassages_X11_isTold rfl rfl rfl (by decide +kernel) ⟨Nat.le_of_ble_eq_true rfl, Nat.le_of_ble_eq_true rfl⟩) rfl rfl (Nat.le_of_ble_eq_true rfl) dX11_changesByPassages_3 ⟨Nat.le_of_ble_eq_true rfl, Nat.le_of_ble_eq_true rfl⟩ ?_
  refine pv_if_eq (tgt := 18) C dX11_changesByPassages_6 (by decide) (fun c14 => ?_) (fun c14 => ?_)
  · have h := pq_it c14 h
    refine pv_iconst (v := 0) C dX11_changesByPassages_18 (by decide) ?_
    exact pv_iret C hr hlk h dX11_changesByPassages_19
  · have h := pq_if c14 h
    refine pv_aload_n C 0 dX11_changesByPassages_9 rfl rfl ?_
    refine pv_iload_n C 1 dX11_changesByPassages_10 rfl rfl ?_
    refine pv_iload_n C 2 dX11_changesByPassages_11 rfl rfl ?_
    obtain ⟨v15, S16, e17, h⟩ := pq_bs h
    refine pv_calliV C (ci := 11) rfl (by decide) k0_ [.int x1, .int x2] (fun sz => r_X11_changesOf W0 k0_ e17 sz) (cwV 2 C.1.2.2.2.2 gX11_changesByPassages_X11_changesOf rfl rfl rfl (by decide +kernel) ⟨Nat.le_of_ble_eq_true rfl, Nat.le_of_ble_eq_true rfl⟩) rfl rfl (Nat.le_of_ble_eq_true rfl) dX11_changesByPassages_12 ⟨Nat.le_of_ble_eq_true rfl, Nat.le_of_ble_eq_true rfl⟩ ?_
    refine pv_goto (tgt := 19) C dX11_changesByPassages_15 (by decide) ?_
    exact pv_iret C hr hlk h dX11_changesByPassages_19
def F_X11_changesByTable (G : pq_G) (S : pq_N) (a0 : Nat) (x1 : Int32) (x2 : Int32) : Option (Int32 × pq_N) := (pq_bd (F_X11_isTold G S a0 x1 x2) fun v11 S12 => (if v11 = (0 : Int32) then some ((0 : Int32), S12) else (pq_bd (F_X11_byTable G S12 a0 x1 x2) fun v15 S16 => some (v15, S16))))
set_option maxHeartbeats 4000000 in
set_option maxRecDepth 100000 in
theorem r_X11_changesByTable {l : Launch} {D : va_G} {y : pq_Y} {G : pq_G} (W0 : pq_WT G) {S : pq_N} {a0 : Nat} {x1 : Int32} {x2 : Int32} (k0_ : pq_ok G 11 a0) {r : Int32} {S1 : pq_N} (h : F_X11_changesByTable G S a0 x1 x2 = some (r, S1)) (sz : Nat) : Met l yX11_changesByTable wsX11_changesByTable ({ frames := 4, cells := 0, slots := 0, locals := 100 } : Room) (pq_P D y G S sz [.ref a0, .int x1, .int x2]) (pq_Qi D y G sz r S1) 0 0 (pq_A G sz) := by
  refine pq_enter RX11 3 (by decide) rfl rfl rfl ?_
  intro p e s m below meth c C hsz hr hlk
  subst hsz
  unfold F_X11_changesByTable at h
  refine pv_sub (lo1 := [(0, .ref a0), (1, .int x1), (2, .int x2)]) [0, 1, 2] rfl ?_
  refine pv_aload_n C 0 dX11_changesByTable_0 rfl rfl ?_
  refine pv_iload_n C 1 dX11_changesByTable_1 rfl rfl ?_
  refine pv_iload_n C 2 dX11_changesByTable_2 rfl rfl ?_
  obtain ⟨v11, S12, e13, h⟩ := pq_bs h
  refine pv_calliV C (ci := 11) rfl (by decide) k0_ [.int x1, .int x2] (fun sz => r_X11_isTold W0 k0_ e13 sz) (cwV 2 C.1.2.2.2.2 gX11_changesByTable_X11_isTold rfl rfl rfl (by decide +kernel) ⟨Nat.le_of_ble_eq_true rfl, Nat.le_of_ble_eq_true rfl⟩) rfl rfl (Nat.le_of_ble_eq_true rfl) dX11_changesByTable_3 ⟨Nat.le_of_ble_eq_true rfl, Nat.le_of_ble_eq_true rfl⟩ ?_
  refine pv_if_eq (tgt := 18) C dX11_changesByTable_6 (by decide) (fun c14 => ?_) (fun c14 => ?_)
  · have h := pq_it c14 h
    refine pv_iconst (v := 0) C dX11_changesByTable_18 (by decide) ?_
    exact pv_iret C hr hlk h dX11_changesByTable_19
  · have h := pq_if c14 h
    refine pv_aload_n C 0 dX11_changesByTable_9 rfl rfl ?_
    refine pv_iload_n C 1 dX11_changesByTable_10 rfl rfl ?_
    refine pv_iload_n C 2 dX11_changesByTable_11 rfl rfl ?_
    obtain ⟨v15, S16, e17, h⟩ := pq_bs h
    refine pv_calliV C (ci := 11) rfl (by decide) k0_ [.int x1, .int x2] (fun sz => r_X11_byTable W0 k0_ e17 sz) (cwV 2 C.1.2.2.2.2 gX11_changesByTable_X11_byTable rfl rfl rfl (by decide +kernel) ⟨Nat.le_of_ble_eq_true rfl, Nat.le_of_ble_eq_true rfl⟩) rfl rfl (Nat.le_of_ble_eq_true rfl) dX11_changesByTable_12 ⟨Nat.le_of_ble_eq_true rfl, Nat.le_of_ble_eq_true rfl⟩ ?_
    refine pv_goto (tgt := 19) C dX11_changesByTable_15 (by decide) ?_
    exact pv_iret C hr hlk h dX11_changesByTable_19
def F_X11_clearText (G : pq_G) (S : pq_N) (a0 : Nat) : Option (Int32 × pq_N) := (pq_lt (pq_wi S a0 7 (0 : Int32)) fun S11 => (pq_bd (F_X11_plain G S11 a0 (S.1 a0 7)) fun v13 S14 => some (v13, S14)))
theorem inu_X11_clearText_11 : ∀ w ∈ u_ws RX11 TX11 24, w ∈ wsX11_clearText := pq_inu 8 rfl
set_option maxHeartbeats 4000000 in
set_option maxRecDepth 100000 in
theorem r_X11_clearText {l : Launch} {D : va_G} {y : pq_Y} {G : pq_G} (W0 : pq_WT G) {S : pq_N} {a0 : Nat} (k0_ : pq_ok G 11 a0) {r : Int32} {S1 : pq_N} (h : F_X11_clearText G S a0 = some (r, S1)) (sz : Nat) : Met l yX11_clearText wsX11_clearText ({ frames := 1, cells := 0, slots := 0, locals := 21 } : Room) (pq_P D y G S sz [.ref a0]) (pq_Qi D y G sz r S1) 0 0 (pq_A G sz) := by
  refine pq_enter RX11 2 (by decide) rfl rfl rfl ?_
  intro p e s m below meth c C hsz hr hlk
  subst hsz
  unfold F_X11_clearText at h
  refine pv_sub (lo1 := [(0, .ref a0)]) [0] rfl ?_
  refine pv_aload_n C 0 dX11_clearText_0 rfl rfl ?_
  refine pv_geti (T := TX11) (N := 24) C 7 inu_X11_clearText_11 rfl (by decide) (by decide) (List.mem_of_getElem? (i := 1) rfl) rfl k0_ dX11_clearText_1 ?_
  refine pv_istore_n C [(1, .int (S.1 a0 7)), (0, .ref a0)] dX11_clearText_4 rfl (by decide) rfl ?_
  refine pv_aload_n C 1 dX11_clearText_5 rfl rfl ?_
  refine pv_iconst (v := 0) C dX11_clearText_6 (by decide) ?_
  refine pv_put (T := TX11) (N := 24) (ty := .int) C 7 inu_X11_clearText_11 rfl (by decide) tyX11 tyX11_ok nmX11 (by decide) (List.mem_of_getElem? (i := 1) rfl) rfl k0_ rfl (by decide +kernel) rfl rfl dX11_clearText_7 ?_
  refine pv_nm (fun S11 e12 => ?_)
  have h := pq_ls e12 h
  refine pv_aload_n C 1 dX11_clearText_10 rfl rfl ?_
  refine pv_iload_n C 0 dX11_clearText_11 rfl rfl ?_
  obtain ⟨v13, S14, e15, h⟩ := pq_bs h
  refine pv_calliV C (ci := 11) rfl (by decide) k0_ [.int (S.1 a0 7)] (fun sz => r_X11_plain W0 k0_ e15 sz) (cwV 1 C.1.2.2.2.2 gX11_clearText_X11_plain rfl rfl rfl (by decide +kernel) ⟨Nat.le_of_ble_eq_true rfl, Nat.le_of_ble_eq_true rfl⟩) rfl rfl (Nat.le_of_ble_eq_true rfl) dX11_clearText_12 ⟨Nat.le_of_ble_eq_true rfl, Nat.le_of_ble_eq_true rfl⟩ ?_
  exact pv_iret C hr hlk h dX11_clearText_15
def F_X11_climb_b94 (G : pq_G) (c2 : pq_N → Nat → Int32 → Option (Unit × pq_N)) (c41 : pq_N → Nat → Int32 → Int32 → Option (Unit × pq_N)) (S : pq_N) (a0 : Nat) (x1 : Int32) (x2 : Int32) (t0 : Int32) (t1 : Int32) (t2 : Nat) : Option (Unit × pq_N) := (if t1 < 0 ∨ pq_n G t2 ≤ (Int32.toNatClampNeg t1) then none else (pq_lt (pq_wi S t2 (Int32.toNatClampNeg t1) t0) fun S45 => (if x1 < 0 ∨ pq_n G (pq_r G a0 20) ≤ (Int32.toNatClampNeg x1) then none else (if x2 < 0 ∨ pq_n G (pq_r G a0 20) ≤ (Int32.toNatClampNeg x2) then none else (if x1 < 0 ∨ pq_n G (pq_r G a0 20) ≤ (Int32.toNatClampNeg x1) then none else (pq_lt (pq_wi S45 (pq_r G a0 20) (Int32.toNatClampNeg x1) ((S45.1 (pq_r G a0 20) (Int32.toNatClampNeg x1)) + (S45.1 (pq_r G a0 20) (Int32.toNatClampNeg x2)))) fun S52 => c41 S52 a0 x1 (x2 + (1 : Int32))))))))
def F_X11_climb_b41 (G : pq_G) (c2 : pq_N → Nat → Int32 → Option (Unit × pq_N)) : Nat → pq_N → Nat → Int32 → Int32 → Option (Unit × pq_N)
  | 0, _, _, _, _ => none
  | n + 1, S, a0, x1, x2 => (if x1 ≤ x2 then c2 S a0 (x1 + (1 : Int32)) else (pq_bd (F_X11_isAnswer G S a0 x1 x2) fun v30 S31 => (if v30 = (0 : Int32) then (F_X11_climb_b41 G c2 n) S31 a0 x1 (x2 + (1 : Int32)) else (if x2 < 0 ∨ pq_n G (pq_r G a0 19) ≤ (Int32.toNatClampNeg x2) then none else (if x1 < 0 ∨ pq_n G (pq_r G a0 19) ≤ (Int32.toNatClampNeg x1) then none else (if ((S31.1 (pq_r G a0 19) (Int32.toNatClampNeg x2)) + (1 : Int32)) ≤ (S31.1 (pq_r G a0 19) (Int32.toNatClampNeg x1)) then (if x1 < 0 ∨ pq_n G (pq_r G a0 19) ≤ (Int32.toNatClampNeg x1) then none else F_X11_climb_b94 G c2 ((F_X11_climb_b41 G c2 n)) S31 a0 x1 x2 (S31.1 (pq_r G a0 19) (Int32.toNatClampNeg x1)) x1 (pq_r G a0 19)) else (if x2 < 0 ∨ pq_n G (pq_r G a0 19) ≤ (Int32.toNatClampNeg x2) then none else F_X11_climb_b94 G c2 ((F_X11_climb_b41 G c2 n)) S31 a0 x1 x2 ((S31.1 (pq_r G a0 19) (Int32.toNatClampNeg x2)) + (1 : Int32)) x1 (pq_r G a0 19))))))))
def F_X11_climb_b2 (G : pq_G)  : Nat → pq_N → Nat → Int32 → Option (Unit × pq_N)
  | 0, _, _, _ => none
  | n + 1, S, a0, x1 => (if (1 : Int32) < 0 ∨ pq_n G (pq_r G a0 0) ≤ (Int32.toNatClampNeg (1 : Int32)) then none else (if (S.1 (pq_r G a0 0) (Int32.toNatClampNeg (1 : Int32))) ≤ x1 then some ((), S) else (if x1 < 0 ∨ pq_n G (pq_r G a0 19) ≤ (Int32.toNatClampNeg x1) then none else (pq_lt (pq_wi S (pq_r G a0 19) (Int32.toNatClampNeg x1) (1 : Int32)) fun S16 => (pq_bd (F_X11_get G S16 a0 x1 (5 : Int32)) fun v19 S20 => (if v19 = (0 : Int32) then (if x1 < 0 ∨ pq_n G (pq_r G a0 20) ≤ (Int32.toNatClampNeg x1) then none else (pq_lt (pq_wi S20 (pq_r G a0 20) (Int32.toNatClampNeg x1) (1 : Int32)) fun S27 => F_X11_climb_b41 G ((F_X11_climb_b2 G n)) pq_fuel S27 a0 x1 (0 : Int32))) else (if x1 < 0 ∨ pq_n G (pq_r G a0 20) ≤ (Int32.toNatClampNeg x1) then none else (pq_lt (pq_wi S20 (pq_r G a0 20) (Int32.toNatClampNeg x1) (0 : Int32)) fun S24 => F_X11_climb_b41 G ((F_X11_climb_b2 G n)) pq_fuel S24 a0 x1 (0 : Int32)))))))))
def F_X11_climb (G : pq_G) (S : pq_N) (a0 : Nat) : Option (Unit × pq_N) := F_X11_climb_b2 G pq_fuel S a0 (0 : Int32)
theorem inu_X11_climb_11 : ∀ w ∈ u_ws RX11 TX11 24, w ∈ wsX11_climb := pq_inu 17 rfl
set_option maxHeartbeats 4000000 in
set_option maxRecDepth 100000 in
theorem r_X11_climb_b94 {p : Program} {l : Launch} {e : Env} {s : State} {m : MethodId} {av : Array Value} {below : List Frame} {meth : Method} {c : Code} {D : va_G} {y : pq_Y} {G : pq_G} {S1 : pq_N} (W0 : pq_WT G) (C : pq_C p s m av c D y RX11 wsX11_climb cX11_climb 3) (hr : meth.sig.returnType = none) (hlk : meth.locks = false) {c2 : pq_N → Nat → Int32 → Option (Unit × pq_N)} (hk2 : ∀ (S : pq_N) (a0 : Nat) (x1 : Int32), pq_ok G 11 a0 → c2 S a0 x1 = some ((), S1) → pq_V p l e (headSpec wsX11_climb ({ frames := 3, cells := 0, slots := 0, locals := 68 } : Room)).room s m av below meth c 0 0 (MQ below (pq_Qv D y G s.heap.size S1) av s 0 0 (pq_A G s.heap.size)) D y 3 (pq_A G s.heap.size) (fun _ => True) G S 2 [(0, .ref a0), (1, .int x1)] []) {c41 : pq_N → Nat → Int32 → Int32 → Option (Unit × pq_N)} (hk41 : ∀ (S : pq_N) (a0 : Nat) (x1 : Int32) (x2 : Int32), pq_ok G 11 a0 → c41 S a0 x1 x2 = some ((), S1) → pq_V p l e (headSpec wsX11_climb ({ frames := 3, cells := 0, slots := 0, locals := 68 } : Room)).room s m av below meth c 0 0 (MQ below (pq_Qv D y G s.heap.size S1) av s 0 0 (pq_A G s.heap.size)) D y 3 (pq_A G s.heap.size) (fun _ => True) G S 41 [(0, .ref a0), (1, .int x1), (2, .int x2)] []) : ∀ (S : pq_N) (a0 : Nat) (x1 : Int32) (x2 : Int32) (t0 : Int32) (t1 : Int32) (t2 : Nat), pq_ok G 11 a0 → pq_ok G 12 t2 → F_X11_climb_b94 G c2 c41 S a0 x1 x2 t0 t1 t2 = some ((), S1) → pq_V p l e (headSpec wsX11_climb ({ frames := 3, cells := 0, slots := 0, locals := 68 } : Room)).room s m av below meth c 0 0 (MQ below (pq_Qv D y G s.heap.size S1) av s 0 0 (pq_A G s.heap.size)) D y 3 (pq_A G s.heap.size) (fun _ => True) G S 94 [(0, .ref a0), (1, .int x1), (2, .int x2)] [.int t0, .int t1, .ref t2] := by
  intro S a0 x1 x2 t0 t1 t2 k0_ kt2_ h
  unfold F_X11_climb_b94 at h
  obtain ⟨g44, h⟩ := pq_gd h
  refine pv_iastore C kt2_ g44 dX11_climb_94 ?_
  refine pv_nm (fun S45 e46 => ?_)
  have h := pq_ls e46 h
  refine pv_aload_n C 0 dX11_climb_95 rfl rfl ?_
  have k47 := pq_wt (k := 20) W0 k0_ rfl
  refine pv_getr (T := TX11) (N := 24) C 20 inu_X11_climb_11 rfl (by decide) (by decide) (List.mem_of_getElem? (i := 3) rfl) rfl k0_ k47.1 dX11_climb_96 ?_
  refine pv_iload_n C 1 dX11_climb_99 rfl rfl ?_
  refine pv_dup2 C dX11_climb_100 rfl rfl ?_
  obtain ⟨g48, h⟩ := pq_gd h
  refine pv_iaload C k47.2 g48 dX11_climb_101 ?_
  refine pv_aload_n C 0 dX11_climb_102 rfl rfl ?_
  have k49 := pq_wt (k := 20) W0 k0_ rfl
  refine pv_getr (T := TX11) (N := 24) C 20 inu_X11_climb_11 rfl (by decide) (by decide) (List.mem_of_getElem? (i := 3) rfl) rfl k0_ k49.1 dX11_climb_103 ?_
  refine pv_iload_n C 2 dX11_climb_106 rfl rfl ?_
  obtain ⟨g50, h⟩ := pq_gd h
  refine pv_iaload C k49.2 g50 dX11_climb_107 ?_
  refine pv_iadd C dX11_climb_108 ?_
  obtain ⟨g51, h⟩ := pq_gd h
  refine pv_iastore C k47.2 g51 dX11_climb_109 ?_
  refine pv_nm (fun S52 e53 => ?_)
  have h := pq_ls e53 h
  refine pv_iinc (v := (x2 + (1 : Int32))) C 2 [(2, .int (x2 + (1 : Int32))), (0, .ref a0), (1, .int x1)] dX11_climb_110 rfl rfl (by decide) rfl ?_
  refine pv_goto (tgt := 41) C dX11_climb_113 (by decide) ?_
  refine pv_sub [1, 2, 0] rfl ?_
  exact hk41 _ _ _ _ k0_ h
set_option maxHeartbeats 4000000 in
set_option maxRecDepth 100000 in
theorem r_X11_climb_b41 {p : Program} {l : Launch} {e : Env} {s : State} {m : MethodId} {av : Array Value} {below : List Frame} {meth : Method} {c : Code} {D : va_G} {y : pq_Y} {G : pq_G} {S1 : pq_N} (W0 : pq_WT G) (C : pq_C p s m av c D y RX11 wsX11_climb cX11_climb 3) (hr : meth.sig.returnType = none) (hlk : meth.locks = false) {c2 : pq_N → Nat → Int32 → Option (Unit × pq_N)} (hk2 : ∀ (S : pq_N) (a0 : Nat) (x1 : Int32), pq_ok G 11 a0 → c2 S a0 x1 = some ((), S1) → pq_V p l e (headSpec wsX11_climb ({ frames := 3, cells := 0, slots := 0, locals := 68 } : Room)).room s m av below meth c 0 0 (MQ below (pq_Qv D y G s.heap.size S1) av s 0 0 (pq_A G s.heap.size)) D y 3 (pq_A G s.heap.size) (fun _ => True) G S 2 [(0, .ref a0), (1, .int x1)] []) (n : Nat) : ∀ (S : pq_N) (a0 : Nat) (x1 : Int32) (x2 : Int32), pq_ok G 11 a0 → F_X11_climb_b41 G c2 n S a0 x1 x2 = some ((), S1) → pq_V p l e (headSpec wsX11_climb ({ frames := 3, cells := 0, slots := 0, locals := 68 } : Room)).room s m av below meth c 0 0 (MQ below (pq_Qv D y G s.heap.size S1) av s 0 0 (pq_A G s.heap.size)) D y 3 (pq_A G s.heap.size) (fun _ => True) G S 41 [(0, .ref a0), (1, .int x1), (2, .int x2)] [] := by
  induction n with
  | zero =>
    intro S a0 x1 x2 k0_ h
    rw [F_X11_climb_b41.eq_1] at h; cases h
  | succ n ih =>
    intro S a0 x1 x2 k0_ h
    rw [F_X11_climb_b41.eq_2] at h
    refine pv_iload_n C 2 dX11_climb_41 rfl rfl ?_
    refine pv_iload_n C 1 dX11_climb_42 rfl rfl ?_
    refine pv_icmp_ge (tgt := 116) C dX11_climb_43 (by decide) (fun c29 => ?_) (fun c29 => ?_)
    · have h := pq_it c29 h
      refine pv_iinc (v := (x1 + (1 : Int32))) C 1 [(1, .int (x1 + (1 : Int32))), (0, .ref a0), (2, .int x2)] dX11_climb_116 rfl rfl (by decide) rfl ?_
      refine pv_goto (tgt := 2) C dX11_climb_119 (by decide) ?_
      refine pv_sub [1, 0] rfl ?_
      exact hk2 _ _ _ k0_ h
    · have h := pq_if c29 h
      refine pv_aload_n C 0 dX11_climb_46 rfl rfl ?_
      refine pv_iload_n C 1 dX11_climb_47 rfl rfl ?_
      refine pv_iload_n C 2 dX11_climb_48 rfl rfl ?_
      obtain ⟨v30, S31, e32, h⟩ := pq_bs h
      refine pv_calliV C (ci := 11) rfl (by decide) k0_ [.int x1, .int x2] (fun sz => r_X11_isAnswer W0 k0_ e32 sz) (cwV 2 C.1.2.2.2.2 gX11_climb_X11_isAnswer rfl rfl rfl (by decide +kernel) ⟨Nat.le_of_ble_eq_true rfl, Nat.le_of_ble_eq_true rfl⟩) rfl rfl (Nat.le_of_ble_eq_true rfl) dX11_climb_49 ⟨Nat.le_of_ble_eq_true rfl, Nat.le_of_ble_eq_true rfl⟩ ?_
      refine pv_if_eq (tgt := 110) C dX11_climb_52 (by decide) (fun c33 => ?_) (fun c33 => ?_)
      · have h := pq_it c33 h
        refine pv_iinc (v := (x2 + (1 : Int32))) C 2 [(2, .int (x2 + (1 : Int32))), (0, .ref a0), (1, .int x1)] dX11_climb_110 rfl rfl (by decide) rfl ?_
        refine pv_goto (tgt := 41) C dX11_climb_113 (by decide) ?_
        refine pv_sub [1, 2, 0] rfl ?_
        exact ih _ _ _ _ k0_ h
      · have h := pq_if c33 h
        refine pv_aload_n C 0 dX11_climb_55 rfl rfl ?_
        have k34 := pq_wt (k := 19) W0 k0_ rfl
        refine pv_getr (T := TX11) (N := 24) C 19 inu_X11_climb_11 rfl (by decide) (by decide) (List.mem_of_getElem? (i := 2) rfl) rfl k0_ k34.1 dX11_climb_56 ?_
        refine pv_iload_n C 1 dX11_climb_59 rfl rfl ?_
        refine pv_aload_n C 0 dX11_climb_60 rfl rfl ?_
        have k35 := pq_wt (k := 19) W0 k0_ rfl
        refine pv_getr (T := TX11) (N := 24) C 19 inu_X11_climb_11 rfl (by decide) (by decide) (List.mem_of_getElem? (i := 2) rfl) rfl k0_ k35.1 dX11_climb_61 ?_
        refine pv_iload_n C 2 dX11_climb_64 rfl rfl ?_
        obtain ⟨g36, h⟩ := pq_gd h
        refine pv_iaload C k35.2 g36 dX11_climb_65 ?_
        refine pv_iconst (v := 1) C dX11_climb_66 (by decide) ?_
        refine pv_iadd C dX11_climb_67 ?_
        refine pv_aload_n C 0 dX11_climb_68 rfl rfl ?_
        have k37 := pq_wt (k := 19) W0 k0_ rfl
        refine pv_getr (T := TX11) (N := 24) C 19 inu_X11_climb_11 rfl (by decide) (by decide) (List.mem_of_getElem? (i := 2) rfl) rfl k0_ k37.1 dX11_climb_69 ?_
        refine pv_iload_n C 1 dX11_climb_72 rfl rfl ?_
        obtain ⟨g38, h⟩ := pq_gd h
        refine pv_iaload C k37.2 g38 dX11_climb_73 ?_
        refine pv_icmp_le (tgt := 88) C dX11_climb_74 (by decide) (fun c39 => ?_) (fun c39 => ?_)
        · have h := pq_it c39 h
          refine pv_aload_n C 0 dX11_climb_88 rfl rfl ?_
          have k40 := pq_wt (k := 19) W0 k0_ rfl
          refine pv_getr (T := TX11) (N := 24) C 19 inu_X11_climb_11 rfl (by decide) (by decide) (List.mem_of_getElem? (i := 2) rfl) rfl k0_ k40.1 dX11_climb_89 ?_
          refine pv_iload_n C 1 dX11_climb_92 rfl rfl ?_
          obtain ⟨g41, h⟩ := pq_gd h
          refine pv_iaload C k40.2 g41 dX11_climb_93 ?_
          refine pv_sub [0, 1, 2] rfl ?_
          exact r_X11_climb_b94 W0 C hr hlk hk2 ih _ _ _ _ _ _ _ k0_ k34.2 h
        · have h := pq_if c39 h
          refine pv_aload_n C 0 dX11_climb_77 rfl rfl ?_
          have k42 := pq_wt (k := 19) W0 k0_ rfl
          refine pv_getr (T := TX11) (N := 24) C 19 inu_X11_climb_11 rfl (by decide) (by decide) (List.mem_of_getElem? (i := 2) rfl) rfl k0_ k42.1 dX11_climb_78 ?_
          refine pv_iload_n C 2 dX11_climb_81 rfl rfl ?_
          obtain ⟨g43, h⟩ := pq_gd h
          refine pv_iaload C k42.2 g43 dX11_climb_82 ?_
          refine pv_iconst (v := 1) C dX11_climb_83 (by decide) ?_
          refine pv_iadd C dX11_climb_84 ?_
          refine pv_goto (tgt := 94) C dX11_climb_85 (by decide) ?_
          refine pv_sub [0, 1, 2] rfl ?_
          exact r_X11_climb_b94 W0 C hr hlk hk2 ih _ _ _ _ _ _ _ k0_ k34.2 h
set_option maxHeartbeats 4000000 in
set_option maxRecDepth 100000 in
theorem r_X11_climb_b2 {p : Program} {l : Launch} {e : Env} {s : State} {m : MethodId} {av : Array Value} {below : List Frame} {meth : Method} {c : Code} {D : va_G} {y : pq_Y} {G : pq_G} {S1 : pq_N} (W0 : pq_WT G) (C : pq_C p s m av c D y RX11 wsX11_climb cX11_climb 3) (hr : meth.sig.returnType = none) (hlk : meth.locks = false) (n : Nat) : ∀ (S : pq_N) (a0 : Nat) (x1 : Int32), pq_ok G 11 a0 → F_X11_climb_b2 G n S a0 x1 = some ((), S1) → pq_V p l e (headSpec wsX11_climb ({ frames := 3, cells := 0, slots := 0, locals := 68 } : Room)).room s m av below meth c 0 0 (MQ below (pq_Qv D y G s.heap.size S1) av s 0 0 (pq_A G s.heap.size)) D y 3 (pq_A G s.heap.size) (fun _ => True) G S 2 [(0, .ref a0), (1, .int x1)] [] := by
  induction n with
  | zero =>
    intro S a0 x1 k0_ h
    rw [F_X11_climb_b2.eq_1] at h; cases h
  | succ n ih =>
    intro S a0 x1 k0_ h
    rw [F_X11_climb_b2.eq_2] at h
    refine pv_iload_n C 1 dX11_climb_2 rfl rfl ?_
    refine pv_aload_n C 0 dX11_climb_3 rfl rfl ?_
    have k11 := pq_wt (k := 0) W0 k0_ rfl
    refine pv_getr (T := TX11) (N := 24) C 0 inu_X11_climb_11 rfl (by decide) (by decide) (List.mem_of_getElem? (i := 1) rfl) rfl k0_ k11.1 dX11_climb_4 ?_
    refine pv_iconst (v := 1) C dX11_climb_7 (by decide) ?_
    obtain ⟨g12, h⟩ := pq_gd h
    refine pv_iaload C k11.2 g12 dX11_climb_8 ?_
    refine pv_icmp_ge (tgt := 122) C dX11_climb_9 (by decide) (fun c13 => ?_) (fun c13 => ?_)
    · have h := pq_it c13 h
      exact pv_vret C hr hlk h dX11_climb_122
    · have h := pq_if c13 h
      refine pv_aload_n C 0 dX11_climb_12 rfl rfl ?_
      have k14 := pq_wt (k := 19) W0 k0_ rfl
      refine pv_getr (T := TX11) (N := 24) C 19 inu_X11_climb_11 rfl (by decide) (by decide) (List.mem_of_getElem? (i := 2) rfl) rfl k0_ k14.1 dX11_climb_13 ?_
      refine pv_iload_n C 1 dX11_climb_16 rfl rfl ?_
      refine pv_iconst (v := 1) C dX11_climb_17 (by decide) ?_
      obtain ⟨g15, h⟩ := pq_gd h
      refine pv_iastore C k14.2 g15 dX11_climb_18 ?_
      refine pv_nm (fun S16 e17 => ?_)
      have h := pq_ls e17 h
      refine pv_aload_n C 0 dX11_climb_19 rfl rfl ?_
      have k18 := pq_wt (k := 20) W0 k0_ rfl
      refine pv_getr (T := TX11) (N := 24) C 20 inu_X11_climb_11 rfl (by decide) (by decide) (List.mem_of_getElem? (i := 3) rfl) rfl k0_ k18.1 dX11_climb_20 ?_
      refine pv_iload_n C 1 dX11_climb_23 rfl rfl ?_
      refine pv_aload_n C 0 dX11_climb_24 rfl rfl ?_
      refine pv_iload_n C 1 dX11_climb_25 rfl rfl ?_
      refine pv_iconst (v := 5) C dX11_climb_26 (by decide) ?_
      obtain ⟨v19, S20, e21, h⟩ := pq_bs h
      refine pv_calliV C (ci := 11) rfl (by decide) k0_ [.int x1, .int (5 : Int32)] (fun sz => r_X11_get W0 k0_ e21 sz) (cwV 2 C.1.2.2.2.2 gX11_climb_X11_get rfl rfl rfl (by decide +kernel) ⟨Nat.le_of_ble_eq_true rfl, Nat.le_of_ble_eq_true rfl⟩) rfl rfl (Nat.le_of_ble_eq_true rfl) dX11_climb_27 ⟨Nat.le_of_ble_eq_true rfl, Nat.le_of_ble_eq_true rfl⟩ ?_
      refine pv_if_ne (tgt := 37) C dX11_climb_30 (by decide) (fun c22 => ?_) (fun c22 => ?_)
      · have h := pq_if c22 h
        refine pv_iconst (v := 0) C dX11_climb_37 (by decide) ?_
        obtain ⟨g23, h⟩ := pq_gd h
        refine pv_iastore C k18.2 g23 dX11_climb_38 ?_
        refine pv_nm (fun S24 e25 => ?_)
        have h := pq_ls e25 h
        refine pv_iconst (v := 0) C dX11_climb_39 (by decide) ?_
        refine pv_istore_n C [(2, .int (0 : Int32)), (0, .ref a0), (1, .int x1)] dX11_climb_40 rfl (by decide) rfl ?_
        refine pv_sub [1, 2, 0] rfl ?_
        exact r_X11_climb_b41 W0 C hr hlk ih pq_fuel _ _ _ _ k0_ h
      · have h := pq_it c22 h
        refine pv_iconst (v := 1) C dX11_climb_33 (by decide) ?_
        refine pv_goto (tgt := 38) C dX11_climb_34 (by decide) ?_
        obtain ⟨g26, h⟩ := pq_gd h
        refine pv_iastore C k18.2 g26 dX11_climb_38 ?_
        refine pv_nm (fun S27 e28 => ?_)
        have h := pq_ls e28 h
        refine pv_iconst (v := 0) C dX11_climb_39 (by decide) ?_
        refine pv_istore_n C [(2, .int (0 : Int32)), (0, .ref a0), (1, .int x1)] dX11_climb_40 rfl (by decide) rfl ?_
        refine pv_sub [1, 2, 0] rfl ?_
        exact r_X11_climb_b41 W0 C hr hlk ih pq_fuel _ _ _ _ k0_ h
set_option maxHeartbeats 4000000 in
set_option maxRecDepth 100000 in
theorem r_X11_climb {l : Launch} {D : va_G} {y : pq_Y} {G : pq_G} (W0 : pq_WT G) {S : pq_N} {a0 : Nat} (k0_ : pq_ok G 11 a0) {S1 : pq_N} (h : F_X11_climb G S a0 = some ((), S1)) (sz : Nat) : Met l yX11_climb wsX11_climb ({ frames := 3, cells := 0, slots := 0, locals := 68 } : Room) (pq_P D y G S sz [.ref a0]) (pq_Qv D y G sz S1) 0 0 (pq_A G sz) := by
  refine pq_enter RX11 3 (by decide) rfl rfl rfl ?_
  intro p e s m below meth c C hsz hr hlk
  subst hsz
  unfold F_X11_climb at h
  refine pv_sub (lo1 := [(0, .ref a0)]) [0] rfl ?_
  refine pv_iconst (v := 0) C dX11_climb_0 (by decide) ?_
  refine pv_istore_n C [(1, .int (0 : Int32)), (0, .ref a0)] dX11_climb_1 rfl (by decide) rfl ?_
  refine pv_sub [1, 0] rfl ?_
  exact r_X11_climb_b2 W0 C hr hlk pq_fuel _ _ _ k0_ h
def F_X11_comes_b29 (G : pq_G)  (S : pq_N) (a0 : Nat) (t0 : Int32) : Option (Int32 × pq_N) := (if t0 = (0 : Int32) then (pq_lt (pq_wi S a0 9 ((S.1 a0 9) + (0 : Int32))) fun S16 => (if ¬ (t0 = 0 ∨ t0 = 1) then none else some (t0, S16))) else (pq_lt (pq_wi S a0 9 ((S.1 a0 9) + (1 : Int32))) fun S19 => (if ¬ (t0 = 0 ∨ t0 = 1) then none else some (t0, S19))))
def F_X11_comes (G : pq_G) (S : pq_N) (a0 : Nat) (x1 : Int32) : Option (Int32 × pq_N) := (if (S.1 a0 7) ≤ (S.1 a0 9) then F_X11_comes_b29 G S a0 (0 : Int32) else (if (S.1 a0 9) < 0 ∨ pq_n G (pq_r G a0 6) ≤ (Int32.toNatClampNeg (S.1 a0 9)) then none else (if (S.1 (pq_r G a0 6) (Int32.toNatClampNeg (S.1 a0 9))) = x1 then F_X11_comes_b29 G S a0 (1 : Int32) else F_X11_comes_b29 G S a0 (0 : Int32))))
theorem inu_X11_comes_11 : ∀ w ∈ u_ws RX11 TX11 24, w ∈ wsX11_comes := pq_inu 4 rfl
set_option maxHeartbeats 4000000 in
set_option maxRecDepth 100000 in
theorem r_X11_comes_b29 {p : Program} {l : Launch} {e : Env} {s : State} {m : MethodId} {av : Array Value} {below : List Frame} {meth : Method} {c : Code} {D : va_G} {y : pq_Y} {G : pq_G} {r : Int32} {S1 : pq_N} (W0 : pq_WT G) (C : pq_C p s m av c D y RX11 wsX11_comes cX11_comes 3) (hr : meth.sig.returnType = (some .boolean)) (hlk : meth.locks = false) : ∀ (S : pq_N) (a0 : Nat) (t0 : Int32), pq_ok G 11 a0 → F_X11_comes_b29 G S a0 t0 = some (r, S1) → pq_V p l e (headSpec wsX11_comes ({ frames := 0, cells := 0, slots := 0, locals := 0 } : Room)).room s m av below meth c 0 0 (MQ below (pq_Qi D y G s.heap.size r S1) av s 0 0 (pq_A G s.heap.size)) D y 3 (pq_A G s.heap.size) (fun _ => True) G S 29 [(0, .ref a0)] [.int t0] := by
  intro S a0 t0 k0_ h
  unfold F_X11_comes_b29 at h
  refine pv_istore_n C [(2, .int t0), (0, .ref a0)] dX11_comes_29 rfl (by decide) rfl ?_
  refine pv_aload_n C 1 dX11_comes_30 rfl rfl ?_
  refine pv_dup C dX11_comes_31 rfl ?_
  refine pv_geti (T := TX11) (N := 24) C 9 inu_X11_comes_11 rfl (by decide) (by decide) (List.mem_of_getElem? (i := 1) rfl) rfl k0_ dX11_comes_32 ?_
  refine pv_iload_n C 0 dX11_comes_35 rfl rfl ?_
  refine pv_if_eq (tgt := 43) C dX11_comes_36 (by decide) (fun c15 => ?_) (fun c15 => ?_)
  · have h := pq_it c15 h
    refine pv_iconst (v := 0) C dX11_comes_43 (by decide) ?_
    refine pv_iadd C dX11_comes_44 ?_
    refine pv_put (T := TX11) (N := 24) (ty := .int) C 9 inu_X11_comes_11 rfl (by decide) tyX11 tyX11_ok nmX11 (by decide) (List.mem_of_getElem? (i := 1) rfl) rfl k0_ rfl (by decide +kernel) rfl rfl dX11_comes_45 ?_
    refine pv_nm (fun S16 e17 => ?_)
    have h := pq_ls e17 h
    refine pv_iload_n C 0 dX11_comes_48 rfl rfl ?_
    obtain ⟨g18, h⟩ := pq_gd h
    exact pv_zret C hr (pq_nz (Decidable.not_not.mp g18)) hlk h dX11_comes_49
  · have h := pq_if c15 h
    refine pv_iconst (v := 1) C dX11_comes_39 (by decide) ?_
    refine pv_goto (tgt := 44) C dX11_comes_40 (by decide) ?_
    refine pv_iadd C dX11_comes_44 ?_
    refine pv_put (T := TX11) (N := 24) (ty := .int) C 9 inu_X11_comes_11 rfl (by decide) tyX11 tyX11_ok nmX11 (by decide) (List.mem_of_getElem? (i := 1) rfl) rfl k0_ rfl (by decide +kernel) rfl rfl dX11_comes_45 ?_
    refine pv_nm (fun S19 e20 => ?_)
    have h := pq_ls e20 h
    refine pv_iload_n C 0 dX11_comes_48 rfl rfl ?_
    obtain ⟨g21, h⟩ := pq_gd h
    exact pv_zret C hr (pq_nz (Decidable.not_not.mp g21)) hlk h dX11_comes_49
set_option maxHeartbeats 4000000 in
set_option maxRecDepth 100000 in
theorem r_X11_comes {l : Launch} {D : va_G} {y : pq_Y} {G : pq_G} (W0 : pq_WT G) {S : pq_N} {a0 : Nat} {x1 : Int32} (k0_ : pq_ok G 11 a0) {r : Int32} {S1 : pq_N} (h : F_X11_comes G S a0 x1 = some (r, S1)) (sz : Nat) : Met l yX11_comes wsX11_comes ({ frames := 0, cells := 0, slots := 0, locals := 0 } : Room) (pq_P D y G S sz [.ref a0, .int x1]) (pq_Qi D y G sz r S1) 0 0 (pq_A G sz) := by
  refine pq_enter RX11 3 (by decide) rfl rfl rfl ?_
  intro p e s m below meth c C hsz hr hlk
  subst hsz
  unfold F_X11_comes at h
  refine pv_sub (lo1 := [(0, .ref a0), (1, .int x1)]) [0, 1] rfl ?_
  refine pv_aload_n C 0 dX11_comes_0 rfl rfl ?_
  refine pv_geti (T := TX11) (N := 24) C 9 inu_X11_comes_11 rfl (by decide) (by decide) (List.mem_of_getElem? (i := 1) rfl) rfl k0_ dX11_comes_1 ?_
  refine pv_aload_n C 0 dX11_comes_4 rfl rfl ?_
  refine pv_geti (T := TX11) (N := 24) C 7 inu_X11_comes_11 rfl (by decide) (by decide) (List.mem_of_getElem? (i := 2) rfl) rfl k0_ dX11_comes_5 ?_
  refine pv_icmp_ge (tgt := 28) C dX11_comes_8 (by decide) (fun c11 => ?_) (fun c11 => ?_)
  · have h := pq_it c11 h
    refine pv_iconst (v := 0) C dX11_comes_28 (by decide) ?_
    refine pv_sub [0] rfl ?_
    exact r_X11_comes_b29 W0 C hr hlk _ _ _ k0_ h
  · have h := pq_if c11 h
    refine pv_aload_n C 0 dX11_comes_11 rfl rfl ?_
    have k12 := pq_wt (k := 6) W0 k0_ rfl
    refine pv_getr (T := TX11) (N := 24) C 6 inu_X11_comes_11 rfl (by decide) (by decide) (List.mem_of_getElem? (i := 3) rfl) rfl k0_ k12.1 dX11_comes_12 ?_
    refine pv_aload_n C 0 dX11_comes_15 rfl rfl ?_
    refine pv_geti (T := TX11) (N := 24) C 9 inu_X11_comes_11 rfl (by decide) (by decide) (List.mem_of_getElem? (i := 1) rfl) rfl k0_ dX11_comes_16 ?_
    obtain ⟨g13, h⟩ := pq_gd h
    refine pv_iaload C k12.2 g13 dX11_comes_19 ?_
    refine pv_iload_n C 1 dX11_comes_20 rfl rfl ?_
    refine pv_icmp_ne (tgt := 28) C dX11_comes_21 (by decide) (fun c14 => ?_) (fun c14 => ?_)
    · have h := pq_if c14 h
      refine pv_iconst (v := 0) C dX11_comes_28 (by decide) ?_
      refine pv_sub [0] rfl ?_
      exact r_X11_comes_b29 W0 C hr hlk _ _ _ k0_ h
    · have h := pq_it c14 h
      refine pv_iconst (v := 1) C dX11_comes_24 (by decide) ?_
      refine pv_goto (tgt := 29) C dX11_comes_25 (by decide) ?_
      refine pv_sub [0] rfl ?_
      exact r_X11_comes_b29 W0 C hr hlk _ _ _ k0_ h
def F_X11_comesFrom (G : pq_G) (S : pq_N) (a0 : Nat) (x1 : Int32) (x2 : Int32) : Option (Int32 × pq_N) := (pq_bd (F_X11_isTold G S a0 x1 x2) fun v11 S12 => (if v11 = (0 : Int32) then some ((0 : Int32), S12) else (pq_bd (F_X11_from G S12 a0 x1 x2) fun v15 S16 => some (v15, S16))))
set_option maxHeartbeats 4000000 in
set_option maxRecDepth 100000 in
theorem r_X11_comesFrom {l : Launch} {D : va_G} {y : pq_Y} {G : pq_G} (W0 : pq_WT G) {S : pq_N} {a0 : Nat} {x1 : Int32} {x2 : Int32} (k0_ : pq_ok G 11 a0) {r : Int32} {S1 : pq_N} (h : F_X11_comesFrom G S a0 x1 x2 = some (r, S1)) (sz : Nat) : Met l yX11_comesFrom wsX11_comesFrom ({ frames := 5, cells := 0, slots := 0, locals := 126 } : Room) (pq_P D y G S sz [.ref a0, .int x1, .int x2]) (pq_Qi D y G sz r S1) 0 0 (pq_A G sz) := by
  refine pq_enter RX11 3 (by decide) rfl rfl rfl ?_
  intro p e s m below meth c C hsz hr hlk
  subst hsz
  unfold F_X11_comesFrom at h
  refine pv_sub (lo1 := [(0, .ref a0), (1, .int x1), (2, .int x2)]) [0, 1, 2] rfl ?_
  refine pv_aload_n C 0 dX11_comesFrom_0 rfl rfl ?_
  refine pv_iload_n C 1 dX11_comesFrom_1 rfl rfl ?_
  refine pv_iload_n C 2 dX11_comesFrom_2 rfl rfl ?_
  obtain ⟨v11, S12, e13, h⟩ := pq_bs h
  refine pv_calliV C (ci := 11) rfl (by decide) k0_ [.int x1, .int x2] (fun sz => r_X11_isTold W0 k0_ e13 sz) (cwV 2 C.1.2.2.2.2 gX11_comesFrom_X11_isTold rfl rfl rfl (by decide +kernel) ⟨Nat.le_of_ble_eq_true rfl, Nat.le_of_ble_eq_true rfl⟩) rfl rfl (Nat.le_of_ble_eq_true rfl) dX11_comesFrom_3 ⟨Nat.le_of_ble_eq_true rfl, Nat.le_of_ble_eq_true rfl⟩ ?_
  refine pv_if_eq (tgt := 18) C dX11_comesFrom_6 (by decide) (fun c14 => ?_) (fun c14 => ?_)
  · have h := pq_it c14 h
    refine pv_iconst (v := 0) C dX11_comesFrom_18 (by decide) ?_
    exact pv_iret C hr hlk h dX11_comesFrom_19
  · have h := pq_if c14 h
    refine pv_aload_n C 0 dX11_comesFrom_9 rfl rfl ?_
    refine pv_iload_n C 1 dX11_comesFrom_10 rfl rfl ?_
    refine pv_iload_n C 2 dX11_comesFrom_11 rfl rfl ?_
    obtain ⟨v15, S16, e17, h⟩ := pq_bs h
    refine pv_calliV C (ci := 11) rfl (by decide) k0_ [.int x1, .int x2] (fun sz => r_X11_from W0 k0_ e17 sz) (cwV 2 C.1.2.2.2.2 gX11_comesFrom_X11_from rfl rfl rfl (by decide +kernel) ⟨Nat.le_of_ble_eq_true rfl, Nat.le_of_ble_eq_true rfl⟩) rfl rfl (Nat.le_of_ble_eq_true rfl) dX11_comesFrom_12 ⟨Nat.le_of_ble_eq_true rfl, Nat.le_of_ble_eq_true rfl⟩ ?_
    refine pv_goto (tgt := 19) C dX11_comesFrom_15 (by decide) ?_
    exact pv_iret C hr hlk h dX11_comesFrom_19
def F_X11_count_b27 (G : pq_G)  (S : pq_N) (a0 : Nat) (x1 : Int64) (x3 : Int32) : Option (Unit × pq_N) := (if x3 = (S.1 a0 23) then (if x3 < 0 ∨ pq_n G (pq_r G a0 21) ≤ (Int32.toNatClampNeg x3) then none else (pq_lt (pq_wj S (pq_r G a0 21) (Int32.toNatClampNeg x3) x1) fun S23 => (if x3 < 0 ∨ pq_n G (pq_r G a0 22) ≤ (Int32.toNatClampNeg x3) then none else (pq_lt (pq_wi S23 (pq_r G a0 22) (Int32.toNatClampNeg x3) (0 : Int32)) fun S27 => (pq_lt (pq_wi S27 a0 23 ((S27.1 a0 23) + (1 : Int32))) fun S29 => (if x3 < 0 ∨ pq_n G (pq_r G a0 22) ≤ (Int32.toNatClampNeg x3) then none else (if x3 < 0 ∨ pq_n G (pq_r G a0 22) ≤ (Int32.toNatClampNeg x3) then none else (pq_lt (pq_wi S29 (pq_r G a0 22) (Int32.toNatClampNeg x3) ((S29.1 (pq_r G a0 22) (Int32.toNatClampNeg x3)) + (1 : Int32))) fun S34 => some ((), S34))))))))) else (if x3 < 0 ∨ pq_n G (pq_r G a0 22) ≤ (Int32.toNatClampNeg x3) then none else (if x3 < 0 ∨ pq_n G (pq_r G a0 22) ≤ (Int32.toNatClampNeg x3) then none else (pq_lt (pq_wi S (pq_r G a0 22) (Int32.toNatClampNeg x3) ((S.1 (pq_r G a0 22) (Int32.toNatClampNeg x3)) + (1 : Int32))) fun S19 => some ((), S19)))))
def F_X11_count_b2 (G : pq_G)  : Nat → pq_N → Nat → Int64 → Int32 → Option (Unit × pq_N)
  | 0, _, _, _, _ => none
  | n + 1, S, a0, x1, x3 => (if (S.1 a0 23) ≤ x3 then F_X11_count_b27 G S a0 x1 x3 else (if x3 < 0 ∨ pq_n G (pq_r G a0 21) ≤ (Int32.toNatClampNeg x3) then none else (if (lg_cmp (S.2 (pq_r G a0 21) (Int32.toNatClampNeg x3)) x1) = (0 : Int32) then F_X11_count_b27 G S a0 x1 x3 else (F_X11_count_b2 G n) S a0 x1 (x3 + (1 : Int32)))))
def F_X11_count (G : pq_G) (S : pq_N) (a0 : Nat) (x1 : Int64) : Option (Unit × pq_N) := F_X11_count_b2 G pq_fuel S a0 x1 (0 : Int32)
theorem inu_X11_count_11 : ∀ w ∈ u_ws RX11 TX11 24, w ∈ wsX11_count := pq_inu 4 rfl
set_option maxHeartbeats 4000000 in
set_option maxRecDepth 100000 in
theorem r_X11_count_b27 {p : Program} {l : Launch} {e : Env} {s : State} {m : MethodId} {av : Array Value} {below : List Frame} {meth : Method} {c : Code} {D : va_G} {y : pq_Y} {G : pq_G} {S1 : pq_N} (W0 : pq_WT G) (C : pq_C p s m av c D y RX11 wsX11_count cX11_count 4) (hr : meth.sig.returnType = none) (hlk : meth.locks = false) : ∀ (S : pq_N) (a0 : Nat) (x1 : Int64) (x3 : Int32), pq_ok G 11 a0 → F_X11_count_b27 G S a0 x1 x3 = some ((), S1) → pq_V p l e (headSpec wsX11_count ({ frames := 0, cells := 0, slots := 0, locals := 0 } : Room)).room s m av below meth c 0 0 (MQ below (pq_Qv D y G s.heap.size S1) av s 0 0 (pq_A G s.heap.size)) D y 4 (pq_A G s.heap.size) (fun _ => True) G S 27 [(0, .ref a0), (1, .long x1), (3, .int x3)] [] := by
  intro S a0 x1 x3 k0_ h
  unfold F_X11_count_b27 at h
  refine pv_iload_n C 2 dX11_count_27 rfl rfl ?_
  refine pv_aload_n C 0 dX11_count_28 rfl rfl ?_
  refine pv_geti (T := TX11) (N := 24) C 23 inu_X11_count_11 rfl (by decide) (by decide) (List.mem_of_getElem? (i := 1) rfl) rfl k0_ dX11_count_29 ?_
  refine pv_icmp_ne (tgt := 59) C dX11_count_32 (by decide) (fun c15 => ?_) (fun c15 => ?_)
  · have h := pq_if c15 h
    refine pv_aload_n C 0 dX11_count_59 rfl rfl ?_
    have k16 := pq_wt (k := 22) W0 k0_ rfl
    refine pv_getr (T := TX11) (N := 24) C 22 inu_X11_count_11 rfl (by decide) (by decide) (List.mem_of_getElem? (i := 3) rfl) rfl k0_ k16.1 dX11_count_60 ?_
    refine pv_iload_n C 2 dX11_count_63 rfl rfl ?_
    refine pv_dup2 C dX11_count_64 rfl rfl ?_
    obtain ⟨g17, h⟩ := pq_gd h
    refine pv_iaload C k16.2 g17 dX11_count_65 ?_
    refine pv_iconst (v := 1) C dX11_count_66 (by decide) ?_
    refine pv_iadd C dX11_count_67 ?_
    obtain ⟨g18, h⟩ := pq_gd h
    refine pv_iastore C k16.2 g18 dX11_count_68 ?_
    refine pv_nm (fun S19 e20 => ?_)
    have h := pq_ls e20 h
    exact pv_vret C hr hlk h dX11_count_69
  · have h := pq_it c15 h
    refine pv_aload_n C 0 dX11_count_35 rfl rfl ?_
    have k21 := pq_wt (k := 21) W0 k0_ rfl
    refine pv_getr (T := TX11) (N := 24) C 21 inu_X11_count_11 rfl (by decide) (by decide) (List.mem_of_getElem? (i := 2) rfl) rfl k0_ k21.1 dX11_count_36 ?_
    refine pv_iload_n C 2 dX11_count_39 rfl rfl ?_
    refine pv_lload_n C 1 dX11_count_40 rfl rfl ?_
    obtain ⟨g22, h⟩ := pq_gd h
    refine pv_lastore C k21.2 g22 dX11_count_41 ?_
    refine pv_nm (fun S23 e24 => ?_)
    have h := pq_ls e24 h
    refine pv_aload_n C 0 dX11_count_42 rfl rfl ?_
    have k25 := pq_wt (k := 22) W0 k0_ rfl
    refine pv_getr (T := TX11) (N := 24) C 22 inu_X11_count_11 rfl (by decide) (by decide) (List.mem_of_getElem? (i := 3) rfl) rfl k0_ k25.1 dX11_count_43 ?_
    refine pv_iload_n C 2 dX11_count_46 rfl rfl ?_
    refine pv_iconst (v := 0) C dX11_count_47 (by decide) ?_
    obtain ⟨g26, h⟩ := pq_gd h
    refine pv_iastore C k25.2 g26 dX11_count_48 ?_
    refine pv_nm (fun S27 e28 => ?_)
    have h := pq_ls e28 h
    refine pv_aload_n C 0 dX11_count_49 rfl rfl ?_
    refine pv_dup C dX11_count_50 rfl ?_
    refine pv_geti (T := TX11) (N := 24) C 23 inu_X11_count_11 rfl (by decide) (by decide) (List.mem_of_getElem? (i := 1) rfl) rfl k0_ dX11_count_51 ?_
    refine pv_iconst (v := 1) C dX11_count_54 (by decide) ?_
    refine pv_iadd C dX11_count_55 ?_
    refine pv_put (T := TX11) (N := 24) (ty := .int) C 23 inu_X11_count_11 rfl (by decide) tyX11 tyX11_ok nmX11 (by decide) (List.mem_of_getElem? (i := 1) rfl) rfl k0_ rfl (by decide +kernel) rfl rfl dX11_count_56 ?_
    refine pv_nm (fun S29 e30 => ?_)
    have h := pq_ls e30 h
    refine pv_aload_n C 0 dX11_count_59 rfl rfl ?_
    have k31 := pq_wt (k := 22) W0 k0_ rfl
    refine pv_getr (T := TX11) (N := 24) C 22 inu_X11_count_11 rfl (by decide) (by decide) (List.mem_of_getElem? (i := 3) rfl) rfl k0_ k31.1 dX11_count_60 ?_
    refine pv_iload_n C 2 dX11_count_63 rfl rfl ?_
    refine pv_dup2 C dX11_count_64 rfl rfl ?_
    obtain ⟨g32, h⟩ := pq_gd h
    refine pv_iaload C k31.2 g32 dX11_count_65 ?_
    refine pv_iconst (v := 1) C dX11_count_66 (by decide) ?_
    refine pv_iadd C dX11_count_67 ?_
    obtain ⟨g33, h⟩ := pq_gd h
    refine pv_iastore C k31.2 g33 dX11_count_68 ?_
    refine pv_nm (fun S34 e35 => ?_)
    have h := pq_ls e35 h
    exact pv_vret C hr hlk h dX11_count_69
set_option maxHeartbeats 4000000 in
set_option maxRecDepth 100000 in
theorem r_X11_count_b2 {p : Program} {l : Launch} {e : Env} {s : State} {m : MethodId} {av : Array Value} {below : List Frame} {meth : Method} {c : Code} {D : va_G} {y : pq_Y} {G : pq_G} {S1 : pq_N} (W0 : pq_WT G) (C : pq_C p s m av c D y RX11 wsX11_count cX11_count 4) (hr : meth.sig.returnType = none) (hlk : meth.locks = false) (n : Nat) : ∀ (S : pq_N) (a0 : Nat) (x1 : Int64) (x3 : Int32), pq_ok G 11 a0 → F_X11_count_b2 G n S a0 x1 x3 = some ((), S1) → pq_V p l e (headSpec wsX11_count ({ frames := 0, cells := 0, slots := 0, locals := 0 } : Room)).room s m av below meth c 0 0 (MQ below (pq_Qv D y G s.heap.size S1) av s 0 0 (pq_A G s.heap.size)) D y 4 (pq_A G s.heap.size) (fun _ => True) G S 2 [(0, .ref a0), (1, .long x1), (3, .int x3)] [] := by
  induction n with
  | zero =>
    intro S a0 x1 x3 k0_ h
    rw [F_X11_count_b2.eq_1] at h; cases h
  | succ n ih =>
    intro S a0 x1 x3 k0_ h
    rw [F_X11_count_b2.eq_2] at h
    refine pv_iload_n C 2 dX11_count_2 rfl rfl ?_
    refine pv_aload_n C 0 dX11_count_3 rfl rfl ?_
    refine pv_geti (T := TX11) (N := 24) C 23 inu_X11_count_11 rfl (by decide) (by decide) (List.mem_of_getElem? (i := 1) rfl) rfl k0_ dX11_count_4 ?_
    refine pv_icmp_ge (tgt := 27) C dX11_count_7 (by decide) (fun c11 => ?_) (fun c11 => ?_)
    · have h := pq_it c11 h
      refine pv_sub [0, 1, 2] rfl ?_
      exact r_X11_count_b27 W0 C hr hlk _ _ _ _ k0_ h
    · have h := pq_if c11 h
      refine pv_aload_n C 0 dX11_count_10 rfl rfl ?_
      have k12 := pq_wt (k := 21) W0 k0_ rfl
      refine pv_getr (T := TX11) (N := 24) C 21 inu_X11_count_11 rfl (by decide) (by decide) (List.mem_of_getElem? (i := 2) rfl) rfl k0_ k12.1 dX11_count_11 ?_
      refine pv_iload_n C 2 dX11_count_14 rfl rfl ?_
      obtain ⟨g13, h⟩ := pq_gd h
      refine pv_laload C k12.2 g13 dX11_count_15 ?_
      refine pv_lload_n C 1 dX11_count_16 rfl rfl ?_
      refine pv_lcmp C dX11_count_17 ?_
      refine pv_if_eq (tgt := 27) C dX11_count_18 (by decide) (fun c14 => ?_) (fun c14 => ?_)
      · have h := pq_it c14 h
        refine pv_sub [0, 1, 2] rfl ?_
        exact r_X11_count_b27 W0 C hr hlk _ _ _ _ k0_ h
      · have h := pq_if c14 h
        refine pv_iinc (v := (x3 + (1 : Int32))) C 2 [(3, .int (x3 + (1 : Int32))), (0, .ref a0), (1, .long x1)] dX11_count_21 rfl rfl (by decide) rfl ?_
        refine pv_goto (tgt := 2) C dX11_count_24 (by decide) ?_
        refine pv_sub [1, 2, 0] rfl ?_
        exact ih _ _ _ _ k0_ h
set_option maxHeartbeats 4000000 in
set_option maxRecDepth 100000 in
theorem r_X11_count {l : Launch} {D : va_G} {y : pq_Y} {G : pq_G} (W0 : pq_WT G) {S : pq_N} {a0 : Nat} {x1 : Int64} (k0_ : pq_ok G 11 a0) {S1 : pq_N} (h : F_X11_count G S a0 x1 = some ((), S1)) (sz : Nat) : Met l yX11_count wsX11_count ({ frames := 0, cells := 0, slots := 0, locals := 0 } : Room) (pq_P D y G S sz [.ref a0, .long x1]) (pq_Qv D y G sz S1) 0 0 (pq_A G sz) := by
  refine pq_enter RX11 4 (by decide) rfl rfl rfl ?_
  intro p e s m below meth c C hsz hr hlk
  subst hsz
  unfold F_X11_count at h
  refine pv_sub (lo1 := [(0, .ref a0), (1, .long x1)]) [0, 1] rfl ?_
  refine pv_iconst (v := 0) C dX11_count_0 (by decide) ?_
  refine pv_istore_n C [(3, .int (0 : Int32)), (0, .ref a0), (1, .long x1)] dX11_count_1 rfl (by decide) rfl ?_
  refine pv_sub [1, 2, 0] rfl ?_
  exact r_X11_count_b2 W0 C hr hlk pq_fuel _ _ _ _ k0_ h
def F_X11_day (G : pq_G) (S : pq_N) (a0 : Nat) : Option (Int32 × pq_N) := (if (0 : Int32) < 0 ∨ pq_n G (pq_r G a0 0) ≤ (Int32.toNatClampNeg (0 : Int32)) then none else (pq_bd (F_X11_plain G S a0 (S.1 (pq_r G a0 0) (Int32.toNatClampNeg (0 : Int32)))) fun v13 S14 => some (v13, S14)))
theorem inu_X11_day_11 : ∀ w ∈ u_ws RX11 TX11 24, w ∈ wsX11_day := pq_inu 8 rfl
set_option maxHeartbeats 4000000 in
set_option maxRecDepth 100000 in
theorem r_X11_day {l : Launch} {D : va_G} {y : pq_Y} {G : pq_G} (W0 : pq_WT G) {S : pq_N} {a0 : Nat} (k0_ : pq_ok G 11 a0) {r : Int32} {S1 : pq_N} (h : F_X11_day G S a0 = some (r, S1)) (sz : Nat) : Met l yX11_day wsX11_day ({ frames := 1, cells := 0, slots := 0, locals := 21 } : Room) (pq_P D y G S sz [.ref a0]) (pq_Qi D y G sz r S1) 0 0 (pq_A G sz) := by
  refine pq_enter RX11 1 (by decide) rfl rfl rfl ?_
  intro p e s m below meth c C hsz hr hlk
  subst hsz
  unfold F_X11_day at h
  refine pv_sub (lo1 := [(0, .ref a0)]) [0] rfl ?_
  refine pv_aload_n C 0 dX11_day_0 rfl rfl ?_
  refine pv_aload_n C 0 dX11_day_1 rfl rfl ?_
  have k11 := pq_wt (k := 0) W0 k0_ rfl
  refine pv_getr (T := TX11) (N := 24) C 0 inu_X11_day_11 rfl (by decide) (by decide) (List.mem_of_getElem? (i := 1) rfl) rfl k0_ k11.1 dX11_day_2 ?_
  refine pv_iconst (v := 0) C dX11_day_5 (by decide) ?_
  obtain ⟨g12, h⟩ := pq_gd h
  refine pv_iaload C k11.2 g12 dX11_day_6 ?_
  obtain ⟨v13, S14, e15, h⟩ := pq_bs h
  refine pv_calliV C (ci := 11) rfl (by decide) k0_ [.int (S.1 (pq_r G a0 0) (Int32.toNatClampNeg (0 : Int32)))] (fun sz => r_X11_plain W0 k0_ e15 sz) (cwV 1 C.1.2.2.2.2 gX11_day_X11_plain rfl rfl rfl (by decide +kernel) ⟨Nat.le_of_ble_eq_true rfl, Nat.le_of_ble_eq_true rfl⟩) rfl rfl (Nat.le_of_ble_eq_true rfl) dX11_day_7 ⟨Nat.le_of_ble_eq_true rfl, Nat.le_of_ble_eq_true rfl⟩ ?_
  exact pv_iret C hr hlk h dX11_day_10
def F_X11_dayOf (G : pq_G) (S : pq_N) (a0 : Nat) (x1 : Int32) : Option (Int32 × pq_N) := (pq_bd (F_X11_told G S a0 x1 (3 : Int32)) fun v11 S12 => some (v11, S12))
set_option maxHeartbeats 4000000 in
set_option maxRecDepth 100000 in
theorem r_X11_dayOf {l : Launch} {D : va_G} {y : pq_Y} {G : pq_G} (W0 : pq_WT G) {S : pq_N} {a0 : Nat} {x1 : Int32} (k0_ : pq_ok G 11 a0) {r : Int32} {S1 : pq_N} (h : F_X11_dayOf G S a0 x1 = some (r, S1)) (sz : Nat) : Met l yX11_dayOf wsX11_dayOf ({ frames := 3, cells := 0, slots := 0, locals := 65 } : Room) (pq_P D y G S sz [.ref a0, .int x1]) (pq_Qi D y G sz r S1) 0 0 (pq_A G sz) := by
  refine pq_enter RX11 2 (by decide) rfl rfl rfl ?_
  intro p e s m below meth c C hsz hr hlk
  subst hsz
  unfold F_X11_dayOf at h
  refine pv_sub (lo1 := [(0, .ref a0), (1, .int x1)]) [0, 1] rfl ?_
  refine pv_aload_n C 0 dX11_dayOf_0 rfl rfl ?_
  refine pv_iload_n C 1 dX11_dayOf_1 rfl rfl ?_
  refine pv_iconst (v := 3) C dX11_dayOf_2 (by decide) ?_
  obtain ⟨v11, S12, e13, h⟩ := pq_bs h
  refine pv_calliV C (ci := 11) rfl (by decide) k0_ [.int x1, .int (3 : Int32)] (fun sz => r_X11_told W0 k0_ e13 sz) (cwV 2 C.1.2.2.2.2 gX11_dayOf_X11_told rfl rfl rfl (by decide +kernel) ⟨Nat.le_of_ble_eq_true rfl, Nat.le_of_ble_eq_true rfl⟩) rfl rfl (Nat.le_of_ble_eq_true rfl) dX11_dayOf_3 ⟨Nat.le_of_ble_eq_true rfl, Nat.le_of_ble_eq_true rfl⟩ ?_
  exact pv_iret C hr hlk h dX11_dayOf_6
def F_X11_doMend_b77 (G : pq_G) (c48 : pq_N → Nat → Int32 → Int32 → Int32 → Int32 → Int32 → Int32 → Int32 → Int32 → Option (Int32 × pq_N)) (S : pq_N) (a0 : Nat) (x1 : Int32) (x2 : Int32) (x3 : Int32) (x4 : Int32) (x5 : Int32) (x6 : Int32) (x7 : Int32) (x8 : Int32) (t0 : Int32) : Option (Int32 × pq_N) := (if (x6 + t0) < 0 ∨ pq_n G (pq_r G a0 1) ≤ (Int32.toNatClampNeg (x6 + t0)) then none else (if ((x6 + t0) + x3) < 0 ∨ pq_n G (pq_r G a0 1) ≤ (Int32.toNatClampNeg ((x6 + t0) + x3)) then none else (pq_lt (pq_wj S (pq_r G a0 1) (Int32.toNatClampNeg ((x6 + t0) + x3)) (S.2 (pq_r G a0 1) (Int32.toNatClampNeg (x6 + t0)))) fun S48 => c48 S48 a0 x1 x2 x3 x4 x5 x6 x7 (x8 + (1 : Int32)))))
def F_X11_doMend_b197 (G : pq_G)  : Nat → pq_N → Nat → Int32 → Int32 → Int32 → Option (Int32 × pq_N)
  | 0, _, _, _, _, _ => none
  | n + 1, S, a0, x1, x3, x8 => (pq_bd (F_X11_get G S a0 x1 (5 : Int32)) fun v50 S51 => (if v50 ≤ x8 then some ((S51.1 a0 14), S51) else (if (((((52 : Int32) * x1) + (6 : Int32)) + ((3 : Int32) * x8)) + (1 : Int32)) < 0 ∨ pq_n G (pq_r G a0 0) ≤ (Int32.toNatClampNeg (((((52 : Int32) * x1) + (6 : Int32)) + ((3 : Int32) * x8)) + (1 : Int32))) then none else (if (((((52 : Int32) * x1) + (6 : Int32)) + ((3 : Int32) * x8)) + (1 : Int32)) < 0 ∨ pq_n G (pq_r G a0 0) ≤ (Int32.toNatClampNeg (((((52 : Int32) * x1) + (6 : Int32)) + ((3 : Int32) * x8)) + (1 : Int32))) then none else (pq_lt (pq_wi S51 (pq_r G a0 0) (Int32.toNatClampNeg (((((52 : Int32) * x1) + (6 : Int32)) + ((3 : Int32) * x8)) + (1 : Int32))) ((S51.1 (pq_r G a0 0) (Int32.toNatClampNeg (((((52 : Int32) * x1) + (6 : Int32)) + ((3 : Int32) * x8)) + (1 : Int32)))) + x3)) fun S57 => (F_X11_doMend_b197 G n) S57 a0 x1 x3 (x8 + (1 : Int32)))))))
def F_X11_doMend_b110 (G : pq_G)  : Nat → pq_N → Nat → Int32 → Int32 → Int32 → Int32 → Int32 → Int32 → Int32 → Option (Int32 × pq_N)
  | 0, _, _, _, _, _, _, _, _, _ => none
  | n + 1, S, a0, x1, x2, x3, x4, x6, x7, x8 => (if (S.1 a0 16) ≤ x8 then (if (((52 : Int32) * x1) + (4 : Int32)) < 0 ∨ pq_n G (pq_r G a0 0) ≤ (Int32.toNatClampNeg (((52 : Int32) * x1) + (4 : Int32))) then none else (pq_lt (pq_wi S (pq_r G a0 0) (Int32.toNatClampNeg (((52 : Int32) * x1) + (4 : Int32))) (x7 + x3)) fun S28 => (if (((((52 : Int32) * x1) + (6 : Int32)) + ((3 : Int32) * x2)) + (2 : Int32)) < 0 ∨ pq_n G (pq_r G a0 0) ≤ (Int32.toNatClampNeg (((((52 : Int32) * x1) + (6 : Int32)) + ((3 : Int32) * x2)) + (2 : Int32))) then none else (pq_lt (pq_wi S28 (pq_r G a0 0) (Int32.toNatClampNeg (((((52 : Int32) * x1) + (6 : Int32)) + ((3 : Int32) * x2)) + (2 : Int32))) (S28.1 a0 16)) fun S32 => F_X11_doMend_b197 G pq_fuel S32 a0 x1 x3 (x2 + (1 : Int32)))))) else (pq_bd (F_X11_source G S a0 x1 x2) fun v35 S36 => (pq_bd (F_X11_word G S36 a0 v35 ((S36.1 a0 15) + x8)) fun v38 S39 => (if ((x6 + x4) + x8) < 0 ∨ pq_n G (pq_r G a0 1) ≤ (Int32.toNatClampNeg ((x6 + x4) + x8)) then none else (pq_lt (pq_wj S39 (pq_r G a0 1) (Int32.toNatClampNeg ((x6 + x4) + x8)) v38) fun S42 => (F_X11_doMend_b110 G n) S42 a0 x1 x2 x3 x4 x6 x7 (x8 + (1 : Int32)))))))
def F_X11_doMend_b48 (G : pq_G)  : Nat → pq_N → Nat → Int32 → Int32 → Int32 → Int32 → Int32 → Int32 → Int32 → Int32 → Option (Int32 × pq_N)
  | 0, _, _, _, _, _, _, _, _, _, _ => none
  | n + 1, S, a0, x1, x2, x3, x4, x5, x6, x7, x8 => (if (x7 - x5) ≤ x8 then F_X11_doMend_b110 G pq_fuel S a0 x1 x2 x3 x4 x6 x7 (0 : Int32) else (if x3 ≤ (0 : Int32) then F_X11_doMend_b77 G ((F_X11_doMend_b48 G n)) S a0 x1 x2 x3 x4 x5 x6 x7 x8 (x5 + x8) else F_X11_doMend_b77 G ((F_X11_doMend_b48 G n)) S a0 x1 x2 x3 x4 x5 x6 x7 x8 ((x7 - (1 : Int32)) - x8)))
def F_X11_doMend (G : pq_G) (S : pq_N) (a0 : Nat) (x1 : Int32) (x2 : Int32) : Option (Int32 × pq_N) := (pq_bd (F_X11_size G S a0 x1 x2) fun v11 S12 => (pq_bd (F_X11_begin G S12 a0 x1 x2) fun v14 S15 => (pq_bd (F_X11_size G S15 a0 x1 x2) fun v17 S18 => (pq_bd (F_X11_get G S18 a0 x1 (4 : Int32)) fun v20 S21 => F_X11_doMend_b48 G pq_fuel S21 a0 x1 x2 ((S.1 a0 16) - v11) v14 (v14 + v17) ((60 : Int32) * x1) v20 (0 : Int32)))))
theorem inu_X11_doMend_11 : ∀ w ∈ u_ws RX11 TX11 24, w ∈ wsX11_doMend := pq_inu 27 rfl
set_option maxHeartbeats 4000000 in
set_option maxRecDepth 100000 in
theorem r_X11_doMend_b77 {p : Program} {l : Launch} {e : Env} {s : State} {m : MethodId} {av : Array Value} {below : List Frame} {meth : Method} {c : Code} {D : va_G} {y : pq_Y} {G : pq_G} {r : Int32} {S1 : pq_N} (W0 : pq_WT G) (C : pq_C p s m av c D y RX11 wsX11_doMend cX11_doMend 10) (hr : meth.sig.returnType = (some .int)) (hlk : meth.locks = false) {c48 : pq_N → Nat → Int32 → Int32 → Int32 → Int32 → Int32 → Int32 → Int32 → Int32 → Option (Int32 × pq_N)} (hk48 : ∀ (S : pq_N) (a0 : Nat) (x1 : Int32) (x2 : Int32) (x3 : Int32) (x4 : Int32) (x5 : Int32) (x6 : Int32) (x7 : Int32) (x8 : Int32), pq_ok G 11 a0 → c48 S a0 x1 x2 x3 x4 x5 x6 x7 x8 = some (r, S1) → pq_V p l e (headSpec wsX11_doMend ({ frames := 2, cells := 0, slots := 0, locals := 44 } : Room)).room s m av below meth c 0 0 (MQ below (pq_Qi D y G s.heap.size r S1) av s 0 0 (pq_A G s.heap.size)) D y 10 (pq_A G s.heap.size) (fun _ => True) G S 48 [(0, .ref a0), (1, .int x1), (2, .int x2), (3, .int x3), (4, .int x4), (5, .int x5), (6, .int x6), (7, .int x7), (8, .int x8)] []) : ∀ (S : pq_N) (a0 : Nat) (x1 : Int32) (x2 : Int32) (x3 : Int32) (x4 : Int32) (x5 : Int32) (x6 : Int32) (x7 : Int32) (x8 : Int32) (t0 : Int32), pq_ok G 11 a0 → F_X11_doMend_b77 G c48 S a0 x1 x2 x3 x4 x5 x6 x7 x8 t0 = some (r, S1) → pq_V p l e (headSpec wsX11_doMend ({ frames := 2, cells := 0, slots := 0, locals := 44 } : Room)).room s m av below meth c 0 0 (MQ below (pq_Qi D y G s.heap.size r S1) av s 0 0 (pq_A G s.heap.size)) D y 10 (pq_A G s.heap.size) (fun _ => True) G S 77 [(0, .ref a0), (1, .int x1), (2, .int x2), (3, .int x3), (4, .int x4), (5, .int x5), (6, .int x6), (7, .int x7), (8, .int x8)] [.int t0] := by
  intro S a0 x1 x2 x3 x4 x5 x6 x7 x8 t0 k0_ h
  unfold F_X11_doMend_b77 at h
  refine pv_istore C [(9, .int t0), (0, .ref a0), (1, .int x1), (2, .int x2), (3, .int x3), (4, .int x4), (5, .int x5), (6, .int x6), (7, .int x7), (8, .int x8)] dX11_doMend_77 (by decide) rfl ?_
  refine pv_aload_n C 1 dX11_doMend_79 rfl rfl ?_
  have k44 := pq_wt (k := 1) W0 k0_ rfl
  refine pv_getr (T := TX11) (N := 24) C 1 inu_X11_doMend_11 rfl (by decide) (by decide) (List.mem_of_getElem? (i := 2) rfl) rfl k0_ k44.1 dX11_doMend_80 ?_
  refine pv_iload C 7 dX11_doMend_83 rfl ?_
  refine pv_iload C 0 dX11_doMend_85 rfl ?_
  refine pv_iadd C dX11_doMend_87 ?_
  refine pv_iload_n C 4 dX11_doMend_88 rfl rfl ?_
  refine pv_iadd C dX11_doMend_89 ?_
  refine pv_aload_n C 1 dX11_doMend_90 rfl rfl ?_
  have k45 := pq_wt (k := 1) W0 k0_ rfl
  refine pv_getr (T := TX11) (N := 24) C 1 inu_X11_doMend_11 rfl (by decide) (by decide) (List.mem_of_getElem? (i := 2) rfl) rfl k0_ k45.1 dX11_doMend_91 ?_
  refine pv_iload C 7 dX11_doMend_94 rfl ?_
  refine pv_iload C 0 dX11_doMend_96 rfl ?_
  refine pv_iadd C dX11_doMend_98 ?_
  obtain ⟨g46, h⟩ := pq_gd h
  refine pv_laload C k45.2 g46 dX11_doMend_99 ?_
  obtain ⟨g47, h⟩ := pq_gd h
  refine pv_lastore C k44.2 g47 dX11_doMend_100 ?_
  refine pv_nm (fun S48 e49 => ?_)
  have h := pq_ls e49 h
  refine pv_iinc (v := (x8 + (1 : Int32))) C 9 [(8, .int (x8 + (1 : Int32))), (9, .int t0), (0, .ref a0), (1, .int x1), (2, .int x2), (3, .int x3), (4, .int x4), (5, .int x5), (6, .int x6), (7, .int x7)] dX11_doMend_101 rfl rfl (by decide) rfl ?_
  refine pv_goto (tgt := 48) C dX11_doMend_104 (by decide) ?_
  refine pv_sub [2, 3, 4, 5, 6, 7, 8, 9, 0] rfl ?_
  exact hk48 _ _ _ _ _ _ _ _ _ _ k0_ h
set_option maxHeartbeats 4000000 in
set_option maxRecDepth 100000 in
theorem r_X11_doMend_b197 {p : Program} {l : Launch} {e : Env} {s : State} {m : MethodId} {av : Array Value} {below : List Frame} {meth : Method} {c : Code} {D : va_G} {y : pq_Y} {G : pq_G} {r : Int32} {S1 : pq_N} (W0 : pq_WT G) (C : pq_C p s m av c D y RX11 wsX11_doMend cX11_doMend 10) (hr : meth.sig.returnType = (some .int)) (hlk : meth.locks = false) (n : Nat) : ∀ (S : pq_N) (a0 : Nat) (x1 : Int32) (x3 : Int32) (x8 : Int32), pq_ok G 11 a0 → F_X11_doMend_b197 G n S a0 x1 x3 x8 = some (r, S1) → pq_V p l e (headSpec wsX11_doMend ({ frames := 2, cells := 0, slots := 0, locals := 44 } : Room)).room s m av below meth c 0 0 (MQ below (pq_Qi D y G s.heap.size r S1) av s 0 0 (pq_A G s.heap.size)) D y 10 (pq_A G s.heap.size) (fun _ => True) G S 197 [(0, .ref a0), (1, .int x1), (3, .int x3), (8, .int x8)] [] := by
  induction n with
  | zero =>
    intro S a0 x1 x3 x8 k0_ h
    rw [F_X11_doMend_b197.eq_1] at h; cases h
  | succ n ih =>
    intro S a0 x1 x3 x8 k0_ h
    rw [F_X11_doMend_b197.eq_2] at h
    refine pv_iload C 3 dX11_doMend_197 rfl ?_
    refine pv_aload_n C 0 dX11_doMend_199 rfl rfl ?_
    refine pv_iload_n C 1 dX11_doMend_200 rfl rfl ?_
    refine pv_iconst (v := 5) C dX11_doMend_201 (by decide) ?_
    obtain ⟨v50, S51, e52, h⟩ := pq_bs h
    refine pv_calliV C (ci := 11) rfl (by decide) k0_ [.int x1, .int (5 : Int32)] (fun sz => r_X11_get W0 k0_ e52 sz) (cwV 2 C.1.2.2.2.2 gX11_doMend_X11_get rfl rfl rfl (by decide +kernel) ⟨Nat.le_of_ble_eq_true rfl, Nat.le_of_ble_eq_true rfl⟩) rfl rfl (Nat.le_of_ble_eq_true rfl) dX11_doMend_202 ⟨Nat.le_of_ble_eq_true rfl, Nat.le_of_ble_eq_true rfl⟩ ?_
    refine pv_icmp_ge (tgt := 237) C dX11_doMend_205 (by decide) (fun c53 => ?_) (fun c53 => ?_)
    · have h := pq_it c53 h
      refine pv_aload_n C 0 dX11_doMend_237 rfl rfl ?_
      refine pv_geti (T := TX11) (N := 24) C 14 inu_X11_doMend_11 rfl (by decide) (by decide) (List.mem_of_getElem? (i := 5) rfl) rfl k0_ dX11_doMend_238 ?_
      exact pv_iret C hr hlk h dX11_doMend_241
    · have h := pq_if c53 h
      refine pv_aload_n C 0 dX11_doMend_208 rfl rfl ?_
      have k54 := pq_wt (k := 0) W0 k0_ rfl
      refine pv_getr (T := TX11) (N := 24) C 0 inu_X11_doMend_11 rfl (by decide) (by decide) (List.mem_of_getElem? (i := 4) rfl) rfl k0_ k54.1 dX11_doMend_209 ?_
      refine pv_bipush (v := 52) C dX11_doMend_212 (by decide) ?_
      refine pv_iload_n C 1 dX11_doMend_214 rfl rfl ?_
      refine pv_imul C dX11_doMend_215 ?_
      refine pv_bipush (v := 6) C dX11_doMend_216 (by decide) ?_
      refine pv_iadd C dX11_doMend_218 ?_
      refine pv_iconst (v := 3) C dX11_doMend_219 (by decide) ?_
      refine pv_iload C 3 dX11_doMend_220 rfl ?_
      refine pv_imul C dX11_doMend_222 ?_
      refine pv_iadd C dX11_doMend_223 ?_
      refine pv_iconst (v := 1) C dX11_doMend_224 (by decide) ?_
      refine pv_iadd C dX11_doMend_225 ?_
      refine pv_dup2 C dX11_doMend_226 rfl rfl ?_
      obtain ⟨g55, h⟩ := pq_gd h
      refine pv_iaload C k54.2 g55 dX11_doMend_227 ?_
      refine pv_iload_n C 2 dX11_doMend_228 rfl rfl ?_
      refine pv_iadd C dX11_doMend_229 ?_
      obtain ⟨g56, h⟩ := pq_gd h
      refine pv_iastore C k54.2 g56 dX11_doMend_230 ?_
      refine pv_nm (fun S57 e58 => ?_)
      have h := pq_ls e58 h
      refine pv_iinc (v := (x8 + (1 : Int32))) C 3 [(8, .int (x8 + (1 : Int32))), (0, .ref a0), (1, .int x1), (3, .int x3)] dX11_doMend_231 rfl rfl (by decide) rfl ?_
      refine pv_goto (tgt := 197) C dX11_doMend_234 (by decide) ?_
      refine pv_sub [1, 2, 3, 0] rfl ?_
      exact ih _ _ _ _ _ k0_ h
set_option maxHeartbeats 4000000 in
set_option maxRecDepth 100000 in
theorem r_X11_doMend_b110 {p : Program} {l : Launch} {e : Env} {s : State} {m : MethodId} {av : Array Value} {below : List Frame} {meth : Method} {c : Code} {D : va_G} {y : pq_Y} {G : pq_G} {r : Int32} {S1 : pq_N} (W0 : pq_WT G) (C : pq_C p s m av c D y RX11 wsX11_doMend cX11_doMend 10) (hr : meth.sig.returnType = (some .int)) (hlk : meth.locks = false) (n : Nat) : ∀ (S : pq_N) (a0 : Nat) (x1 : Int32) (x2 : Int32) (x3 : Int32) (x4 : Int32) (x6 : Int32) (x7 : Int32) (x8 : Int32), pq_ok G 11 a0 → F_X11_doMend_b110 G n S a0 x1 x2 x3 x4 x6 x7 x8 = some (r, S1) → pq_V p l e (headSpec wsX11_doMend ({ frames := 2, cells := 0, slots := 0, locals := 44 } : Room)).room s m av below meth c 0 0 (MQ below (pq_Qi D y G s.heap.size r S1) av s 0 0 (pq_A G s.heap.size)) D y 10 (pq_A G s.heap.size) (fun _ => True) G S 110 [(0, .ref a0), (1, .int x1), (2, .int x2), (3, .int x3), (4, .int x4), (6, .int x6), (7, .int x7), (8, .int x8)] [] := by
  induction n with
  | zero =>
    intro S a0 x1 x2 x3 x4 x6 x7 x8 k0_ h
    rw [F_X11_doMend_b110.eq_1] at h; cases h
  | succ n ih =>
    intro S a0 x1 x2 x3 x4 x6 x7 x8 k0_ h
    rw [F_X11_doMend_b110.eq_2] at h
    refine pv_iload C 7 dX11_doMend_110 rfl ?_
    refine pv_aload_n C 0 dX11_doMend_112 rfl rfl ?_
    refine pv_geti (T := TX11) (N := 24) C 16 inu_X11_doMend_11 rfl (by decide) (by decide) (List.mem_of_getElem? (i := 1) rfl) rfl k0_ dX11_doMend_113 ?_
    refine pv_icmp_ge (tgt := 155) C dX11_doMend_116 (by decide) (fun c25 => ?_) (fun c25 => ?_)
    · have h := pq_it c25 h
      refine pv_aload_n C 0 dX11_doMend_155 rfl rfl ?_
      have k26 := pq_wt (k := 0) W0 k0_ rfl
      refine pv_getr (T := TX11) (N := 24) C 0 inu_X11_doMend_11 rfl (by decide) (by decide) (List.mem_of_getElem? (i := 4) rfl) rfl k0_ k26.1 dX11_doMend_156 ?_
      refine pv_bipush (v := 52) C dX11_doMend_159 (by decide) ?_
      refine pv_iload_n C 1 dX11_doMend_161 rfl rfl ?_
      refine pv_imul C dX11_doMend_162 ?_
      refine pv_iconst (v := 4) C dX11_doMend_163 (by decide) ?_
      refine pv_iadd C dX11_doMend_164 ?_
      refine pv_iload C 6 dX11_doMend_165 rfl ?_
      refine pv_iload_n C 3 dX11_doMend_167 rfl rfl ?_
      refine pv_iadd C dX11_doMend_168 ?_
      obtain ⟨g27, h⟩ := pq_gd h
      refine pv_iastore C k26.2 g27 dX11_doMend_169 ?_
      refine pv_nm (fun S28 e29 => ?_)
      have h := pq_ls e29 h
      refine pv_aload_n C 0 dX11_doMend_170 rfl rfl ?_
      have k30 := pq_wt (k := 0) W0 k0_ rfl
      refine pv_getr (T := TX11) (N := 24) C 0 inu_X11_doMend_11 rfl (by decide) (by decide) (List.mem_of_getElem? (i := 4) rfl) rfl k0_ k30.1 dX11_doMend_171 ?_
      refine pv_bipush (v := 52) C dX11_doMend_174 (by decide) ?_
      refine pv_iload_n C 1 dX11_doMend_176 rfl rfl ?_
      refine pv_imul C dX11_doMend_177 ?_
      refine pv_bipush (v := 6) C dX11_doMend_178 (by decide) ?_
      refine pv_iadd C dX11_doMend_180 ?_
      refine pv_iconst (v := 3) C dX11_doMend_181 (by decide) ?_
      refine pv_iload_n C 2 dX11_doMend_182 rfl rfl ?_
      refine pv_imul C dX11_doMend_183 ?_
      refine pv_iadd C dX11_doMend_184 ?_
      refine pv_iconst (v := 2) C dX11_doMend_185 (by decide) ?_
      refine pv_iadd C dX11_doMend_186 ?_
      refine pv_aload_n C 0 dX11_doMend_187 rfl rfl ?_
      refine pv_geti (T := TX11) (N := 24) C 16 inu_X11_doMend_11 rfl (by decide) (by decide) (List.mem_of_getElem? (i := 1) rfl) rfl k0_ dX11_doMend_188 ?_
      obtain ⟨g31, h⟩ := pq_gd h
      refine pv_iastore C k30.2 g31 dX11_doMend_191 ?_
      refine pv_nm (fun S32 e33 => ?_)
      have h := pq_ls e33 h
      refine pv_iload_n C 2 dX11_doMend_192 rfl rfl ?_
      refine pv_iconst (v := 1) C dX11_doMend_193 (by decide) ?_
      refine pv_iadd C dX11_doMend_194 ?_
      refine pv_istore C [(8, .int (x2 + (1 : Int32))), (0, .ref a0), (1, .int x1), (2, .int x2), (3, .int x3), (4, .int x4), (6, .int x6), (7, .int x7)] dX11_doMend_195 (by decide) rfl ?_
      refine pv_sub [1, 2, 4, 0] rfl ?_
      exact r_X11_doMend_b197 W0 C hr hlk pq_fuel _ _ _ _ _ k0_ h
    · have h := pq_if c25 h
      refine pv_aload_n C 0 dX11_doMend_119 rfl rfl ?_
      have k34 := pq_wt (k := 1) W0 k0_ rfl
      refine pv_getr (T := TX11) (N := 24) C 1 inu_X11_doMend_11 rfl (by decide) (by decide) (List.mem_of_getElem? (i := 2) rfl) rfl k0_ k34.1 dX11_doMend_120 ?_
      refine pv_iload C 5 dX11_doMend_123 rfl ?_
      refine pv_iload C 4 dX11_doMend_125 rfl ?_
      refine pv_iadd C dX11_doMend_127 ?_
      refine pv_iload C 7 dX11_doMend_128 rfl ?_
      refine pv_iadd C dX11_doMend_130 ?_
      refine pv_aload_n C 0 dX11_doMend_131 rfl rfl ?_
      refine pv_aload_n C 0 dX11_doMend_132 rfl rfl ?_
      refine pv_iload_n C 1 dX11_doMend_133 rfl rfl ?_
      refine pv_iload_n C 2 dX11_doMend_134 rfl rfl ?_
      obtain ⟨v35, S36, e37, h⟩ := pq_bs h
      refine pv_calliV C (ci := 11) rfl (by decide) k0_ [.int x1, .int x2] (fun sz => r_X11_source W0 k0_ e37 sz) (cwV 2 C.1.2.2.2.2 gX11_doMend_X11_source rfl rfl rfl (by decide +kernel) ⟨Nat.le_of_ble_eq_true rfl, Nat.le_of_ble_eq_true rfl⟩) rfl rfl (Nat.le_of_ble_eq_true rfl) dX11_doMend_135 ⟨Nat.le_of_ble_eq_true rfl, Nat.le_of_ble_eq_true rfl⟩ ?_
      refine pv_aload_n C 0 dX11_doMend_138 rfl rfl ?_
      refine pv_geti (T := TX11) (N := 24) C 15 inu_X11_doMend_11 rfl (by decide) (by decide) (List.mem_of_getElem? (i := 3) rfl) rfl k0_ dX11_doMend_139 ?_
      refine pv_iload C 7 dX11_doMend_142 rfl ?_
      refine pv_iadd C dX11_doMend_144 ?_
      obtain ⟨v38, S39, e40, h⟩ := pq_bs h
      refine pv_calllV C (ci := 11) rfl (by decide) k0_ [.int v35, .int ((S36.1 a0 15) + x8)] (fun sz => r_X11_word W0 k0_ e40 sz) (cwV 2 C.1.2.2.2.2 gX11_doMend_X11_word rfl rfl rfl (by decide +kernel) ⟨Nat.le_of_ble_eq_true rfl, Nat.le_of_ble_eq_true rfl⟩) rfl rfl (Nat.le_of_ble_eq_true rfl) dX11_doMend_145 ⟨Nat.le_of_ble_eq_true rfl, Nat.le_of_ble_eq_true rfl⟩ ?_
      obtain ⟨g41, h⟩ := pq_gd h
      refine pv_lastore C k34.2 g41 dX11_doMend_148 ?_
      refine pv_nm (fun S42 e43 => ?_)
      have h := pq_ls e43 h
      refine pv_iinc (v := (x8 + (1 : Int32))) C 7 [(8, .int (x8 + (1 : Int32))), (0, .ref a0), (1, .int x1), (2, .int x2), (3, .int x3), (4, .int x4), (6, .int x6), (7, .int x7)] dX11_doMend_149 rfl rfl (by decide) rfl ?_
      refine pv_goto (tgt := 110) C dX11_doMend_152 (by decide) ?_
      refine pv_sub [1, 2, 3, 4, 5, 6, 7, 0] rfl ?_
      exact ih _ _ _ _ _ _ _ _ _ k0_ h
set_option maxHeartbeats 4000000 in
set_option maxRecDepth 100000 in
theorem r_X11_doMend_b48 {p : Program} {l : Launch} {e : Env} {s : State} {m : MethodId} {av : Array Value} {below : List Frame} {meth : Method} {c : Code} {D : va_G} {y : pq_Y} {G : pq_G} {r : Int32} {S1 : pq_N} (W0 : pq_WT G) (C : pq_C p s m av c D y RX11 wsX11_doMend cX11_doMend 10) (hr : meth.sig.returnType = (some .int)) (hlk : meth.locks = false) (n : Nat) : ∀ (S : pq_N) (a0 : Nat) (x1 : Int32) (x2 : Int32) (x3 : Int32) (x4 : Int32) (x5 : Int32) (x6 : Int32) (x7 : Int32) (x8 : Int32), pq_ok G 11 a0 → F_X11_doMend_b48 G n S a0 x1 x2 x3 x4 x5 x6 x7 x8 = some (r, S1) → pq_V p l e (headSpec wsX11_doMend ({ frames := 2, cells := 0, slots := 0, locals := 44 } : Room)).room s m av below meth c 0 0 (MQ below (pq_Qi D y G s.heap.size r S1) av s 0 0 (pq_A G s.heap.size)) D y 10 (pq_A G s.heap.size) (fun _ => True) G S 48 [(0, .ref a0), (1, .int x1), (2, .int x2), (3, .int x3), (4, .int x4), (5, .int x5), (6, .int x6), (7, .int x7), (8, .int x8)] [] := by
  induction n with
  | zero =>
    intro S a0 x1 x2 x3 x4 x5 x6 x7 x8 k0_ h
    rw [F_X11_doMend_b48.eq_1] at h; cases h
  | succ n ih =>
    intro S a0 x1 x2 x3 x4 x5 x6 x7 x8 k0_ h
    rw [F_X11_doMend_b48.eq_2] at h
    refine pv_iload C 8 dX11_doMend_48 rfl ?_
    refine pv_iload C 7 dX11_doMend_50 rfl ?_
    refine pv_iload C 5 dX11_doMend_52 rfl ?_
    refine pv_isub C dX11_doMend_54 ?_
    refine pv_icmp_ge (tgt := 107) C dX11_doMend_55 (by decide) (fun c23 => ?_) (fun c23 => ?_)
    · have h := pq_it c23 h
      refine pv_iconst (v := 0) C dX11_doMend_107 (by decide) ?_
      refine pv_istore C [(8, .int (0 : Int32)), (0, .ref a0), (1, .int x1), (2, .int x2), (3, .int x3), (4, .int x4), (5, .int x5), (6, .int x6), (7, .int x7)] dX11_doMend_108 (by decide) rfl ?_
      refine pv_sub [1, 2, 3, 4, 5, 7, 8, 0] rfl ?_
      exact r_X11_doMend_b110 W0 C hr hlk pq_fuel _ _ _ _ _ _ _ _ _ k0_ h
    · have h := pq_if c23 h
      refine pv_iload_n C 3 dX11_doMend_58 rfl rfl ?_
      refine pv_if_le (tgt := 72) C dX11_doMend_59 (by decide) (fun c24 => ?_) (fun c24 => ?_)
      · have h := pq_it c24 h
        refine pv_iload C 5 dX11_doMend_72 rfl ?_
        refine pv_iload C 8 dX11_doMend_74 rfl ?_
        refine pv_iadd C dX11_doMend_76 ?_
        refine pv_sub [0, 1, 2, 3, 4, 5, 6, 7, 8] rfl ?_
        exact r_X11_doMend_b77 W0 C hr hlk ih _ _ _ _ _ _ _ _ _ _ _ k0_ h
      · have h := pq_if c24 h
        refine pv_iload C 7 dX11_doMend_62 rfl ?_
        refine pv_iconst (v := 1) C dX11_doMend_64 (by decide) ?_
        refine pv_isub C dX11_doMend_65 ?_
        refine pv_iload C 8 dX11_doMend_66 rfl ?_
        refine pv_isub C dX11_doMend_68 ?_
        refine pv_goto (tgt := 77) C dX11_doMend_69 (by decide) ?_
        refine pv_sub [0, 1, 2, 3, 4, 5, 6, 7, 8] rfl ?_
        exact r_X11_doMend_b77 W0 C hr hlk ih _ _ _ _ _ _ _ _ _ _ _ k0_ h
set_option maxHeartbeats 4000000 in
set_option maxRecDepth 100000 in
theorem r_X11_doMend {l : Launch} {D : va_G} {y : pq_Y} {G : pq_G} (W0 : pq_WT G) {S : pq_N} {a0 : Nat} {x1 : Int32} {x2 : Int32} (k0_ : pq_ok G 11 a0) {r : Int32} {S1 : pq_N} (h : F_X11_doMend G S a0 x1 x2 = some (r, S1)) (sz : Nat) : Met l yX11_doMend wsX11_doMend ({ frames := 2, cells := 0, slots := 0, locals := 44 } : Room) (pq_P D y G S sz [.ref a0, .int x1, .int x2]) (pq_Qi D y G sz r S1) 0 0 (pq_A G sz) := by
  refine pq_enter RX11 10 (by decide) rfl rfl rfl ?_
  intro p e s m below meth c C hsz hr hlk
  subst hsz
  unfold F_X11_doMend at h
  refine pv_sub (lo1 := [(0, .ref a0), (1, .int x1), (2, .int x2)]) [0, 1, 2] rfl ?_
  refine pv_aload_n C 0 dX11_doMend_0 rfl rfl ?_
  refine pv_geti (T := TX11) (N := 24) C 16 inu_X11_doMend_11 rfl (by decide) (by decide) (List.mem_of_getElem? (i := 1) rfl) rfl k0_ dX11_doMend_1 ?_
  refine pv_aload_n C 0 dX11_doMend_4 rfl rfl ?_
  refine pv_iload_n C 1 dX11_doMend_5 rfl rfl ?_
  refine pv_iload_n C 2 dX11_doMend_6 rfl rfl ?_
  obtain ⟨v11, S12, e13, h⟩ := pq_bs h
  refine pv_calliV C (ci := 11) rfl (by decide) k0_ [.int x1, .int x2] (fun sz => r_X11_size W0 k0_ e13 sz) (cwV 2 C.1.2.2.2.2 gX11_doMend_X11_size rfl rfl rfl (by decide +kernel) ⟨Nat.le_of_ble_eq_true rfl, Nat.le_of_ble_eq_true rfl⟩) rfl rfl (Nat.le_of_ble_eq_true rfl) dX11_doMend_7 ⟨Nat.le_of_ble_eq_true rfl, Nat.le_of_ble_eq_true rfl⟩ ?_
  refine pv_isub C dX11_doMend_10 ?_
  refine pv_istore_n C [(3, .int ((S.1 a0 16) - v11)), (0, .ref a0), (1, .int x1), (2, .int x2)] dX11_doMend_11 rfl (by decide) rfl ?_
  refine pv_aload_n C 1 dX11_doMend_12 rfl rfl ?_
  refine pv_iload_n C 2 dX11_doMend_13 rfl rfl ?_
  refine pv_iload_n C 3 dX11_doMend_14 rfl rfl ?_
  obtain ⟨v14, S15, e16, h⟩ := pq_bs h
  refine pv_calliV C (ci := 11) rfl (by decide) k0_ [.int x1, .int x2] (fun sz => r_X11_begin W0 k0_ e16 sz) (cwV 2 C.1.2.2.2.2 gX11_doMend_X11_begin rfl rfl rfl (by decide +kernel) ⟨Nat.le_of_ble_eq_true rfl, Nat.le_of_ble_eq_true rfl⟩) rfl rfl (Nat.le_of_ble_eq_true rfl) dX11_doMend_15 ⟨Nat.le_of_ble_eq_true rfl, Nat.le_of_ble_eq_true rfl⟩ ?_
  refine pv_istore C [(4, .int v14), (3, .int ((S.1 a0 16) - v11)), (0, .ref a0), (1, .int x1), (2, .int x2)] dX11_doMend_18 (by decide) rfl ?_
  refine pv_iload C 0 dX11_doMend_20 rfl ?_
  refine pv_aload_n C 2 dX11_doMend_22 rfl rfl ?_
  refine pv_iload_n C 3 dX11_doMend_23 rfl rfl ?_
  refine pv_iload_n C 4 dX11_doMend_24 rfl rfl ?_
  obtain ⟨v17, S18, e19, h⟩ := pq_bs h
  refine pv_calliV C (ci := 11) rfl (by decide) k0_ [.int x1, .int x2] (fun sz => r_X11_size W0 k0_ e19 sz) (cwV 2 C.1.2.2.2.2 gX11_doMend_X11_size rfl rfl rfl (by decide +kernel) ⟨Nat.le_of_ble_eq_true rfl, Nat.le_of_ble_eq_true rfl⟩) rfl rfl (Nat.le_of_ble_eq_true rfl) dX11_doMend_25 ⟨Nat.le_of_ble_eq_true rfl, Nat.le_of_ble_eq_true rfl⟩ ?_
  refine pv_iadd C dX11_doMend_28 ?_
  refine pv_istore C [(5, .int (v14 + v17)), (4, .int v14), (3, .int ((S.1 a0 16) - v11)), (0, .ref a0), (1, .int x1), (2, .int x2)] dX11_doMend_29 (by decide) rfl ?_
  refine pv_bipush (v := 60) C dX11_doMend_31 (by decide) ?_
  refine pv_iload_n C 4 dX11_doMend_33 rfl rfl ?_
  refine pv_imul C dX11_doMend_34 ?_
  refine pv_istore C [(6, .int ((60 : Int32) * x1)), (5, .int (v14 + v17)), (4, .int v14), (3, .int ((S.1 a0 16) - v11)), (0, .ref a0), (1, .int x1), (2, .int x2)] dX11_doMend_35 (by decide) rfl ?_
  refine pv_aload_n C 4 dX11_doMend_37 rfl rfl ?_
  refine pv_iload_n C 5 dX11_doMend_38 rfl rfl ?_
  refine pv_iconst (v := 4) C dX11_doMend_39 (by decide) ?_
  obtain ⟨v20, S21, e22, h⟩ := pq_bs h
  refine pv_calliV C (ci := 11) rfl (by decide) k0_ [.int x1, .int (4 : Int32)] (fun sz => r_X11_get W0 k0_ e22 sz) (cwV 2 C.1.2.2.2.2 gX11_doMend_X11_get rfl rfl rfl (by decide +kernel) ⟨Nat.le_of_ble_eq_true rfl, Nat.le_of_ble_eq_true rfl⟩) rfl rfl (Nat.le_of_ble_eq_true rfl) dX11_doMend_40 ⟨Nat.le_of_ble_eq_true rfl, Nat.le_of_ble_eq_true rfl⟩ ?_
  refine pv_istore C [(7, .int v20), (6, .int ((60 : Int32) * x1)), (5, .int (v14 + v17)), (4, .int v14), (3, .int ((S.1 a0 16) - v11)), (0, .ref a0), (1, .int x1), (2, .int x2)] dX11_doMend_43 (by decide) rfl ?_
  refine pv_iconst (v := 0) C dX11_doMend_45 (by decide) ?_
  refine pv_istore C [(8, .int (0 : Int32)), (7, .int v20), (6, .int ((60 : Int32) * x1)), (5, .int (v14 + v17)), (4, .int v14), (3, .int ((S.1 a0 16) - v11)), (0, .ref a0), (1, .int x1), (2, .int x2)] dX11_doMend_46 (by decide) rfl ?_
  refine pv_sub [6, 7, 8, 5, 4, 3, 2, 1, 0] rfl ?_
  exact r_X11_doMend_b48 W0 C hr hlk pq_fuel _ _ _ _ _ _ _ _ _ _ k0_ h
def F_X11_shifted (G : pq_G) (S : pq_N) (x0 : Int32) (x1 : Int32) : Option (Int64 × pq_N) := some (((Int32.toInt64 ((x0 - (97 : Int32)) + (1 : Int32))) <<< (Int32.toInt64 ((5 : Int32) * ((6 : Int32) - x1)) &&& 63)), S)
set_option maxHeartbeats 4000000 in
set_option maxRecDepth 100000 in
theorem r_X11_shifted {l : Launch} {D : va_G} {y : pq_Y} {G : pq_G} (W0 : pq_WT G) {S : pq_N} {x0 : Int32} {x1 : Int32}  {r : Int64} {S1 : pq_N} (h : F_X11_shifted G S x0 x1 = some (r, S1)) (sz : Nat) : Met l yX11_shifted wsX11_shifted ({ frames := 0, cells := 0, slots := 0, locals := 0 } : Room) (pq_P D y G S sz [.int x0, .int x1]) (pq_Ql D y G sz r S1) 0 0 (pq_A G sz) := by
  refine pq_enter RX11 2 (by decide) rfl rfl rfl ?_
  intro p e s m below meth c C hsz hr hlk
  subst hsz
  unfold F_X11_shifted at h
  refine pv_sub (lo1 := [(0, .int x0), (1, .int x1)]) [0, 1] rfl ?_
  refine pv_iload_n C 0 dX11_shifted_0 rfl rfl ?_
  refine pv_bipush (v := 97) C dX11_shifted_1 (by decide) ?_
  refine pv_isub C dX11_shifted_3 ?_
  refine pv_iconst (v := 1) C dX11_shifted_4 (by decide) ?_
  refine pv_iadd C dX11_shifted_5 ?_
  refine pv_i2l C dX11_shifted_6 ?_
  refine pv_iconst (v := 5) C dX11_shifted_7 (by decide) ?_
  refine pv_bipush (v := 6) C dX11_shifted_8 (by decide) ?_
  refine pv_iload_n C 1 dX11_shifted_10 rfl rfl ?_
  refine pv_isub C dX11_shifted_11 ?_
  refine pv_imul C dX11_shifted_12 ?_
  refine pv_lshl C dX11_shifted_13 ?_
  exact pv_lret C hr hlk h dX11_shifted_14
def F_X11_readWord_b75 (G : pq_G)  (S : pq_N) (a0 : Nat) (x1 : Int32) (x2 : Int32) (x3 : Int64) (x5 : Int32) : Option (Int32 × pq_N) := (if (20 : Int32) ≤ x1 then (if x5 ≤ (0 : Int32) then some ((0 : Int32), S) else some ((1 : Int32), S)) else (if (60 : Int32) ≤ x2 then (if x5 ≤ (0 : Int32) then some ((0 : Int32), S) else some ((1 : Int32), S)) else (if (((60 : Int32) * x1) + x2) < 0 ∨ pq_n G (pq_r G a0 1) ≤ (Int32.toNatClampNeg (((60 : Int32) * x1) + x2)) then none else (pq_lt (pq_wj S (pq_r G a0 1) (Int32.toNatClampNeg (((60 : Int32) * x1) + x2)) x3) fun S32 => (if x5 ≤ (0 : Int32) then some ((0 : Int32), S32) else some ((1 : Int32), S32))))))
def F_X11_readWord_b5 (G : pq_G)  : Nat → pq_N → Nat → Int32 → Int32 → Int64 → Int32 → Option (Int32 × pq_N)
  | 0, _, _, _, _, _, _ => none
  | n + 1, S, a0, x1, x2, x3, x5 => (if (7 : Int32) ≤ x5 then F_X11_readWord_b75 G S a0 x1 x2 x3 x5 else (if (S.1 a0 7) ≤ (S.1 a0 9) then F_X11_readWord_b75 G S a0 x1 x2 x3 x5 else (if (S.1 a0 9) < 0 ∨ pq_n G (pq_r G a0 6) ≤ (Int32.toNatClampNeg (S.1 a0 9)) then none else (pq_bd (F_X11_in G S (S.1 (pq_r G a0 6) (Int32.toNatClampNeg (S.1 a0 9))) (97 : Int32) (122 : Int32)) fun v15 S16 => (if v15 = (0 : Int32) then F_X11_readWord_b75 G S16 a0 x1 x2 x3 x5 else (if (S16.1 a0 9) < 0 ∨ pq_n G (pq_r G a0 6) ≤ (Int32.toNatClampNeg (S16.1 a0 9)) then none else (pq_bd (F_X11_shifted G S16 (S16.1 (pq_r G a0 6) (Int32.toNatClampNeg (S16.1 a0 9))) x5) fun v21 S22 => (pq_lt (pq_wi S22 a0 9 ((S22.1 a0 9) + (1 : Int32))) fun S24 => (F_X11_readWord_b5 G n) S24 a0 x1 x2 (x3 ||| v21) (x5 + (1 : Int32))))))))))
def F_X11_readWord (G : pq_G) (S : pq_N) (a0 : Nat) (x1 : Int32) (x2 : Int32) : Option (Int32 × pq_N) := F_X11_readWord_b5 G pq_fuel S a0 x1 x2 (0 : Int64) (0 : Int32)
theorem inu_X11_readWord_11 : ∀ w ∈ u_ws RX11 TX11 24, w ∈ wsX11_readWord := pq_inu 12 rfl
set_option maxHeartbeats 4000000 in
set_option maxRecDepth 100000 in
theorem r_X11_readWord_b75 {p : Program} {l : Launch} {e : Env} {s : State} {m : MethodId} {av : Array Value} {below : List Frame} {meth : Method} {c : Code} {D : va_G} {y : pq_Y} {G : pq_G} {r : Int32} {S1 : pq_N} (W0 : pq_WT G) (C : pq_C p s m av c D y RX11 wsX11_readWord cX11_readWord 6) (hr : meth.sig.returnType = (some .boolean)) (hlk : meth.locks = false) : ∀ (S : pq_N) (a0 : Nat) (x1 : Int32) (x2 : Int32) (x3 : Int64) (x5 : Int32), pq_ok G 11 a0 → F_X11_readWord_b75 G S a0 x1 x2 x3 x5 = some (r, S1) → pq_V p l e (headSpec wsX11_readWord ({ frames := 1, cells := 0, slots := 0, locals := 22 } : Room)).room s m av below meth c 0 0 (MQ below (pq_Qi D y G s.heap.size r S1) av s 0 0 (pq_A G s.heap.size)) D y 6 (pq_A G s.heap.size) (fun _ => True) G S 75 [(0, .ref a0), (1, .int x1), (2, .int x2), (3, .long x3), (5, .int x5)] [] := by
  intro S a0 x1 x2 x3 x5 k0_ h
  unfold F_X11_readWord_b75 at h
  refine pv_iload_n C 1 dX11_readWord_75 rfl rfl ?_
  refine pv_bipush (v := 20) C dX11_readWord_76 (by decide) ?_
  refine pv_icmp_ge (tgt := 99) C dX11_readWord_78 (by decide) (fun c26 => ?_) (fun c26 => ?_)
  · have h := pq_it c26 h
    refine pv_iload C 4 dX11_readWord_99 rfl ?_
    refine pv_if_le (tgt := 108) C dX11_readWord_101 (by decide) (fun c27 => ?_) (fun c27 => ?_)
    · have h := pq_it c27 h
      refine pv_iconst (v := 0) C dX11_readWord_108 (by decide) ?_
      exact pv_zret C hr rfl hlk h dX11_readWord_109
    · have h := pq_if c27 h
      refine pv_iconst (v := 1) C dX11_readWord_104 (by decide) ?_
      refine pv_goto (tgt := 109) C dX11_readWord_105 (by decide) ?_
      exact pv_zret C hr rfl hlk h dX11_readWord_109
  · have h := pq_if c26 h
    refine pv_iload_n C 2 dX11_readWord_81 rfl rfl ?_
    refine pv_bipush (v := 60) C dX11_readWord_82 (by decide) ?_
    refine pv_icmp_ge (tgt := 99) C dX11_readWord_84 (by decide) (fun c28 => ?_) (fun c28 => ?_)
    · have h := pq_it c28 h
      refine pv_iload C 4 dX11_readWord_99 rfl ?_
      refine pv_if_le (tgt := 108) C dX11_readWord_101 (by decide) (fun c29 => ?_) (fun c29 => ?_)
      · have h := pq_it c29 h
        refine pv_iconst (v := 0) C dX11_readWord_108 (by decide) ?_
        exact pv_zret C hr rfl hlk h dX11_readWord_109
      · have h := pq_if c29 h
        refine pv_iconst (v := 1) C dX11_readWord_104 (by decide) ?_
        refine pv_goto (tgt := 109) C dX11_readWord_105 (by decide) ?_
        exact pv_zret C hr rfl hlk h dX11_readWord_109
    · have h := pq_if c28 h
      refine pv_aload_n C 0 dX11_readWord_87 rfl rfl ?_
      have k30 := pq_wt (k := 1) W0 k0_ rfl
      refine pv_getr (T := TX11) (N := 24) C 1 inu_X11_readWord_11 rfl (by decide) (by decide) (List.mem_of_getElem? (i := 4) rfl) rfl k0_ k30.1 dX11_readWord_88 ?_
      refine pv_bipush (v := 60) C dX11_readWord_91 (by decide) ?_
      refine pv_iload_n C 1 dX11_readWord_93 rfl rfl ?_
      refine pv_imul C dX11_readWord_94 ?_
      refine pv_iload_n C 2 dX11_readWord_95 rfl rfl ?_
      refine pv_iadd C dX11_readWord_96 ?_
      refine pv_lload_n C 3 dX11_readWord_97 rfl rfl ?_
      obtain ⟨g31, h⟩ := pq_gd h
      refine pv_lastore C k30.2 g31 dX11_readWord_98 ?_
      refine pv_nm (fun S32 e33 => ?_)
      have h := pq_ls e33 h
      refine pv_iload C 4 dX11_readWord_99 rfl ?_
      refine pv_if_le (tgt := 108) C dX11_readWord_101 (by decide) (fun c34 => ?_) (fun c34 => ?_)
      · have h := pq_it c34 h
        refine pv_iconst (v := 0) C dX11_readWord_108 (by decide) ?_
        exact pv_zret C hr rfl hlk h dX11_readWord_109
      · have h := pq_if c34 h
        refine pv_iconst (v := 1) C dX11_readWord_104 (by decide) ?_
        refine pv_goto (tgt := 109) C dX11_readWord_105 (by decide) ?_
        exact pv_zret C hr rfl hlk h dX11_readWord_109
set_option maxHeartbeats 4000000 in
set_option maxRecDepth 100000 in
theorem r_X11_readWord_b5 {p : Program} {l : Launch} {e : Env} {s : State} {m : MethodId} {av : Array Value} {below : List Frame} {meth : Method} {c : Code} {D : va_G} {y : pq_Y} {G : pq_G} {r : Int32} {S1 : pq_N} (W0 : pq_WT G) (C : pq_C p s m av c D y RX11 wsX11_readWord cX11_readWord 6) (hr : meth.sig.returnType = (some .boolean)) (hlk : meth.locks = false) (n : Nat) : ∀ (S : pq_N) (a0 : Nat) (x1 : Int32) (x2 : Int32) (x3 : Int64) (x5 : Int32), pq_ok G 11 a0 → F_X11_readWord_b5 G n S a0 x1 x2 x3 x5 = some (r, S1) → pq_V p l e (headSpec wsX11_readWord ({ frames := 1, cells := 0, slots := 0, locals := 22 } : Room)).room s m av below meth c 0 0 (MQ below (pq_Qi D y G s.heap.size r S1) av s 0 0 (pq_A G s.heap.size)) D y 6 (pq_A G s.heap.size) (fun _ => True) G S 5 [(0, .ref a0), (1, .int x1), (2, .int x2), (3, .long x3), (5, .int x5)] [] := by
  induction n with
  | zero =>
    intro S a0 x1 x2 x3 x5 k0_ h
    rw [F_X11_readWord_b5.eq_1] at h; cases h
  | succ n ih =>
    intro S a0 x1 x2 x3 x5 k0_ h
    rw [F_X11_readWord_b5.eq_2] at h
    refine pv_iload C 4 dX11_readWord_5 rfl ?_
    refine pv_bipush (v := 7) C dX11_readWord_7 (by decide) ?_
    refine pv_icmp_ge (tgt := 75) C dX11_readWord_9 (by decide) (fun c11 => ?_) (fun c11 => ?_)
    · have h := pq_it c11 h
      refine pv_sub [0, 1, 2, 3, 4] rfl ?_
      exact r_X11_readWord_b75 W0 C hr hlk _ _ _ _ _ _ k0_ h
    · have h := pq_if c11 h
      refine pv_aload_n C 0 dX11_readWord_12 rfl rfl ?_
      refine pv_geti (T := TX11) (N := 24) C 9 inu_X11_readWord_11 rfl (by decide) (by decide) (List.mem_of_getElem? (i := 1) rfl) rfl k0_ dX11_readWord_13 ?_
      refine pv_aload_n C 0 dX11_readWord_16 rfl rfl ?_
      refine pv_geti (T := TX11) (N := 24) C 7 inu_X11_readWord_11 rfl (by decide) (by decide) (List.mem_of_getElem? (i := 2) rfl) rfl k0_ dX11_readWord_17 ?_
      refine pv_icmp_ge (tgt := 75) C dX11_readWord_20 (by decide) (fun c12 => ?_) (fun c12 => ?_)
      · have h := pq_it c12 h
        refine pv_sub [0, 1, 2, 3, 4] rfl ?_
        exact r_X11_readWord_b75 W0 C hr hlk _ _ _ _ _ _ k0_ h
      · have h := pq_if c12 h
        refine pv_aload_n C 0 dX11_readWord_23 rfl rfl ?_
        have k13 := pq_wt (k := 6) W0 k0_ rfl
        refine pv_getr (T := TX11) (N := 24) C 6 inu_X11_readWord_11 rfl (by decide) (by decide) (List.mem_of_getElem? (i := 3) rfl) rfl k0_ k13.1 dX11_readWord_24 ?_
        refine pv_aload_n C 0 dX11_readWord_27 rfl rfl ?_
        refine pv_geti (T := TX11) (N := 24) C 9 inu_X11_readWord_11 rfl (by decide) (by decide) (List.mem_of_getElem? (i := 1) rfl) rfl k0_ dX11_readWord_28 ?_
        obtain ⟨g14, h⟩ := pq_gd h
        refine pv_iaload C k13.2 g14 dX11_readWord_31 ?_
        refine pv_bipush (v := 97) C dX11_readWord_32 (by decide) ?_
        refine pv_bipush (v := 122) C dX11_readWord_34 (by decide) ?_
        obtain ⟨v15, S16, e17, h⟩ := pq_bs h
        refine pv_calliS C [.int (S.1 (pq_r G a0 6) (Int32.toNatClampNeg (S.1 a0 9))), .int (97 : Int32), .int (122 : Int32)] (fun sz => r_X11_in W0  e17 sz) (va_cwS 3 C.1.2.2.2.2 gX11_readWord_X11_in rfl rfl rfl (by decide +kernel) ⟨Nat.le_of_ble_eq_true rfl, Nat.le_of_ble_eq_true rfl⟩) rfl rfl (Nat.le_of_ble_eq_true rfl) dX11_readWord_36 ⟨Nat.le_of_ble_eq_true rfl, Nat.le_of_ble_eq_true rfl⟩ ?_
        refine pv_if_eq (tgt := 75) C dX11_readWord_39 (by decide) (fun c18 => ?_) (fun c18 => ?_)
        · have h := pq_it c18 h
          refine pv_sub [0, 1, 2, 3, 4] rfl ?_
          exact r_X11_readWord_b75 W0 C hr hlk _ _ _ _ _ _ k0_ h
        · have h := pq_if c18 h
          refine pv_lload_n C 3 dX11_readWord_42 rfl rfl ?_
          refine pv_aload_n C 0 dX11_readWord_43 rfl rfl ?_
          have k19 := pq_wt (k := 6) W0 k0_ rfl
          refine pv_getr (T := TX11) (N := 24) C 6 inu_X11_readWord_11 rfl (by decide) (by decide) (List.mem_of_getElem? (i := 3) rfl) rfl k0_ k19.1 dX11_readWord_44 ?_
          refine pv_aload_n C 0 dX11_readWord_47 rfl rfl ?_
          refine pv_geti (T := TX11) (N := 24) C 9 inu_X11_readWord_11 rfl (by decide) (by decide) (List.mem_of_getElem? (i := 1) rfl) rfl k0_ dX11_readWord_48 ?_
          obtain ⟨g20, h⟩ := pq_gd h
          refine pv_iaload C k19.2 g20 dX11_readWord_51 ?_
          refine pv_iload C 4 dX11_readWord_52 rfl ?_
          obtain ⟨v21, S22, e23, h⟩ := pq_bs h
          refine pv_calllS C [.int (S16.1 (pq_r G a0 6) (Int32.toNatClampNeg (S16.1 a0 9))), .int x5] (fun sz => r_X11_shifted W0  e23 sz) (va_cwS 2 C.1.2.2.2.2 gX11_readWord_X11_shifted rfl rfl rfl (by decide +kernel) ⟨Nat.le_of_ble_eq_true rfl, Nat.le_of_ble_eq_true rfl⟩) rfl rfl (Nat.le_of_ble_eq_true rfl) dX11_readWord_54 ⟨Nat.le_of_ble_eq_true rfl, Nat.le_of_ble_eq_true rfl⟩ ?_
          refine pv_lor C dX11_readWord_57 ?_
          refine pv_lstore_n C [(3, .long (x3 ||| v21)), (0, .ref a0), (1, .int x1), (2, .int x2), (5, .int x5)] dX11_readWord_58 rfl (by decide) rfl ?_
          refine pv_aload_n C 1 dX11_readWord_59 rfl rfl ?_
          refine pv_dup C dX11_readWord_60 rfl ?_
          refine pv_geti (T := TX11) (N := 24) C 9 inu_X11_readWord_11 rfl (by decide) (by decide) (List.mem_of_getElem? (i := 1) rfl) rfl k0_ dX11_readWord_61 ?_
          refine pv_iconst (v := 1) C dX11_readWord_64 (by decide) ?_
          refine pv_iadd C dX11_readWord_65 ?_
          refine pv_put (T := TX11) (N := 24) (ty := .int) C 9 inu_X11_readWord_11 rfl (by decide) tyX11 tyX11_ok nmX11 (by decide) (List.mem_of_getElem? (i := 1) rfl) rfl k0_ rfl (by decide +kernel) rfl rfl dX11_readWord_66 ?_
          refine pv_nm (fun S24 e25 => ?_)
          have h := pq_ls e25 h
          refine pv_iinc (v := (x5 + (1 : Int32))) C 4 [(5, .int (x5 + (1 : Int32))), (3, .long (x3 ||| v21)), (0, .ref a0), (1, .int x1), (2, .int x2)] dX11_readWord_69 rfl rfl (by decide) rfl ?_
          refine pv_goto (tgt := 5) C dX11_readWord_72 (by decide) ?_
          refine pv_sub [2, 3, 4, 1, 0] rfl ?_
          exact ih _ _ _ _ _ _ k0_ h
set_option maxHeartbeats 4000000 in
set_option maxRecDepth 100000 in
theorem r_X11_readWord {l : Launch} {D : va_G} {y : pq_Y} {G : pq_G} (W0 : pq_WT G) {S : pq_N} {a0 : Nat} {x1 : Int32} {x2 : Int32} (k0_ : pq_ok G 11 a0) {r : Int32} {S1 : pq_N} (h : F_X11_readWord G S a0 x1 x2 = some (r, S1)) (sz : Nat) : Met l yX11_readWord wsX11_readWord ({ frames := 1, cells := 0, slots := 0, locals := 22 } : Room) (pq_P D y G S sz [.ref a0, .int x1, .int x2]) (pq_Qi D y G sz r S1) 0 0 (pq_A G sz) := by
  refine pq_enter RX11 6 (by decide) rfl rfl rfl ?_
  intro p e s m below meth c C hsz hr hlk
  subst hsz
  unfold F_X11_readWord at h
  refine pv_sub (lo1 := [(0, .ref a0), (1, .int x1), (2, .int x2)]) [0, 1, 2] rfl ?_
  refine pv_lconst (v := 0) C dX11_readWord_0 (by decide) ?_
  refine pv_lstore_n C [(3, .long (0 : Int64)), (0, .ref a0), (1, .int x1), (2, .int x2)] dX11_readWord_1 rfl (by decide) rfl ?_
  refine pv_iconst (v := 0) C dX11_readWord_2 (by decide) ?_
  refine pv_istore C [(5, .int (0 : Int32)), (3, .long (0 : Int64)), (0, .ref a0), (1, .int x1), (2, .int x2)] dX11_readWord_3 (by decide) rfl ?_
  refine pv_sub [2, 3, 4, 1, 0] rfl ?_
  exact r_X11_readWord_b5 W0 C hr hlk pq_fuel _ _ _ _ _ _ k0_ h
def F_X11_readNumber_b62 (G : pq_G)  (S : pq_N) (a0 : Nat) (x1 : Int32) (t0 : Int32) (t1 : Int32) (t2 : Nat) : Option (Int32 × pq_N) := (pq_lt (pq_wi S t2 9 (t1 + t0)) fun S21 => (if x1 = (1 : Int32) then (if (S21.1 a0 7) ≤ (S21.1 a0 9) then some (x1, S21) else (if (S21.1 a0 9) < 0 ∨ pq_n G (pq_r G a0 6) ≤ (Int32.toNatClampNeg (S21.1 a0 9)) then none else (pq_bd (F_X11_in G S21 (S21.1 (pq_r G a0 6) (Int32.toNatClampNeg (S21.1 a0 9))) (48 : Int32) (57 : Int32)) fun v27 S28 => (if v27 = (0 : Int32) then some (x1, S28) else (if (S28.1 a0 9) < 0 ∨ pq_n G (pq_r G a0 6) ≤ (Int32.toNatClampNeg (S28.1 a0 9)) then none else (pq_lt (((10 : Int32) + (S28.1 (pq_r G a0 6) (Int32.toNatClampNeg (S28.1 a0 9)))) - (48 : Int32)) fun i33 => (pq_lt (pq_wi S28 a0 9 ((S28.1 a0 9) + (1 : Int32))) fun S35 => some (i33, S35)))))))) else some (x1, S21)))
def F_X11_readNumber_b46 (G : pq_G)  (S : pq_N) (a0 : Nat) (t0 : Int32) : Option (Int32 × pq_N) := (if t0 = (-1 : Int32) then F_X11_readNumber_b62 G S a0 t0 (0 : Int32) (S.1 a0 9) a0 else F_X11_readNumber_b62 G S a0 t0 (1 : Int32) (S.1 a0 9) a0)
def F_X11_readNumber (G : pq_G) (S : pq_N) (a0 : Nat) : Option (Int32 × pq_N) := (if (S.1 a0 7) ≤ (S.1 a0 9) then F_X11_readNumber_b46 G S a0 (-1 : Int32) else (if (S.1 a0 9) < 0 ∨ pq_n G (pq_r G a0 6) ≤ (Int32.toNatClampNeg (S.1 a0 9)) then none else (pq_bd (F_X11_in G S (S.1 (pq_r G a0 6) (Int32.toNatClampNeg (S.1 a0 9))) (48 : Int32) (57 : Int32)) fun v14 S15 => (if v14 = (0 : Int32) then F_X11_readNumber_b46 G S15 a0 (-1 : Int32) else (if (S15.1 a0 9) < 0 ∨ pq_n G (pq_r G a0 6) ≤ (Int32.toNatClampNeg (S15.1 a0 9)) then none else F_X11_readNumber_b46 G S15 a0 ((S15.1 (pq_r G a0 6) (Int32.toNatClampNeg (S15.1 a0 9))) - (48 : Int32)))))))
theorem inu_X11_readNumber_11 : ∀ w ∈ u_ws RX11 TX11 24, w ∈ wsX11_readNumber := pq_inu 8 rfl
set_option maxHeartbeats 4000000 in
set_option maxRecDepth 100000 in
theorem r_X11_readNumber_b62 {p : Program} {l : Launch} {e : Env} {s : State} {m : MethodId} {av : Array Value} {below : List Frame} {meth : Method} {c : Code} {D : va_G} {y : pq_Y} {G : pq_G} {r : Int32} {S1 : pq_N} (W0 : pq_WT G) (C : pq_C p s m av c D y RX11 wsX11_readNumber cX11_readNumber 2) (hr : meth.sig.returnType = (some .int)) (hlk : meth.locks = false) : ∀ (S : pq_N) (a0 : Nat) (x1 : Int32) (t0 : Int32) (t1 : Int32) (t2 : Nat), pq_ok G 11 a0 → pq_ok G 11 t2 → F_X11_readNumber_b62 G S a0 x1 t0 t1 t2 = some (r, S1) → pq_V p l e (headSpec wsX11_readNumber ({ frames := 1, cells := 0, slots := 0, locals := 22 } : Room)).room s m av below meth c 0 0 (MQ below (pq_Qi D y G s.heap.size r S1) av s 0 0 (pq_A G s.heap.size)) D y 2 (pq_A G s.heap.size) (fun _ => True) G S 62 [(0, .ref a0), (1, .int x1)] [.int t0, .int t1, .ref t2] := by
  intro S a0 x1 t0 t1 t2 k0_ kt2_ h
  unfold F_X11_readNumber_b62 at h
  refine pv_iadd C dX11_readNumber_62 ?_
  refine pv_put (T := TX11) (N := 24) (ty := .int) C 9 inu_X11_readNumber_11 rfl (by decide) tyX11 tyX11_ok nmX11 (by decide) (List.mem_of_getElem? (i := 1) rfl) rfl kt2_ rfl (by decide +kernel) rfl rfl dX11_readNumber_63 ?_
  refine pv_nm (fun S21 e22 => ?_)
  have h := pq_ls e22 h
  refine pv_iload_n C 1 dX11_readNumber_66 rfl rfl ?_
  refine pv_iconst (v := 1) C dX11_readNumber_67 (by decide) ?_
  refine pv_icmp_ne (tgt := 127) C dX11_readNumber_68 (by decide) (fun c23 => ?_) (fun c23 => ?_)
  · have h := pq_if c23 h
    refine pv_iload_n C 1 dX11_readNumber_127 rfl rfl ?_
    exact pv_iret C hr hlk h dX11_readNumber_128
  · have h := pq_it c23 h
    refine pv_aload_n C 0 dX11_readNumber_71 rfl rfl ?_
    refine pv_geti (T := TX11) (N := 24) C 9 inu_X11_readNumber_11 rfl (by decide) (by decide) (List.mem_of_getElem? (i := 1) rfl) rfl k0_ dX11_readNumber_72 ?_
    refine pv_aload_n C 0 dX11_readNumber_75 rfl rfl ?_
    refine pv_geti (T := TX11) (N := 24) C 7 inu_X11_readNumber_11 rfl (by decide) (by decide) (List.mem_of_getElem? (i := 2) rfl) rfl k0_ dX11_readNumber_76 ?_
    refine pv_icmp_ge (tgt := 127) C dX11_readNumber_79 (by decide) (fun c24 => ?_) (fun c24 => ?_)
    · have h := pq_it c24 h
      refine pv_iload_n C 1 dX11_readNumber_127 rfl rfl ?_
      exact pv_iret C hr hlk h dX11_readNumber_128
    · have h := pq_if c24 h
      refine pv_aload_n C 0 dX11_readNumber_82 rfl rfl ?_
      have k25 := pq_wt (k := 6) W0 k0_ rfl
      refine pv_getr (T := TX11) (N := 24) C 6 inu_X11_readNumber_11 rfl (by decide) (by decide) (List.mem_of_getElem? (i := 3) rfl) rfl k0_ k25.1 dX11_readNumber_83 ?_
      refine pv_aload_n C 0 dX11_readNumber_86 rfl rfl ?_
      refine pv_geti (T := TX11) (N := 24) C 9 inu_X11_readNumber_11 rfl (by decide) (by decide) (List.mem_of_getElem? (i := 1) rfl) rfl k0_ dX11_readNumber_87 ?_
      obtain ⟨g26, h⟩ := pq_gd h
      refine pv_iaload C k25.2 g26 dX11_readNumber_90 ?_
      refine pv_bipush (v := 48) C dX11_readNumber_91 (by decide) ?_
      refine pv_bipush (v := 57) C dX11_readNumber_93 (by decide) ?_
      obtain ⟨v27, S28, e29, h⟩ := pq_bs h
      refine pv_calliS C [.int (S21.1 (pq_r G a0 6) (Int32.toNatClampNeg (S21.1 a0 9))), .int (48 : Int32), .int (57 : Int32)] (fun sz => r_X11_in W0  e29 sz) (va_cwS 3 C.1.2.2.2.2 gX11_readNumber_X11_in rfl rfl rfl (by decide +kernel) ⟨Nat.le_of_ble_eq_true rfl, Nat.le_of_ble_eq_true rfl⟩) rfl rfl (Nat.le_of_ble_eq_true rfl) dX11_readNumber_95 ⟨Nat.le_of_ble_eq_true rfl, Nat.le_of_ble_eq_true rfl⟩ ?_
      refine pv_if_eq (tgt := 127) C dX11_readNumber_98 (by decide) (fun c30 => ?_) (fun c30 => ?_)
      · have h := pq_it c30 h
        refine pv_iload_n C 1 dX11_readNumber_127 rfl rfl ?_
        exact pv_iret C hr hlk h dX11_readNumber_128
      · have h := pq_if c30 h
        refine pv_bipush (v := 10) C dX11_readNumber_101 (by decide) ?_
        refine pv_aload_n C 0 dX11_readNumber_103 rfl rfl ?_
        have k31 := pq_wt (k := 6) W0 k0_ rfl
        refine pv_getr (T := TX11) (N := 24) C 6 inu_X11_readNumber_11 rfl (by decide) (by decide) (List.mem_of_getElem? (i := 3) rfl) rfl k0_ k31.1 dX11_readNumber_104 ?_
        refine pv_aload_n C 0 dX11_readNumber_107 rfl rfl ?_
        refine pv_geti (T := TX11) (N := 24) C 9 inu_X11_readNumber_11 rfl (by decide) (by decide) (List.mem_of_getElem? (i := 1) rfl) rfl k0_ dX11_readNumber_108 ?_
        obtain ⟨g32, h⟩ := pq_gd h
        refine pv_iaload C k31.2 g32 dX11_readNumber_111 ?_
        refine pv_iadd C dX11_readNumber_112 ?_
        refine pv_bipush (v := 48) C dX11_readNumber_113 (by decide) ?_
        refine pv_isub C dX11_readNumber_115 ?_
        refine pv_nmi (fun i33 e34 => ?_)
        have h := pq_ls e34 h
        refine pv_istore_n C [(1, .int i33), (0, .ref a0)] dX11_readNumber_116 rfl (by decide) rfl ?_
        refine pv_aload_n C 1 dX11_readNumber_117 rfl rfl ?_
        refine pv_dup C dX11_readNumber_118 rfl ?_
        refine pv_geti (T := TX11) (N := 24) C 9 inu_X11_readNumber_11 rfl (by decide) (by decide) (List.mem_of_getElem? (i := 1) rfl) rfl k0_ dX11_readNumber_119 ?_
        refine pv_iconst (v := 1) C dX11_readNumber_122 (by decide) ?_
        refine pv_iadd C dX11_readNumber_123 ?_
        refine pv_put (T := TX11) (N := 24) (ty := .int) C 9 inu_X11_readNumber_11 rfl (by decide) tyX11 tyX11_ok nmX11 (by decide) (List.mem_of_getElem? (i := 1) rfl) rfl k0_ rfl (by decide +kernel) rfl rfl dX11_readNumber_124 ?_
        refine pv_nm (fun S35 e36 => ?_)
        have h := pq_ls e36 h
        refine pv_iload_n C 0 dX11_readNumber_127 rfl rfl ?_
        exact pv_iret C hr hlk h dX11_readNumber_128
set_option maxHeartbeats 4000000 in
set_option maxRecDepth 100000 in
theorem r_X11_readNumber_b46 {p : Program} {l : Launch} {e : Env} {s : State} {m : MethodId} {av : Array Value} {below : List Frame} {meth : Method} {c : Code} {D : va_G} {y : pq_Y} {G : pq_G} {r : Int32} {S1 : pq_N} (W0 : pq_WT G) (C : pq_C p s m av c D y RX11 wsX11_readNumber cX11_readNumber 2) (hr : meth.sig.returnType = (some .int)) (hlk : meth.locks = false) : ∀ (S : pq_N) (a0 : Nat) (t0 : Int32), pq_ok G 11 a0 → F_X11_readNumber_b46 G S a0 t0 = some (r, S1) → pq_V p l e (headSpec wsX11_readNumber ({ frames := 1, cells := 0, slots := 0, locals := 22 } : Room)).room s m av below meth c 0 0 (MQ below (pq_Qi D y G s.heap.size r S1) av s 0 0 (pq_A G s.heap.size)) D y 2 (pq_A G s.heap.size) (fun _ => True) G S 46 [(0, .ref a0)] [.int t0] := by
  intro S a0 t0 k0_ h
  unfold F_X11_readNumber_b46 at h
  refine pv_istore_n C [(1, .int t0), (0, .ref a0)] dX11_readNumber_46 rfl (by decide) rfl ?_
  refine pv_aload_n C 1 dX11_readNumber_47 rfl rfl ?_
  refine pv_dup C dX11_readNumber_48 rfl ?_
  refine pv_geti (T := TX11) (N := 24) C 9 inu_X11_readNumber_11 rfl (by decide) (by decide) (List.mem_of_getElem? (i := 1) rfl) rfl k0_ dX11_readNumber_49 ?_
  refine pv_iload_n C 0 dX11_readNumber_52 rfl rfl ?_
  refine pv_iconst (v := -1) C dX11_readNumber_53 (by decide) ?_
  refine pv_icmp_ne (tgt := 61) C dX11_readNumber_54 (by decide) (fun c20 => ?_) (fun c20 => ?_)
  · have h := pq_if c20 h
    refine pv_iconst (v := 1) C dX11_readNumber_61 (by decide) ?_
    refine pv_sub [1, 0] rfl ?_
    exact r_X11_readNumber_b62 W0 C hr hlk _ _ _ _ _ _ k0_ k0_ h
  · have h := pq_it c20 h
    refine pv_iconst (v := 0) C dX11_readNumber_57 (by decide) ?_
    refine pv_goto (tgt := 62) C dX11_readNumber_58 (by decide) ?_
    refine pv_sub [1, 0] rfl ?_
    exact r_X11_readNumber_b62 W0 C hr hlk _ _ _ _ _ _ k0_ k0_ h
set_option maxHeartbeats 4000000 in
set_option maxRecDepth 100000 in
theorem r_X11_readNumber {l : Launch} {D : va_G} {y : pq_Y} {G : pq_G} (W0 : pq_WT G) {S : pq_N} {a0 : Nat} (k0_ : pq_ok G 11 a0) {r : Int32} {S1 : pq_N} (h : F_X11_readNumber G S a0 = some (r, S1)) (sz : Nat) : Met l yX11_readNumber wsX11_readNumber ({ frames := 1, cells := 0, slots := 0, locals := 22 } : Room) (pq_P D y G S sz [.ref a0]) (pq_Qi D y G sz r S1) 0 0 (pq_A G sz) := by
  refine pq_enter RX11 2 (by decide) rfl rfl rfl ?_
  intro p e s m below meth c C hsz hr hlk
  subst hsz
  unfold F_X11_readNumber at h
  refine pv_sub (lo1 := [(0, .ref a0)]) [0] rfl ?_
  refine pv_aload_n C 0 dX11_readNumber_0 rfl rfl ?_
  refine pv_geti (T := TX11) (N := 24) C 9 inu_X11_readNumber_11 rfl (by decide) (by decide) (List.mem_of_getElem? (i := 1) rfl) rfl k0_ dX11_readNumber_1 ?_
  refine pv_aload_n C 0 dX11_readNumber_4 rfl rfl ?_
  refine pv_geti (T := TX11) (N := 24) C 7 inu_X11_readNumber_11 rfl (by decide) (by decide) (List.mem_of_getElem? (i := 2) rfl) rfl k0_ dX11_readNumber_5 ?_
  refine pv_icmp_ge (tgt := 45) C dX11_readNumber_8 (by decide) (fun c11 => ?_) (fun c11 => ?_)
  · have h := pq_it c11 h
    refine pv_iconst (v := -1) C dX11_readNumber_45 (by decide) ?_
    refine pv_sub [0] rfl ?_
    exact r_X11_readNumber_b46 W0 C hr hlk _ _ _ k0_ h
  · have h := pq_if c11 h
    refine pv_aload_n C 0 dX11_readNumber_11 rfl rfl ?_
    have k12 := pq_wt (k := 6) W0 k0_ rfl
    refine pv_getr (T := TX11) (N := 24) C 6 inu_X11_readNumber_11 rfl (by decide) (by decide) (List.mem_of_getElem? (i := 3) rfl) rfl k0_ k12.1 dX11_readNumber_12 ?_
    refine pv_aload_n C 0 dX11_readNumber_15 rfl rfl ?_
    refine pv_geti (T := TX11) (N := 24) C 9 inu_X11_readNumber_11 rfl (by decide) (by decide) (List.mem_of_getElem? (i := 1) rfl) rfl k0_ dX11_readNumber_16 ?_
    obtain ⟨g13, h⟩ := pq_gd h
    refine pv_iaload C k12.2 g13 dX11_readNumber_19 ?_
    refine pv_bipush (v := 48) C dX11_readNumber_20 (by decide) ?_
    refine pv_bipush (v := 57) C dX11_readNumber_22 (by decide) ?_
    obtain ⟨v14, S15, e16, h⟩ := pq_bs h
    refine pv_calliS C [.int (S.1 (pq_r G a0 6) (Int32.toNatClampNeg (S.1 a0 9))), .int (48 : Int32), .int (57 : Int32)] (fun sz => r_X11_in W0  e16 sz) (va_cwS 3 C.1.2.2.2.2 gX11_readNumber_X11_in rfl rfl rfl (by decide +kernel) ⟨Nat.le_of_ble_eq_true rfl, Nat.le_of_ble_eq_true rfl⟩) rfl rfl (Nat.le_of_ble_eq_true rfl) dX11_readNumber_24 ⟨Nat.le_of_ble_eq_true rfl, Nat.le_of_ble_eq_true rfl⟩ ?_
    refine pv_if_eq (tgt := 45) C dX11_readNumber_27 (by decide) (fun c17 => ?_) (fun c17 => ?_)
    · have h := pq_it c17 h
      refine pv_iconst (v := -1) C dX11_readNumber_45 (by decide) ?_
      refine pv_sub [0] rfl ?_
      exact r_X11_readNumber_b46 W0 C hr hlk _ _ _ k0_ h
    · have h := pq_if c17 h
      refine pv_aload_n C 0 dX11_readNumber_30 rfl rfl ?_
      have k18 := pq_wt (k := 6) W0 k0_ rfl
      refine pv_getr (T := TX11) (N := 24) C 6 inu_X11_readNumber_11 rfl (by decide) (by decide) (List.mem_of_getElem? (i := 3) rfl) rfl k0_ k18.1 dX11_readNumber_31 ?_
      refine pv_aload_n C 0 dX11_readNumber_34 rfl rfl ?_
      refine pv_geti (T := TX11) (N := 24) C 9 inu_X11_readNumber_11 rfl (by decide) (by decide) (List.mem_of_getElem? (i := 1) rfl) rfl k0_ dX11_readNumber_35 ?_
      obtain ⟨g19, h⟩ := pq_gd h
      refine pv_iaload C k18.2 g19 dX11_readNumber_38 ?_
      refine pv_bipush (v := 48) C dX11_readNumber_39 (by decide) ?_
      refine pv_isub C dX11_readNumber_41 ?_
      refine pv_goto (tgt := 46) C dX11_readNumber_42 (by decide) ?_
      refine pv_sub [0] rfl ?_
      exact r_X11_readNumber_b46 W0 C hr hlk _ _ _ k0_ h
def F_X11_readQuote_b188 (G : pq_G)  (S : pq_N) (a0 : Nat) (x1 : Int32) (x2 : Int32) (x4 : Int32) (t0 : Int32) (t1 : Nat) : Option (Int32 × pq_N) := (pq_lt (pq_wi S t1 10 t0) fun S53 => (if (20 : Int32) ≤ x1 then (pq_lt (pq_wi S53 a0 12 ((S53.1 a0 12) + (1 : Int32))) fun S56 => some ((1 : Int32), S56)) else (if (16 : Int32) ≤ (S53.1 a0 12) then (pq_lt (pq_wi S53 a0 12 ((S53.1 a0 12) + (1 : Int32))) fun S59 => some ((1 : Int32), S59)) else (pq_lt ((((52 : Int32) * x1) + (6 : Int32)) + ((3 : Int32) * (S53.1 a0 12))) fun i61 => (if i61 < 0 ∨ pq_n G (pq_r G a0 0) ≤ (Int32.toNatClampNeg i61) then none else (pq_lt (pq_wi S53 (pq_r G a0 0) (Int32.toNatClampNeg i61) x4) fun S65 => (if (i61 + (1 : Int32)) < 0 ∨ pq_n G (pq_r G a0 0) ≤ (Int32.toNatClampNeg (i61 + (1 : Int32))) then none else (pq_lt (pq_wi S65 (pq_r G a0 0) (Int32.toNatClampNeg (i61 + (1 : Int32))) x2) fun S69 => (if (i61 + (2 : Int32)) < 0 ∨ pq_n G (pq_r G a0 0) ≤ (Int32.toNatClampNeg (i61 + (2 : Int32))) then none else (pq_lt (pq_wi S69 (pq_r G a0 0) (Int32.toNatClampNeg (i61 + (2 : Int32))) ((S69.1 a0 11) - x2)) fun S73 => (pq_lt (pq_wi S73 a0 12 ((S73.1 a0 12) + (1 : Int32))) fun S75 => some ((1 : Int32), S75))))))))))))
def F_X11_readQuote_b149 (G : pq_G)  (S : pq_N) (a0 : Nat) (x1 : Int32) (x2 : Int32) (x4 : Int32) (t0 : Int32) : Option (Int32 × pq_N) := (if (S.1 a0 10) = (3 : Int32) then F_X11_readQuote_b188 G S a0 x1 x2 x4 (3 : Int32) a0 else (if t0 = (3 : Int32) then F_X11_readQuote_b188 G S a0 x1 x2 x4 (3 : Int32) a0 else (if t0 ≤ (S.1 a0 10) then F_X11_readQuote_b188 G S a0 x1 x2 x4 (S.1 a0 10) a0 else F_X11_readQuote_b188 G S a0 x1 x2 x4 t0 a0)))
def F_X11_readQuote_b101 (G : pq_G)  (S : pq_N) (a0 : Nat) (x1 : Int32) (x2 : Int32) (t0 : Int32) : Option (Int32 × pq_N) := (if t0 = (-1 : Int32) then some ((0 : Int32), S) else (pq_bd (F_X11_isPamphlet G S a0 t0) fun v40 S41 => (if v40 = (0 : Int32) then F_X11_readQuote_b149 G S41 a0 x1 x2 t0 (3 : Int32) else (pq_bd (F_X11_get G S41 a0 t0 (3 : Int32)) fun v44 S45 => (if (0 : Int32) < 0 ∨ pq_n G (pq_r G a0 0) ≤ (Int32.toNatClampNeg (0 : Int32)) then none else (if v44 = (S45.1 (pq_r G a0 0) (Int32.toNatClampNeg (0 : Int32))) then F_X11_readQuote_b149 G S45 a0 x1 x2 t0 (4 : Int32) else F_X11_readQuote_b149 G S45 a0 x1 x2 t0 (0 : Int32)))))))
def F_X11_readQuote_b88 (G : pq_G)  (S : pq_N) (a0 : Nat) (x1 : Int32) (x2 : Int32) (t0 : Int32) : Option (Int32 × pq_N) := (if t0 = (0 : Int32) then F_X11_readQuote_b101 G S a0 x1 x2 (-1 : Int32) else (pq_bd (F_X11_readNumber G S a0) fun v36 S37 => F_X11_readQuote_b101 G S37 a0 x1 x2 v36))
def F_X11_readQuote_b61 (G : pq_G)  (S : pq_N) (a0 : Nat) (x1 : Int32) (x2 : Int32) (x3 : Int32) : Option (Int32 × pq_N) := (if x3 = (0 : Int32) then F_X11_readQuote_b88 G S a0 x1 x2 (0 : Int32) else (pq_bd (F_X11_comes G S a0 (34 : Int32)) fun v27 S28 => (if v27 = (0 : Int32) then F_X11_readQuote_b88 G S28 a0 x1 x2 (0 : Int32) else (pq_bd (F_X11_comes G S28 a0 (64 : Int32)) fun v31 S32 => (if v31 = (0 : Int32) then F_X11_readQuote_b88 G S32 a0 x1 x2 (0 : Int32) else F_X11_readQuote_b88 G S32 a0 x1 x2 (1 : Int32))))))
def F_X11_readQuote_b25 (G : pq_G)  : Nat → pq_N → Nat → Int32 → Int32 → Int32 → Option (Int32 × pq_N)
  | 0, _, _, _, _, _ => none
  | n + 1, S, a0, x1, x2, x3 => (if x3 = (0 : Int32) then F_X11_readQuote_b61 G S a0 x1 x2 x3 else (pq_bd (F_X11_comes G S a0 (32 : Int32)) fun v17 S18 => (if v17 = (0 : Int32) then F_X11_readQuote_b61 G S18 a0 x1 x2 x3 else (pq_bd (F_X11_readWord G S18 a0 x1 (S18.1 a0 11)) fun v21 S22 => (pq_lt (pq_wi S22 a0 11 ((S22.1 a0 11) + (1 : Int32))) fun S24 => (F_X11_readQuote_b25 G n) S24 a0 x1 x2 v21)))))
def F_X11_readQuote (G : pq_G) (S : pq_N) (a0 : Nat) (x1 : Int32) : Option (Int32 × pq_N) := (pq_bd (F_X11_readWord G S a0 x1 (S.1 a0 11)) fun v11 S12 => (pq_lt (pq_wi S12 a0 11 ((S12.1 a0 11) + (1 : Int32))) fun S14 => F_X11_readQuote_b25 G pq_fuel S14 a0 x1 (S.1 a0 11) v11))
theorem inu_X11_readQuote_11 : ∀ w ∈ u_ws RX11 TX11 24, w ∈ wsX11_readQuote := pq_inu 36 rfl
set_option maxHeartbeats 4000000 in
set_option maxRecDepth 100000 in
theorem r_X11_readQuote_b188 {p : Program} {l : Launch} {e : Env} {s : State} {m : MethodId} {av : Array Value} {below : List Frame} {meth : Method} {c : Code} {D : va_G} {y : pq_Y} {G : pq_G} {r : Int32} {S1 : pq_N} (W0 : pq_WT G) (C : pq_C p s m av c D y RX11 wsX11_readQuote cX11_readQuote 8) (hr : meth.sig.returnType = (some .boolean)) (hlk : meth.locks = false) : ∀ (S : pq_N) (a0 : Nat) (x1 : Int32) (x2 : Int32) (x4 : Int32) (t0 : Int32) (t1 : Nat), pq_ok G 11 a0 → pq_ok G 11 t1 → F_X11_readQuote_b188 G S a0 x1 x2 x4 t0 t1 = some (r, S1) → pq_V p l e (headSpec wsX11_readQuote ({ frames := 2, cells := 0, slots := 0, locals := 47 } : Room)).room s m av below meth c 0 0 (MQ below (pq_Qi D y G s.heap.size r S1) av s 0 0 (pq_A G s.heap.size)) D y 8 (pq_A G s.heap.size) (fun _ => True) G S 188 [(0, .ref a0), (1, .int x1), (2, .int x2), (4, .int x4)] [.int t0, .ref t1] := by
  intro S a0 x1 x2 x4 t0 t1 k0_ kt1_ h
  unfold F_X11_readQuote_b188 at h
  refine pv_put (T := TX11) (N := 24) (ty := .int) C 10 inu_X11_readQuote_11 rfl (by decide) tyX11 tyX11_ok nmX11 (by decide) (List.mem_of_getElem? (i := 3) rfl) rfl kt1_ rfl (by decide +kernel) rfl rfl dX11_readQuote_188 ?_
  refine pv_nm (fun S53 e54 => ?_)
  have h := pq_ls e54 h
  refine pv_iload_n C 1 dX11_readQuote_191 rfl rfl ?_
  refine pv_bipush (v := 20) C dX11_readQuote_192 (by decide) ?_
  refine pv_icmp_ge (tgt := 256) C dX11_readQuote_194 (by decide) (fun c55 => ?_) (fun c55 => ?_)
  · have h := pq_it c55 h
    refine pv_aload_n C 0 dX11_readQuote_256 rfl rfl ?_
    refine pv_dup C dX11_readQuote_257 rfl ?_
    refine pv_geti (T := TX11) (N := 24) C 12 inu_X11_readQuote_11 rfl (by decide) (by decide) (List.mem_of_getElem? (i := 4) rfl) rfl k0_ dX11_readQuote_258 ?_
    refine pv_iconst (v := 1) C dX11_readQuote_261 (by decide) ?_
    refine pv_iadd C dX11_readQuote_262 ?_
    refine pv_put (T := TX11) (N := 24) (ty := .int) C 12 inu_X11_readQuote_11 rfl (by decide) tyX11 tyX11_ok nmX11 (by decide) (List.mem_of_getElem? (i := 4) rfl) rfl k0_ rfl (by decide +kernel) rfl rfl dX11_readQuote_263 ?_
    refine pv_nm (fun S56 e57 => ?_)
    have h := pq_ls e57 h
    refine pv_iconst (v := 1) C dX11_readQuote_266 (by decide) ?_
    exact pv_zret C hr rfl hlk h dX11_readQuote_267
  · have h := pq_if c55 h
    refine pv_aload_n C 0 dX11_readQuote_197 rfl rfl ?_
    refine pv_geti (T := TX11) (N := 24) C 12 inu_X11_readQuote_11 rfl (by decide) (by decide) (List.mem_of_getElem? (i := 4) rfl) rfl k0_ dX11_readQuote_198 ?_
    refine pv_bipush (v := 16) C dX11_readQuote_201 (by decide) ?_
    refine pv_icmp_ge (tgt := 256) C dX11_readQuote_203 (by decide) (fun c58 => ?_) (fun c58 => ?_)
    · have h := pq_it c58 h
      refine pv_aload_n C 0 dX11_readQuote_256 rfl rfl ?_
      refine pv_dup C dX11_readQuote_257 rfl ?_
      refine pv_geti (T := TX11) (N := 24) C 12 inu_X11_readQuote_11 rfl (by decide) (by decide) (List.mem_of_getElem? (i := 4) rfl) rfl k0_ dX11_readQuote_258 ?_
      refine pv_iconst (v := 1) C dX11_readQuote_261 (by decide) ?_
      refine pv_iadd C dX11_readQuote_262 ?_
      refine pv_put (T := TX11) (N := 24) (ty := .int) C 12 inu_X11_readQuote_11 rfl (by decide) tyX11 tyX11_ok nmX11 (by decide) (List.mem_of_getElem? (i := 4) rfl) rfl k0_ rfl (by decide +kernel) rfl rfl dX11_readQuote_263 ?_
      refine pv_nm (fun S59 e60 => ?_)
      have h := pq_ls e60 h
      refine pv_iconst (v := 1) C dX11_readQuote_266 (by decide) ?_
      exact pv_zret C hr rfl hlk h dX11_readQuote_267
    · have h := pq_if c58 h
      refine pv_bipush (v := 52) C dX11_readQuote_206 (by decide) ?_
      refine pv_iload_n C 1 dX11_readQuote_208 rfl rfl ?_
      refine pv_imul C dX11_readQuote_209 ?_
      refine pv_bipush (v := 6) C dX11_readQuote_210 (by decide) ?_
      refine pv_iadd C dX11_readQuote_212 ?_
      refine pv_iconst (v := 3) C dX11_readQuote_213 (by decide) ?_
      refine pv_aload_n C 0 dX11_readQuote_214 rfl rfl ?_
      refine pv_geti (T := TX11) (N := 24) C 12 inu_X11_readQuote_11 rfl (by decide) (by decide) (List.mem_of_getElem? (i := 4) rfl) rfl k0_ dX11_readQuote_215 ?_
      refine pv_imul C dX11_readQuote_218 ?_
      refine pv_iadd C dX11_readQuote_219 ?_
      refine pv_nmi (fun i61 e62 => ?_)
      have h := pq_ls e62 h
      refine pv_istore C [(7, .int i61), (0, .ref a0), (1, .int x1), (2, .int x2), (4, .int x4)] dX11_readQuote_220 (by decide) rfl ?_
      refine pv_aload_n C 1 dX11_readQuote_222 rfl rfl ?_
      have k63 := pq_wt (k := 0) W0 k0_ rfl
      refine pv_getr (T := TX11) (N := 24) C 0 inu_X11_readQuote_11 rfl (by decide) (by decide) (List.mem_of_getElem? (i := 2) rfl) rfl k0_ k63.1 dX11_readQuote_223 ?_
      refine pv_iload C 0 dX11_readQuote_226 rfl ?_
      refine pv_iload C 4 dX11_readQuote_228 rfl ?_
      obtain ⟨g64, h⟩ := pq_gd h
      refine pv_iastore C k63.2 g64 dX11_readQuote_230 ?_
      refine pv_nm (fun S65 e66 => ?_)
      have h := pq_ls e66 h
      refine pv_aload_n C 1 dX11_readQuote_231 rfl rfl ?_
      have k67 := pq_wt (k := 0) W0 k0_ rfl
      refine pv_getr (T := TX11) (N := 24) C 0 inu_X11_readQuote_11 rfl (by decide) (by decide) (List.mem_of_getElem? (i := 2) rfl) rfl k0_ k67.1 dX11_readQuote_232 ?_
      refine pv_iload C 0 dX11_readQuote_235 rfl ?_
      refine pv_iconst (v := 1) C dX11_readQuote_237 (by decide) ?_
      refine pv_iadd C dX11_readQuote_238 ?_
      refine pv_iload_n C 3 dX11_readQuote_239 rfl rfl ?_
      obtain ⟨g68, h⟩ := pq_gd h
      refine pv_iastore C k67.2 g68 dX11_readQuote_240 ?_
      refine pv_nm (fun S69 e70 => ?_)
      have h := pq_ls e70 h
      refine pv_aload_n C 1 dX11_readQuote_241 rfl rfl ?_
      have k71 := pq_wt (k := 0) W0 k0_ rfl
      refine pv_getr (T := TX11) (N := 24) C 0 inu_X11_readQuote_11 rfl (by decide) (by decide) (List.mem_of_getElem? (i := 2) rfl) rfl k0_ k71.1 dX11_readQuote_242 ?_
      refine pv_iload C 0 dX11_readQuote_245 rfl ?_
      refine pv_iconst (v := 2) C dX11_readQuote_247 (by decide) ?_
      refine pv_iadd C dX11_readQuote_248 ?_
      refine pv_aload_n C 1 dX11_readQuote_249 rfl rfl ?_
      refine pv_geti (T := TX11) (N := 24) C 11 inu_X11_readQuote_11 rfl (by decide) (by decide) (List.mem_of_getElem? (i := 1) rfl) rfl k0_ dX11_readQuote_250 ?_
      refine pv_iload_n C 3 dX11_readQuote_253 rfl rfl ?_
      refine pv_isub C dX11_readQuote_254 ?_
      obtain ⟨g72, h⟩ := pq_gd h
      refine pv_iastore C k71.2 g72 dX11_readQuote_255 ?_
      refine pv_nm (fun S73 e74 => ?_)
      have h := pq_ls e74 h
      refine pv_aload_n C 1 dX11_readQuote_256 rfl rfl ?_
      refine pv_dup C dX11_readQuote_257 rfl ?_
      refine pv_geti (T := TX11) (N := 24) C 12 inu_X11_readQuote_11 rfl (by decide) (by decide) (List.mem_of_getElem? (i := 4) rfl) rfl k0_ dX11_readQuote_258 ?_
      refine pv_iconst (v := 1) C dX11_readQuote_261 (by decide) ?_
      refine pv_iadd C dX11_readQuote_262 ?_
      refine pv_put (T := TX11) (N := 24) (ty := .int) C 12 inu_X11_readQuote_11 rfl (by decide) tyX11 tyX11_ok nmX11 (by decide) (List.mem_of_getElem? (i := 4) rfl) rfl k0_ rfl (by decide +kernel) rfl rfl dX11_readQuote_263 ?_
      refine pv_nm (fun S75 e76 => ?_)
      have h := pq_ls e76 h
      refine pv_iconst (v := 1) C dX11_readQuote_266 (by decide) ?_
      exact pv_zret C hr rfl hlk h dX11_readQuote_267
set_option maxHeartbeats 4000000 in
set_option maxRecDepth 100000 in
theorem r_X11_readQuote_b149 {p : Program} {l : Launch} {e : Env} {s : State} {m : MethodId} {av : Array Value} {below : List Frame} {meth : Method} {c : Code} {D : va_G} {y : pq_Y} {G : pq_G} {r : Int32} {S1 : pq_N} (W0 : pq_WT G) (C : pq_C p s m av c D y RX11 wsX11_readQuote cX11_readQuote 8) (hr : meth.sig.returnType = (some .boolean)) (hlk : meth.locks = false) : ∀ (S : pq_N) (a0 : Nat) (x1 : Int32) (x2 : Int32) (x4 : Int32) (t0 : Int32), pq_ok G 11 a0 → F_X11_readQuote_b149 G S a0 x1 x2 x4 t0 = some (r, S1) → pq_V p l e (headSpec wsX11_readQuote ({ frames := 2, cells := 0, slots := 0, locals := 47 } : Room)).room s m av below meth c 0 0 (MQ below (pq_Qi D y G s.heap.size r S1) av s 0 0 (pq_A G s.heap.size)) D y 8 (pq_A G s.heap.size) (fun _ => True) G S 149 [(0, .ref a0), (1, .int x1), (2, .int x2), (4, .int x4)] [.int t0] := by
  intro S a0 x1 x2 x4 t0 k0_ h
  unfold F_X11_readQuote_b149 at h
  refine pv_istore C [(6, .int t0), (0, .ref a0), (1, .int x1), (2, .int x2), (4, .int x4)] dX11_readQuote_149 (by decide) rfl ?_
  refine pv_aload_n C 1 dX11_readQuote_151 rfl rfl ?_
  refine pv_aload_n C 1 dX11_readQuote_152 rfl rfl ?_
  refine pv_geti (T := TX11) (N := 24) C 10 inu_X11_readQuote_11 rfl (by decide) (by decide) (List.mem_of_getElem? (i := 3) rfl) rfl k0_ dX11_readQuote_153 ?_
  refine pv_iconst (v := 3) C dX11_readQuote_156 (by decide) ?_
  refine pv_icmp_eq (tgt := 166) C dX11_readQuote_157 (by decide) (fun c50 => ?_) (fun c50 => ?_)
  · have h := pq_it c50 h
    refine pv_iconst (v := 3) C dX11_readQuote_166 (by decide) ?_
    refine pv_goto (tgt := 188) C dX11_readQuote_167 (by decide) ?_
    refine pv_sub [1, 2, 3, 4] rfl ?_
    exact r_X11_readQuote_b188 W0 C hr hlk _ _ _ _ _ _ _ k0_ k0_ h
  · have h := pq_if c50 h
    refine pv_iload C 0 dX11_readQuote_160 rfl ?_
    refine pv_iconst (v := 3) C dX11_readQuote_162 (by decide) ?_
    refine pv_icmp_ne (tgt := 170) C dX11_readQuote_163 (by decide) (fun c51 => ?_) (fun c51 => ?_)
    · have h := pq_if c51 h
      refine pv_iload C 0 dX11_readQuote_170 rfl ?_
      refine pv_aload_n C 1 dX11_readQuote_172 rfl rfl ?_
      refine pv_geti (T := TX11) (N := 24) C 10 inu_X11_readQuote_11 rfl (by decide) (by decide) (List.mem_of_getElem? (i := 3) rfl) rfl k0_ dX11_readQuote_173 ?_
      refine pv_icmp_le (tgt := 184) C dX11_readQuote_176 (by decide) (fun c52 => ?_) (fun c52 => ?_)
      · have h := pq_it c52 h
        refine pv_aload_n C 1 dX11_readQuote_184 rfl rfl ?_
        refine pv_geti (T := TX11) (N := 24) C 10 inu_X11_readQuote_11 rfl (by decide) (by decide) (List.mem_of_getElem? (i := 3) rfl) rfl k0_ dX11_readQuote_185 ?_
        refine pv_sub [1, 2, 3, 4] rfl ?_
        exact r_X11_readQuote_b188 W0 C hr hlk _ _ _ _ _ _ _ k0_ k0_ h
      · have h := pq_if c52 h
        refine pv_iload C 0 dX11_readQuote_179 rfl ?_
        refine pv_goto (tgt := 188) C dX11_readQuote_181 (by decide) ?_
        refine pv_sub [1, 2, 3, 4] rfl ?_
        exact r_X11_readQuote_b188 W0 C hr hlk _ _ _ _ _ _ _ k0_ k0_ h
    · have h := pq_it c51 h
      refine pv_iconst (v := 3) C dX11_readQuote_166 (by decide) ?_
      refine pv_goto (tgt := 188) C dX11_readQuote_167 (by decide) ?_
      refine pv_sub [1, 2, 3, 4] rfl ?_
      exact r_X11_readQuote_b188 W0 C hr hlk _ _ _ _ _ _ _ k0_ k0_ h
set_option maxHeartbeats 4000000 in
set_option maxRecDepth 100000 in
theorem r_X11_readQuote_b101 {p : Program} {l : Launch} {e : Env} {s : State} {m : MethodId} {av : Array Value} {below : List Frame} {meth : Method} {c : Code} {D : va_G} {y : pq_Y} {G : pq_G} {r : Int32} {S1 : pq_N} (W0 : pq_WT G) (C : pq_C p s m av c D y RX11 wsX11_readQuote cX11_readQuote 8) (hr : meth.sig.returnType = (some .boolean)) (hlk : meth.locks = false) : ∀ (S : pq_N) (a0 : Nat) (x1 : Int32) (x2 : Int32) (t0 : Int32), pq_ok G 11 a0 → F_X11_readQuote_b101 G S a0 x1 x2 t0 = some (r, S1) → pq_V p l e (headSpec wsX11_readQuote ({ frames := 2, cells := 0, slots := 0, locals := 47 } : Room)).room s m av below meth c 0 0 (MQ below (pq_Qi D y G s.heap.size r S1) av s 0 0 (pq_A G s.heap.size)) D y 8 (pq_A G s.heap.size) (fun _ => True) G S 101 [(0, .ref a0), (1, .int x1), (2, .int x2)] [.int t0] := by
  intro S a0 x1 x2 t0 k0_ h
  unfold F_X11_readQuote_b101 at h
  refine pv_istore C [(4, .int t0), (0, .ref a0), (1, .int x1), (2, .int x2)] dX11_readQuote_101 (by decide) rfl ?_
  refine pv_iload C 0 dX11_readQuote_103 rfl ?_
  refine pv_iconst (v := -1) C dX11_readQuote_105 (by decide) ?_
  refine pv_icmp_ne (tgt := 111) C dX11_readQuote_106 (by decide) (fun c39 => ?_) (fun c39 => ?_)
  · have h := pq_if c39 h
    refine pv_aload_n C 1 dX11_readQuote_111 rfl rfl ?_
    refine pv_iload C 0 dX11_readQuote_112 rfl ?_
    obtain ⟨v40, S41, e42, h⟩ := pq_bs h
    refine pv_calliV C (ci := 11) rfl (by decide) k0_ [.int t0] (fun sz => r_X11_isPamphlet W0 k0_ e42 sz) (cwV 1 C.1.2.2.2.2 gX11_readQuote_X11_isPamphlet rfl rfl rfl (by decide +kernel) ⟨Nat.le_of_ble_eq_true rfl, Nat.le_of_ble_eq_true rfl⟩) rfl rfl (Nat.le_of_ble_eq_true rfl) dX11_readQuote_114 ⟨Nat.le_of_ble_eq_true rfl, Nat.le_of_ble_eq_true rfl⟩ ?_
    refine pv_istore C [(5, .int v40), (4, .int t0), (0, .ref a0), (1, .int x1), (2, .int x2)] dX11_readQuote_117 (by decide) rfl ?_
    refine pv_iload C 0 dX11_readQuote_119 rfl ?_
    refine pv_if_ne (tgt := 128) C dX11_readQuote_121 (by decide) (fun c43 => ?_) (fun c43 => ?_)
    · have h := pq_if c43 h
      refine pv_aload_n C 2 dX11_readQuote_128 rfl rfl ?_
      refine pv_iload C 1 dX11_readQuote_129 rfl ?_
      refine pv_iconst (v := 3) C dX11_readQuote_131 (by decide) ?_
      obtain ⟨v44, S45, e46, h⟩ := pq_bs h
      refine pv_calliV C (ci := 11) rfl (by decide) k0_ [.int t0, .int (3 : Int32)] (fun sz => r_X11_get W0 k0_ e46 sz) (cwV 2 C.1.2.2.2.2 gX11_readQuote_X11_get rfl rfl rfl (by decide +kernel) ⟨Nat.le_of_ble_eq_true rfl, Nat.le_of_ble_eq_true rfl⟩) rfl rfl (Nat.le_of_ble_eq_true rfl) dX11_readQuote_132 ⟨Nat.le_of_ble_eq_true rfl, Nat.le_of_ble_eq_true rfl⟩ ?_
      refine pv_aload_n C 2 dX11_readQuote_135 rfl rfl ?_
      have k47 := pq_wt (k := 0) W0 k0_ rfl
      refine pv_getr (T := TX11) (N := 24) C 0 inu_X11_readQuote_11 rfl (by decide) (by decide) (List.mem_of_getElem? (i := 2) rfl) rfl k0_ k47.1 dX11_readQuote_136 ?_
      refine pv_iconst (v := 0) C dX11_readQuote_139 (by decide) ?_
      obtain ⟨g48, h⟩ := pq_gd h
      refine pv_iaload C k47.2 g48 dX11_readQuote_140 ?_
      refine pv_icmp_ne (tgt := 148) C dX11_readQuote_141 (by decide) (fun c49 => ?_) (fun c49 => ?_)
      · have h := pq_if c49 h
        refine pv_iconst (v := 0) C dX11_readQuote_148 (by decide) ?_
        refine pv_sub [2, 3, 4, 1] rfl ?_
        exact r_X11_readQuote_b149 W0 C hr hlk _ _ _ _ _ _ k0_ h
      · have h := pq_it c49 h
        refine pv_iconst (v := 4) C dX11_readQuote_144 (by decide) ?_
        refine pv_goto (tgt := 149) C dX11_readQuote_145 (by decide) ?_
        refine pv_sub [2, 3, 4, 1] rfl ?_
        exact r_X11_readQuote_b149 W0 C hr hlk _ _ _ _ _ _ k0_ h
    · have h := pq_it c43 h
      refine pv_iconst (v := 3) C dX11_readQuote_124 (by decide) ?_
      refine pv_goto (tgt := 149) C dX11_readQuote_125 (by decide) ?_
      refine pv_sub [2, 3, 4, 1] rfl ?_
      exact r_X11_readQuote_b149 W0 C hr hlk _ _ _ _ _ _ k0_ h
  · have h := pq_it c39 h
    refine pv_iconst (v := 0) C dX11_readQuote_109 (by decide) ?_
    exact pv_zret C hr rfl hlk h dX11_readQuote_110
set_option maxHeartbeats 4000000 in
set_option maxRecDepth 100000 in
theorem r_X11_readQuote_b88 {p : Program} {l : Launch} {e : Env} {s : State} {m : MethodId} {av : Array Value} {below : List Frame} {meth : Method} {c : Code} {D : va_G} {y : pq_Y} {G : pq_G} {r : Int32} {S1 : pq_N} (W0 : pq_WT G) (C : pq_C p s m av c D y RX11 wsX11_readQuote cX11_readQuote 8) (hr : meth.sig.returnType = (some .boolean)) (hlk : meth.locks = false) : ∀ (S : pq_N) (a0 : Nat) (x1 : Int32) (x2 : Int32) (t0 : Int32), pq_ok G 11 a0 → F_X11_readQuote_b88 G S a0 x1 x2 t0 = some (r, S1) → pq_V p l e (headSpec wsX11_readQuote ({ frames := 2, cells := 0, slots := 0, locals := 47 } : Room)).room s m av below meth c 0 0 (MQ below (pq_Qi D y G s.heap.size r S1) av s 0 0 (pq_A G s.heap.size)) D y 8 (pq_A G s.heap.size) (fun _ => True) G S 88 [(0, .ref a0), (1, .int x1), (2, .int x2)] [.int t0] := by
  intro S a0 x1 x2 t0 k0_ h
  unfold F_X11_readQuote_b88 at h
  refine pv_istore_n C [(3, .int t0), (0, .ref a0), (1, .int x1), (2, .int x2)] dX11_readQuote_88 rfl (by decide) rfl ?_
  refine pv_iload_n C 0 dX11_readQuote_89 rfl rfl ?_
  refine pv_if_eq (tgt := 100) C dX11_readQuote_90 (by decide) (fun c35 => ?_) (fun c35 => ?_)
  · have h := pq_it c35 h
    refine pv_iconst (v := -1) C dX11_readQuote_100 (by decide) ?_
    refine pv_sub [1, 2, 3] rfl ?_
    exact r_X11_readQuote_b101 W0 C hr hlk _ _ _ _ _ k0_ h
  · have h := pq_if c35 h
    refine pv_aload_n C 1 dX11_readQuote_93 rfl rfl ?_
    obtain ⟨v36, S37, e38, h⟩ := pq_bs h
    refine pv_calliV C (ci := 11) rfl (by decide) k0_ [] (fun sz => r_X11_readNumber W0 k0_ e38 sz) (cwV 0 C.1.2.2.2.2 gX11_readQuote_X11_readNumber rfl rfl rfl (by decide +kernel) ⟨Nat.le_of_ble_eq_true rfl, Nat.le_of_ble_eq_true rfl⟩) rfl rfl (Nat.le_of_ble_eq_true rfl) dX11_readQuote_94 ⟨Nat.le_of_ble_eq_true rfl, Nat.le_of_ble_eq_true rfl⟩ ?_
    refine pv_goto (tgt := 101) C dX11_readQuote_97 (by decide) ?_
    refine pv_sub [1, 2, 3] rfl ?_
    exact r_X11_readQuote_b101 W0 C hr hlk _ _ _ _ _ k0_ h
set_option maxHeartbeats 4000000 in
set_option maxRecDepth 100000 in
theorem r_X11_readQuote_b61 {p : Program} {l : Launch} {e : Env} {s : State} {m : MethodId} {av : Array Value} {below : List Frame} {meth : Method} {c : Code} {D : va_G} {y : pq_Y} {G : pq_G} {r : Int32} {S1 : pq_N} (W0 : pq_WT G) (C : pq_C p s m av c D y RX11 wsX11_readQuote cX11_readQuote 8) (hr : meth.sig.returnType = (some .boolean)) (hlk : meth.locks = false) : ∀ (S : pq_N) (a0 : Nat) (x1 : Int32) (x2 : Int32) (x3 : Int32), pq_ok G 11 a0 → F_X11_readQuote_b61 G S a0 x1 x2 x3 = some (r, S1) → pq_V p l e (headSpec wsX11_readQuote ({ frames := 2, cells := 0, slots := 0, locals := 47 } : Room)).room s m av below meth c 0 0 (MQ below (pq_Qi D y G s.heap.size r S1) av s 0 0 (pq_A G s.heap.size)) D y 8 (pq_A G s.heap.size) (fun _ => True) G S 61 [(0, .ref a0), (1, .int x1), (2, .int x2), (3, .int x3)] [] := by
  intro S a0 x1 x2 x3 k0_ h
  unfold F_X11_readQuote_b61 at h
  refine pv_iload_n C 3 dX11_readQuote_61 rfl rfl ?_
  refine pv_if_eq (tgt := 87) C dX11_readQuote_62 (by decide) (fun c26 => ?_) (fun c26 => ?_)
  · have h := pq_it c26 h
    refine pv_iconst (v := 0) C dX11_readQuote_87 (by decide) ?_
    refine pv_sub [0, 1, 2] rfl ?_
    exact r_X11_readQuote_b88 W0 C hr hlk _ _ _ _ _ k0_ h
  · have h := pq_if c26 h
    refine pv_aload_n C 0 dX11_readQuote_65 rfl rfl ?_
    refine pv_bipush (v := 34) C dX11_readQuote_66 (by decide) ?_
    obtain ⟨v27, S28, e29, h⟩ := pq_bs h
    refine pv_calliV C (ci := 11) rfl (by decide) k0_ [.int (34 : Int32)] (fun sz => r_X11_comes W0 k0_ e29 sz) (cwV 1 C.1.2.2.2.2 gX11_readQuote_X11_comes rfl rfl rfl (by decide +kernel) ⟨Nat.le_of_ble_eq_true rfl, Nat.le_of_ble_eq_true rfl⟩) rfl rfl (Nat.le_of_ble_eq_true rfl) dX11_readQuote_68 ⟨Nat.le_of_ble_eq_true rfl, Nat.le_of_ble_eq_true rfl⟩ ?_
    refine pv_if_eq (tgt := 87) C dX11_readQuote_71 (by decide) (fun c30 => ?_) (fun c30 => ?_)
    · have h := pq_it c30 h
      refine pv_iconst (v := 0) C dX11_readQuote_87 (by decide) ?_
      refine pv_sub [0, 1, 2] rfl ?_
      exact r_X11_readQuote_b88 W0 C hr hlk _ _ _ _ _ k0_ h
    · have h := pq_if c30 h
      refine pv_aload_n C 0 dX11_readQuote_74 rfl rfl ?_
      refine pv_bipush (v := 64) C dX11_readQuote_75 (by decide) ?_
      obtain ⟨v31, S32, e33, h⟩ := pq_bs h
      refine pv_calliV C (ci := 11) rfl (by decide) k0_ [.int (64 : Int32)] (fun sz => r_X11_comes W0 k0_ e33 sz) (cwV 1 C.1.2.2.2.2 gX11_readQuote_X11_comes rfl rfl rfl (by decide +kernel) ⟨Nat.le_of_ble_eq_true rfl, Nat.le_of_ble_eq_true rfl⟩) rfl rfl (Nat.le_of_ble_eq_true rfl) dX11_readQuote_77 ⟨Nat.le_of_ble_eq_true rfl, Nat.le_of_ble_eq_true rfl⟩ ?_
      refine pv_if_eq (tgt := 87) C dX11_readQuote_80 (by decide) (fun c34 => ?_) (fun c34 => ?_)
      · have h := pq_it c34 h
        refine pv_iconst (v := 0) C dX11_readQuote_87 (by decide) ?_
        refine pv_sub [0, 1, 2] rfl ?_
        exact r_X11_readQuote_b88 W0 C hr hlk _ _ _ _ _ k0_ h
      · have h := pq_if c34 h
        refine pv_iconst (v := 1) C dX11_readQuote_83 (by decide) ?_
        refine pv_goto (tgt := 88) C dX11_readQuote_84 (by decide) ?_
        refine pv_sub [0, 1, 2] rfl ?_
        exact r_X11_readQuote_b88 W0 C hr hlk _ _ _ _ _ k0_ h
set_option maxHeartbeats 4000000 in
set_option maxRecDepth 100000 in
theorem r_X11_readQuote_b25 {p : Program} {l : Launch} {e : Env} {s : State} {m : MethodId} {av : Array Value} {below : List Frame} {meth : Method} {c : Code} {D : va_G} {y : pq_Y} {G : pq_G} {r : Int32} {S1 : pq_N} (W0 : pq_WT G) (C : pq_C p s m av c D y RX11 wsX11_readQuote cX11_readQuote 8) (hr : meth.sig.returnType = (some .boolean)) (hlk : meth.locks = false) (n : Nat) : ∀ (S : pq_N) (a0 : Nat) (x1 : Int32) (x2 : Int32) (x3 : Int32), pq_ok G 11 a0 → F_X11_readQuote_b25 G n S a0 x1 x2 x3 = some (r, S1) → pq_V p l e (headSpec wsX11_readQuote ({ frames := 2, cells := 0, slots := 0, locals := 47 } : Room)).room s m av below meth c 0 0 (MQ below (pq_Qi D y G s.heap.size r S1) av s 0 0 (pq_A G s.heap.size)) D y 8 (pq_A G s.heap.size) (fun _ => True) G S 25 [(0, .ref a0), (1, .int x1), (2, .int x2), (3, .int x3)] [] := by
  induction n with
  | zero =>
    intro S a0 x1 x2 x3 k0_ h
    rw [F_X11_readQuote_b25.eq_1] at h; cases h
  | succ n ih =>
    intro S a0 x1 x2 x3 k0_ h
    rw [F_X11_readQuote_b25.eq_2] at h
    refine pv_iload_n C 3 dX11_readQuote_25 rfl rfl ?_
    refine pv_if_eq (tgt := 61) C dX11_readQuote_26 (by decide) (fun c16 => ?_) (fun c16 => ?_)
    · have h := pq_it c16 h
      refine pv_sub [0, 1, 2, 3] rfl ?_
      exact r_X11_readQuote_b61 W0 C hr hlk _ _ _ _ _ k0_ h
    · have h := pq_if c16 h
      refine pv_aload_n C 0 dX11_readQuote_29 rfl rfl ?_
      refine pv_bipush (v := 32) C dX11_readQuote_30 (by decide) ?_
      obtain ⟨v17, S18, e19, h⟩ := pq_bs h
      refine pv_calliV C (ci := 11) rfl (by decide) k0_ [.int (32 : Int32)] (fun sz => r_X11_comes W0 k0_ e19 sz) (cwV 1 C.1.2.2.2.2 gX11_readQuote_X11_comes rfl rfl rfl (by decide +kernel) ⟨Nat.le_of_ble_eq_true rfl, Nat.le_of_ble_eq_true rfl⟩) rfl rfl (Nat.le_of_ble_eq_true rfl) dX11_readQuote_32 ⟨Nat.le_of_ble_eq_true rfl, Nat.le_of_ble_eq_true rfl⟩ ?_
      refine pv_if_eq (tgt := 61) C dX11_readQuote_35 (by decide) (fun c20 => ?_) (fun c20 => ?_)
      · have h := pq_it c20 h
        refine pv_sub [0, 1, 2, 3] rfl ?_
        exact r_X11_readQuote_b61 W0 C hr hlk _ _ _ _ _ k0_ h
      · have h := pq_if c20 h
        refine pv_aload_n C 0 dX11_readQuote_38 rfl rfl ?_
        refine pv_iload_n C 1 dX11_readQuote_39 rfl rfl ?_
        refine pv_aload_n C 0 dX11_readQuote_40 rfl rfl ?_
        refine pv_geti (T := TX11) (N := 24) C 11 inu_X11_readQuote_11 rfl (by decide) (by decide) (List.mem_of_getElem? (i := 1) rfl) rfl k0_ dX11_readQuote_41 ?_
        obtain ⟨v21, S22, e23, h⟩ := pq_bs h
        refine pv_calliV C (ci := 11) rfl (by decide) k0_ [.int x1, .int (S18.1 a0 11)] (fun sz => r_X11_readWord W0 k0_ e23 sz) (cwV 2 C.1.2.2.2.2 gX11_readQuote_X11_readWord rfl rfl rfl (by decide +kernel) ⟨Nat.le_of_ble_eq_true rfl, Nat.le_of_ble_eq_true rfl⟩) rfl rfl (Nat.le_of_ble_eq_true rfl) dX11_readQuote_44 ⟨Nat.le_of_ble_eq_true rfl, Nat.le_of_ble_eq_true rfl⟩ ?_
        refine pv_istore_n C [(3, .int v21), (0, .ref a0), (1, .int x1), (2, .int x2)] dX11_readQuote_47 rfl (by decide) rfl ?_
        refine pv_aload_n C 1 dX11_readQuote_48 rfl rfl ?_
        refine pv_dup C dX11_readQuote_49 rfl ?_
        refine pv_geti (T := TX11) (N := 24) C 11 inu_X11_readQuote_11 rfl (by decide) (by decide) (List.mem_of_getElem? (i := 1) rfl) rfl k0_ dX11_readQuote_50 ?_
        refine pv_iconst (v := 1) C dX11_readQuote_53 (by decide) ?_
        refine pv_iadd C dX11_readQuote_54 ?_
        refine pv_put (T := TX11) (N := 24) (ty := .int) C 11 inu_X11_readQuote_11 rfl (by decide) tyX11 tyX11_ok nmX11 (by decide) (List.mem_of_getElem? (i := 1) rfl) rfl k0_ rfl (by decide +kernel) rfl rfl dX11_readQuote_55 ?_
        refine pv_nm (fun S24 e25 => ?_)
        have h := pq_ls e25 h
        refine pv_goto (tgt := 25) C dX11_readQuote_58 (by decide) ?_
        refine pv_sub [1, 2, 3, 0] rfl ?_
        exact ih _ _ _ _ _ k0_ h
set_option maxHeartbeats 4000000 in
set_option maxRecDepth 100000 in
theorem r_X11_readQuote {l : Launch} {D : va_G} {y : pq_Y} {G : pq_G} (W0 : pq_WT G) {S : pq_N} {a0 : Nat} {x1 : Int32} (k0_ : pq_ok G 11 a0) {r : Int32} {S1 : pq_N} (h : F_X11_readQuote G S a0 x1 = some (r, S1)) (sz : Nat) : Met l yX11_readQuote wsX11_readQuote ({ frames := 2, cells := 0, slots := 0, locals := 47 } : Room) (pq_P D y G S sz [.ref a0, .int x1]) (pq_Qi D y G sz r S1) 0 0 (pq_A G sz) := by
  refine pq_enter RX11 8 (by decide) rfl rfl rfl ?_
  intro p e s m below meth c C hsz hr hlk
  subst hsz
  unfold F_X11_readQuote at h
  refine pv_sub (lo1 := [(0, .ref a0), (1, .int x1)]) [0, 1] rfl ?_
  refine pv_aload_n C 0 dX11_readQuote_0 rfl rfl ?_
  refine pv_geti (T := TX11) (N := 24) C 11 inu_X11_readQuote_11 rfl (by decide) (by decide) (List.mem_of_getElem? (i := 1) rfl) rfl k0_ dX11_readQuote_1 ?_
  refine pv_istore_n C [(2, .int (S.1 a0 11)), (0, .ref a0), (1, .int x1)] dX11_readQuote_4 rfl (by decide) rfl ?_
  refine pv_aload_n C 1 dX11_readQuote_5 rfl rfl ?_
  refine pv_iload_n C 2 dX11_readQuote_6 rfl rfl ?_
  refine pv_aload_n C 1 dX11_readQuote_7 rfl rfl ?_
  refine pv_geti (T := TX11) (N := 24) C 11 inu_X11_readQuote_11 rfl (by decide) (by decide) (List.mem_of_getElem? (i := 1) rfl) rfl k0_ dX11_readQuote_8 ?_
  obtain ⟨v11, S12, e13, h⟩ := pq_bs h
  refine pv_calliV C (ci := 11) rfl (by decide) k0_ [.int x1, .int (S.1 a0 11)] (fun sz => r_X11_readWord W0 k0_ e13 sz) (cwV 2 C.1.2.2.2.2 gX11_readQuote_X11_readWord rfl rfl rfl (by decide +kernel) ⟨Nat.le_of_ble_eq_true rfl, Nat.le_of_ble_eq_true rfl⟩) rfl rfl (Nat.le_of_ble_eq_true rfl) dX11_readQuote_11 ⟨Nat.le_of_ble_eq_true rfl, Nat.le_of_ble_eq_true rfl⟩ ?_
  refine pv_istore_n C [(3, .int v11), (2, .int (S.1 a0 11)), (0, .ref a0), (1, .int x1)] dX11_readQuote_14 rfl (by decide) rfl ?_
  refine pv_aload_n C 2 dX11_readQuote_15 rfl rfl ?_
  refine pv_dup C dX11_readQuote_16 rfl ?_
  refine pv_geti (T := TX11) (N := 24) C 11 inu_X11_readQuote_11 rfl (by decide) (by decide) (List.mem_of_getElem? (i := 1) rfl) rfl k0_ dX11_readQuote_17 ?_
  refine pv_iconst (v := 1) C dX11_readQuote_20 (by decide) ?_
  refine pv_iadd C dX11_readQuote_21 ?_
  refine pv_put (T := TX11) (N := 24) (ty := .int) C 11 inu_X11_readQuote_11 rfl (by decide) tyX11 tyX11_ok nmX11 (by decide) (List.mem_of_getElem? (i := 1) rfl) rfl k0_ rfl (by decide +kernel) rfl rfl dX11_readQuote_22 ?_
  refine pv_nm (fun S14 e15 => ?_)
  have h := pq_ls e15 h
  refine pv_sub [2, 3, 1, 0] rfl ?_
  exact r_X11_readQuote_b25 W0 C hr hlk pq_fuel _ _ _ _ _ k0_ h
def F_X11_readItem (G : pq_G) (S : pq_N) (a0 : Nat) (x1 : Int32) : Option (Int32 × pq_N) := (pq_bd (F_X11_comes G S a0 (34 : Int32)) fun v11 S12 => (if v11 = (0 : Int32) then (pq_bd (F_X11_readWord G S12 a0 x1 (S12.1 a0 11)) fun v15 S16 => (pq_lt (pq_wi S16 a0 11 ((S16.1 a0 11) + (1 : Int32))) fun S18 => (if ¬ (v15 = 0 ∨ v15 = 1) then none else some (v15, S18)))) else (pq_bd (F_X11_readQuote G S12 a0 x1) fun v21 S22 => (if ¬ (v21 = 0 ∨ v21 = 1) then none else some (v21, S22)))))
theorem inu_X11_readItem_11 : ∀ w ∈ u_ws RX11 TX11 24, w ∈ wsX11_readItem := pq_inu 40 rfl
set_option maxHeartbeats 4000000 in
set_option maxRecDepth 100000 in
theorem r_X11_readItem {l : Launch} {D : va_G} {y : pq_Y} {G : pq_G} (W0 : pq_WT G) {S : pq_N} {a0 : Nat} {x1 : Int32} (k0_ : pq_ok G 11 a0) {r : Int32} {S1 : pq_N} (h : F_X11_readItem G S a0 x1 = some (r, S1)) (sz : Nat) : Met l yX11_readItem wsX11_readItem ({ frames := 3, cells := 0, slots := 0, locals := 74 } : Room) (pq_P D y G S sz [.ref a0, .int x1]) (pq_Qi D y G sz r S1) 0 0 (pq_A G sz) := by
  refine pq_enter RX11 3 (by decide) rfl rfl rfl ?_
  intro p e s m below meth c C hsz hr hlk
  subst hsz
  unfold F_X11_readItem at h
  refine pv_sub (lo1 := [(0, .ref a0), (1, .int x1)]) [0, 1] rfl ?_
  refine pv_aload_n C 0 dX11_readItem_0 rfl rfl ?_
  refine pv_bipush (v := 34) C dX11_readItem_1 (by decide) ?_
  obtain ⟨v11, S12, e13, h⟩ := pq_bs h
  refine pv_calliV C (ci := 11) rfl (by decide) k0_ [.int (34 : Int32)] (fun sz => r_X11_comes W0 k0_ e13 sz) (cwV 1 C.1.2.2.2.2 gX11_readItem_X11_comes rfl rfl rfl (by decide +kernel) ⟨Nat.le_of_ble_eq_true rfl, Nat.le_of_ble_eq_true rfl⟩) rfl rfl (Nat.le_of_ble_eq_true rfl) dX11_readItem_3 ⟨Nat.le_of_ble_eq_true rfl, Nat.le_of_ble_eq_true rfl⟩ ?_
  refine pv_if_eq (tgt := 15) C dX11_readItem_6 (by decide) (fun c14 => ?_) (fun c14 => ?_)
  · have h := pq_it c14 h
    refine pv_aload_n C 0 dX11_readItem_15 rfl rfl ?_
    refine pv_iload_n C 1 dX11_readItem_16 rfl rfl ?_
    refine pv_aload_n C 0 dX11_readItem_17 rfl rfl ?_
    refine pv_geti (T := TX11) (N := 24) C 11 inu_X11_readItem_11 rfl (by decide) (by decide) (List.mem_of_getElem? (i := 1) rfl) rfl k0_ dX11_readItem_18 ?_
    obtain ⟨v15, S16, e17, h⟩ := pq_bs h
    refine pv_calliV C (ci := 11) rfl (by decide) k0_ [.int x1, .int (S12.1 a0 11)] (fun sz => r_X11_readWord W0 k0_ e17 sz) (cwV 2 C.1.2.2.2.2 gX11_readItem_X11_readWord rfl rfl rfl (by decide +kernel) ⟨Nat.le_of_ble_eq_true rfl, Nat.le_of_ble_eq_true rfl⟩) rfl rfl (Nat.le_of_ble_eq_true rfl) dX11_readItem_21 ⟨Nat.le_of_ble_eq_true rfl, Nat.le_of_ble_eq_true rfl⟩ ?_
    refine pv_istore_n C [(2, .int v15), (0, .ref a0), (1, .int x1)] dX11_readItem_24 rfl (by decide) rfl ?_
    refine pv_aload_n C 1 dX11_readItem_25 rfl rfl ?_
    refine pv_dup C dX11_readItem_26 rfl ?_
    refine pv_geti (T := TX11) (N := 24) C 11 inu_X11_readItem_11 rfl (by decide) (by decide) (List.mem_of_getElem? (i := 1) rfl) rfl k0_ dX11_readItem_27 ?_
    refine pv_iconst (v := 1) C dX11_readItem_30 (by decide) ?_
    refine pv_iadd C dX11_readItem_31 ?_
    refine pv_put (T := TX11) (N := 24) (ty := .int) C 11 inu_X11_readItem_11 rfl (by decide) tyX11 tyX11_ok nmX11 (by decide) (List.mem_of_getElem? (i := 1) rfl) rfl k0_ rfl (by decide +kernel) rfl rfl dX11_readItem_32 ?_
    refine pv_nm (fun S18 e19 => ?_)
    have h := pq_ls e19 h
    refine pv_iload_n C 0 dX11_readItem_35 rfl rfl ?_
    obtain ⟨g20, h⟩ := pq_gd h
    exact pv_zret C hr (pq_nz (Decidable.not_not.mp g20)) hlk h dX11_readItem_36
  · have h := pq_if c14 h
    refine pv_aload_n C 0 dX11_readItem_9 rfl rfl ?_
    refine pv_iload_n C 1 dX11_readItem_10 rfl rfl ?_
    obtain ⟨v21, S22, e23, h⟩ := pq_bs h
    refine pv_calliV C (ci := 11) rfl (by decide) k0_ [.int x1] (fun sz => r_X11_readQuote W0 k0_ e23 sz) (cwV 1 C.1.2.2.2.2 gX11_readItem_X11_readQuote rfl rfl rfl (by decide +kernel) ⟨Nat.le_of_ble_eq_true rfl, Nat.le_of_ble_eq_true rfl⟩) rfl rfl (Nat.le_of_ble_eq_true rfl) dX11_readItem_11 ⟨Nat.le_of_ble_eq_true rfl, Nat.le_of_ble_eq_true rfl⟩ ?_
    obtain ⟨g24, h⟩ := pq_gd h
    exact pv_zret C hr (pq_nz (Decidable.not_not.mp g24)) hlk h dX11_readItem_14
def F_X11_readText_b48 (G : pq_G)  (S : pq_N) (a0 : Nat) (x2 : Int32) : Option (Int32 × pq_N) := (if x2 = (0 : Int32) then some ((0 : Int32), S) else (if (S.1 a0 9) = (S.1 a0 7) then some ((1 : Int32), S) else some ((0 : Int32), S)))
def F_X11_readText_b26 (G : pq_G)  : Nat → pq_N → Nat → Int32 → Int32 → Option (Int32 × pq_N)
  | 0, _, _, _, _ => none
  | n + 1, S, a0, x1, x2 => (if x2 = (0 : Int32) then F_X11_readText_b48 G S a0 x2 else (pq_bd (F_X11_comes G S a0 (32 : Int32)) fun v23 S24 => (if v23 = (0 : Int32) then F_X11_readText_b48 G S24 a0 x2 else (pq_bd (F_X11_readItem G S24 a0 x1) fun v27 S28 => (F_X11_readText_b26 G n) S28 a0 x1 v27))))
def F_X11_readText (G : pq_G) (S : pq_N) (a0 : Nat) (x1 : Int32) : Option (Int32 × pq_N) := (pq_lt (pq_wi S a0 9 (0 : Int32)) fun S11 => (pq_lt (pq_wi S11 a0 10 (0 : Int32)) fun S13 => (pq_lt (pq_wi S13 a0 11 (0 : Int32)) fun S15 => (pq_lt (pq_wi S15 a0 12 (0 : Int32)) fun S17 => (pq_bd (F_X11_readItem G S17 a0 x1) fun v19 S20 => F_X11_readText_b26 G pq_fuel S20 a0 x1 v19)))))
theorem inu_X11_readText_11 : ∀ w ∈ u_ws RX11 TX11 24, w ∈ wsX11_readText := pq_inu 44 rfl
set_option maxHeartbeats 4000000 in
set_option maxRecDepth 100000 in
theorem r_X11_readText_b48 {p : Program} {l : Launch} {e : Env} {s : State} {m : MethodId} {av : Array Value} {below : List Frame} {meth : Method} {c : Code} {D : va_G} {y : pq_Y} {G : pq_G} {r : Int32} {S1 : pq_N} (W0 : pq_WT G) (C : pq_C p s m av c D y RX11 wsX11_readText cX11_readText 3) (hr : meth.sig.returnType = (some .boolean)) (hlk : meth.locks = false) : ∀ (S : pq_N) (a0 : Nat) (x2 : Int32), pq_ok G 11 a0 → F_X11_readText_b48 G S a0 x2 = some (r, S1) → pq_V p l e (headSpec wsX11_readText ({ frames := 4, cells := 0, slots := 0, locals := 96 } : Room)).room s m av below meth c 0 0 (MQ below (pq_Qi D y G s.heap.size r S1) av s 0 0 (pq_A G s.heap.size)) D y 3 (pq_A G s.heap.size) (fun _ => True) G S 48 [(0, .ref a0), (2, .int x2)] [] := by
  intro S a0 x2 k0_ h
  unfold F_X11_readText_b48 at h
  refine pv_iload_n C 1 dX11_readText_48 rfl rfl ?_
  refine pv_if_eq (tgt := 67) C dX11_readText_49 (by decide) (fun c30 => ?_) (fun c30 => ?_)
  · have h := pq_it c30 h
    refine pv_iconst (v := 0) C dX11_readText_67 (by decide) ?_
    exact pv_zret C hr rfl hlk h dX11_readText_68
  · have h := pq_if c30 h
    refine pv_aload_n C 0 dX11_readText_52 rfl rfl ?_
    refine pv_geti (T := TX11) (N := 24) C 9 inu_X11_readText_11 rfl (by decide) (by decide) (List.mem_of_getElem? (i := 1) rfl) rfl k0_ dX11_readText_53 ?_
    refine pv_aload_n C 0 dX11_readText_56 rfl rfl ?_
    refine pv_geti (T := TX11) (N := 24) C 7 inu_X11_readText_11 rfl (by decide) (by decide) (List.mem_of_getElem? (i := 5) rfl) rfl k0_ dX11_readText_57 ?_
    refine pv_icmp_ne (tgt := 67) C dX11_readText_60 (by decide) (fun c31 => ?_) (fun c31 => ?_)
    · have h := pq_if c31 h
      refine pv_iconst (v := 0) C dX11_readText_67 (by decide) ?_
      exact pv_zret C hr rfl hlk h dX11_readText_68
    · have h := pq_it c31 h
      refine pv_iconst (v := 1) C dX11_readText_63 (by decide) ?_
      refine pv_goto (tgt := 68) C dX11_readText_64 (by decide) ?_
      exact pv_zret C hr rfl hlk h dX11_readText_68
set_option maxHeartbeats 4000000 in
set_option maxRecDepth 100000 in
theorem r_X11_readText_b26 {p : Program} {l : Launch} {e : Env} {s : State} {m : MethodId} {av : Array Value} {below : List Frame} {meth : Method} {c : Code} {D : va_G} {y : pq_Y} {G : pq_G} {r : Int32} {S1 : pq_N} (W0 : pq_WT G) (C : pq_C p s m av c D y RX11 wsX11_readText cX11_readText 3) (hr : meth.sig.returnType = (some .boolean)) (hlk : meth.locks = false) (n : Nat) : ∀ (S : pq_N) (a0 : Nat) (x1 : Int32) (x2 : Int32), pq_ok G 11 a0 → F_X11_readText_b26 G n S a0 x1 x2 = some (r, S1) → pq_V p l e (headSpec wsX11_readText ({ frames := 4, cells := 0, slots := 0, locals := 96 } : Room)).room s m av below meth c 0 0 (MQ below (pq_Qi D y G s.heap.size r S1) av s 0 0 (pq_A G s.heap.size)) D y 3 (pq_A G s.heap.size) (fun _ => True) G S 26 [(0, .ref a0), (1, .int x1), (2, .int x2)] [] := by
  induction n with
  | zero =>
    intro S a0 x1 x2 k0_ h
    rw [F_X11_readText_b26.eq_1] at h; cases h
  | succ n ih =>
    intro S a0 x1 x2 k0_ h
    rw [F_X11_readText_b26.eq_2] at h
    refine pv_iload_n C 2 dX11_readText_26 rfl rfl ?_
    refine pv_if_eq (tgt := 48) C dX11_readText_27 (by decide) (fun c22 => ?_) (fun c22 => ?_)
    · have h := pq_it c22 h
      refine pv_sub [0, 2] rfl ?_
      exact r_X11_readText_b48 W0 C hr hlk _ _ _ k0_ h
    · have h := pq_if c22 h
      refine pv_aload_n C 0 dX11_readText_30 rfl rfl ?_
      refine pv_bipush (v := 32) C dX11_readText_31 (by decide) ?_
      obtain ⟨v23, S24, e25, h⟩ := pq_bs h
      refine pv_calliV C (ci := 11) rfl (by decide) k0_ [.int (32 : Int32)] (fun sz => r_X11_comes W0 k0_ e25 sz) (cwV 1 C.1.2.2.2.2 gX11_readText_X11_comes rfl rfl rfl (by decide +kernel) ⟨Nat.le_of_ble_eq_true rfl, Nat.le_of_ble_eq_true rfl⟩) rfl rfl (Nat.le_of_ble_eq_true rfl) dX11_readText_33 ⟨Nat.le_of_ble_eq_true rfl, Nat.le_of_ble_eq_true rfl⟩ ?_
      refine pv_if_eq (tgt := 48) C dX11_readText_36 (by decide) (fun c26 => ?_) (fun c26 => ?_)
      · have h := pq_it c26 h
        refine pv_sub [0, 2] rfl ?_
        exact r_X11_readText_b48 W0 C hr hlk _ _ _ k0_ h
      · have h := pq_if c26 h
        refine pv_aload_n C 0 dX11_readText_39 rfl rfl ?_
        refine pv_iload_n C 1 dX11_readText_40 rfl rfl ?_
        obtain ⟨v27, S28, e29, h⟩ := pq_bs h
        refine pv_calliV C (ci := 11) rfl (by decide) k0_ [.int x1] (fun sz => r_X11_readItem W0 k0_ e29 sz) (cwV 1 C.1.2.2.2.2 gX11_readText_X11_readItem rfl rfl rfl (by decide +kernel) ⟨Nat.le_of_ble_eq_true rfl, Nat.le_of_ble_eq_true rfl⟩) rfl rfl (Nat.le_of_ble_eq_true rfl) dX11_readText_41 ⟨Nat.le_of_ble_eq_true rfl, Nat.le_of_ble_eq_true rfl⟩ ?_
        refine pv_istore_n C [(2, .int v27), (0, .ref a0), (1, .int x1)] dX11_readText_44 rfl (by decide) rfl ?_
        refine pv_goto (tgt := 26) C dX11_readText_45 (by decide) ?_
        refine pv_sub [1, 2, 0] rfl ?_
        exact ih _ _ _ _ k0_ h
set_option maxHeartbeats 4000000 in
set_option maxRecDepth 100000 in
theorem r_X11_readText {l : Launch} {D : va_G} {y : pq_Y} {G : pq_G} (W0 : pq_WT G) {S : pq_N} {a0 : Nat} {x1 : Int32} (k0_ : pq_ok G 11 a0) {r : Int32} {S1 : pq_N} (h : F_X11_readText G S a0 x1 = some (r, S1)) (sz : Nat) : Met l yX11_readText wsX11_readText ({ frames := 4, cells := 0, slots := 0, locals := 96 } : Room) (pq_P D y G S sz [.ref a0, .int x1]) (pq_Qi D y G sz r S1) 0 0 (pq_A G sz) := by
  refine pq_enter RX11 3 (by decide) rfl rfl rfl ?_
  intro p e s m below meth c C hsz hr hlk
  subst hsz
  unfold F_X11_readText at h
  refine pv_sub (lo1 := [(0, .ref a0), (1, .int x1)]) [0, 1] rfl ?_
  refine pv_aload_n C 0 dX11_readText_0 rfl rfl ?_
  refine pv_iconst (v := 0) C dX11_readText_1 (by decide) ?_
  refine pv_put (T := TX11) (N := 24) (ty := .int) C 9 inu_X11_readText_11 rfl (by decide) tyX11 tyX11_ok nmX11 (by decide) (List.mem_of_getElem? (i := 1) rfl) rfl k0_ rfl (by decide +kernel) rfl rfl dX11_readText_2 ?_
  refine pv_nm (fun S11 e12 => ?_)
  have h := pq_ls e12 h
  refine pv_aload_n C 0 dX11_readText_5 rfl rfl ?_
  refine pv_iconst (v := 0) C dX11_readText_6 (by decide) ?_
  refine pv_put (T := TX11) (N := 24) (ty := .int) C 10 inu_X11_readText_11 rfl (by decide) tyX11 tyX11_ok nmX11 (by decide) (List.mem_of_getElem? (i := 2) rfl) rfl k0_ rfl (by decide +kernel) rfl rfl dX11_readText_7 ?_
  refine pv_nm (fun S13 e14 => ?_)
  have h := pq_ls e14 h
  refine pv_aload_n C 0 dX11_readText_10 rfl rfl ?_
  refine pv_iconst (v := 0) C dX11_readText_11 (by decide) ?_
  refine pv_put (T := TX11) (N := 24) (ty := .int) C 11 inu_X11_readText_11 rfl (by decide) tyX11 tyX11_ok nmX11 (by decide) (List.mem_of_getElem? (i := 3) rfl) rfl k0_ rfl (by decide +kernel) rfl rfl dX11_readText_12 ?_
  refine pv_nm (fun S15 e16 => ?_)
  have h := pq_ls e16 h
  refine pv_aload_n C 0 dX11_readText_15 rfl rfl ?_
  refine pv_iconst (v := 0) C dX11_readText_16 (by decide) ?_
  refine pv_put (T := TX11) (N := 24) (ty := .int) C 12 inu_X11_readText_11 rfl (by decide) tyX11 tyX11_ok nmX11 (by decide) (List.mem_of_getElem? (i := 4) rfl) rfl k0_ rfl (by decide +kernel) rfl rfl dX11_readText_17 ?_
  refine pv_nm (fun S17 e18 => ?_)
  have h := pq_ls e18 h
  refine pv_aload_n C 0 dX11_readText_20 rfl rfl ?_
  refine pv_iload_n C 1 dX11_readText_21 rfl rfl ?_
  obtain ⟨v19, S20, e21, h⟩ := pq_bs h
  refine pv_calliV C (ci := 11) rfl (by decide) k0_ [.int x1] (fun sz => r_X11_readItem W0 k0_ e21 sz) (cwV 1 C.1.2.2.2.2 gX11_readText_X11_readItem rfl rfl rfl (by decide +kernel) ⟨Nat.le_of_ble_eq_true rfl, Nat.le_of_ble_eq_true rfl⟩) rfl rfl (Nat.le_of_ble_eq_true rfl) dX11_readText_22 ⟨Nat.le_of_ble_eq_true rfl, Nat.le_of_ble_eq_true rfl⟩ ?_
  refine pv_istore_n C [(2, .int v19), (0, .ref a0), (1, .int x1)] dX11_readText_25 rfl (by decide) rfl ?_
  refine pv_sub [1, 2, 0] rfl ?_
  exact r_X11_readText_b26 W0 C hr hlk pq_fuel _ _ _ _ k0_ h
def F_X11_errorPosition (G : pq_G) (S : pq_N) (a0 : Nat) : Option (Int32 × pq_N) := (pq_bd (F_X11_readText G S a0 (20 : Int32)) fun v11 S12 => (pq_bd (F_X11_plain G S12 a0 (S12.1 a0 9)) fun v14 S15 => some (v14, S15)))
theorem inu_X11_errorPosition_11 : ∀ w ∈ u_ws RX11 TX11 24, w ∈ wsX11_errorPosition := pq_inu 53 rfl
set_option maxHeartbeats 4000000 in
set_option maxRecDepth 100000 in
theorem r_X11_errorPosition {l : Launch} {D : va_G} {y : pq_Y} {G : pq_G} (W0 : pq_WT G) {S : pq_N} {a0 : Nat} (k0_ : pq_ok G 11 a0) {r : Int32} {S1 : pq_N} (h : F_X11_errorPosition G S a0 = some (r, S1)) (sz : Nat) : Met l yX11_errorPosition wsX11_errorPosition ({ frames := 5, cells := 0, slots := 0, locals := 118 } : Room) (pq_P D y G S sz [.ref a0]) (pq_Qi D y G sz r S1) 0 0 (pq_A G sz) := by
  refine pq_enter RX11 2 (by decide) rfl rfl rfl ?_
  intro p e s m below meth c C hsz hr hlk
  subst hsz
  unfold F_X11_errorPosition at h
  refine pv_sub (lo1 := [(0, .ref a0)]) [0] rfl ?_
  refine pv_aload_n C 0 dX11_errorPosition_0 rfl rfl ?_
  refine pv_bipush (v := 20) C dX11_errorPosition_1 (by decide) ?_
  obtain ⟨v11, S12, e13, h⟩ := pq_bs h
  refine pv_calliV C (ci := 11) rfl (by decide) k0_ [.int (20 : Int32)] (fun sz => r_X11_readText W0 k0_ e13 sz) (cwV 1 C.1.2.2.2.2 gX11_errorPosition_X11_readText rfl rfl rfl (by decide +kernel) ⟨Nat.le_of_ble_eq_true rfl, Nat.le_of_ble_eq_true rfl⟩) rfl rfl (Nat.le_of_ble_eq_true rfl) dX11_errorPosition_3 ⟨Nat.le_of_ble_eq_true rfl, Nat.le_of_ble_eq_true rfl⟩ ?_
  refine pv_istore_n C [(1, .int v11), (0, .ref a0)] dX11_errorPosition_6 rfl (by decide) rfl ?_
  refine pv_aload_n C 1 dX11_errorPosition_7 rfl rfl ?_
  refine pv_aload_n C 1 dX11_errorPosition_8 rfl rfl ?_
  refine pv_geti (T := TX11) (N := 24) C 9 inu_X11_errorPosition_11 rfl (by decide) (by decide) (List.mem_of_getElem? (i := 1) rfl) rfl k0_ dX11_errorPosition_9 ?_
  obtain ⟨v14, S15, e16, h⟩ := pq_bs h
  refine pv_calliV C (ci := 11) rfl (by decide) k0_ [.int (S12.1 a0 9)] (fun sz => r_X11_plain W0 k0_ e16 sz) (cwV 1 C.1.2.2.2.2 gX11_errorPosition_X11_plain rfl rfl rfl (by decide +kernel) ⟨Nat.le_of_ble_eq_true rfl, Nat.le_of_ble_eq_true rfl⟩) rfl rfl (Nat.le_of_ble_eq_true rfl) dX11_errorPosition_12 ⟨Nat.le_of_ble_eq_true rfl, Nat.le_of_ble_eq_true rfl⟩ ?_
  exact pv_iret C hr hlk h dX11_errorPosition_15
def F_X11_faithfulShare_b24 (G : pq_G) (c11 : pq_N → Nat → Int32 → Int32 → Int32 → Option (UInt64 × pq_N)) : Nat → pq_N → Nat → Int32 → Int32 → Int32 → Int32 → Option (UInt64 × pq_N)
  | 0, _, _, _, _, _, _ => none
  | n + 1, S, a0, x1, x2, x3, x4 => (pq_bd (F_X11_get G S a0 x3 (5 : Int32)) fun v18 S19 => (if v18 ≤ x4 then c11 S19 a0 x1 x2 (x3 + (1 : Int32)) else (pq_bd (F_X11_byTable G S19 a0 x3 x4) fun v22 S23 => (if v22 = (0 : Int32) then (F_X11_faithfulShare_b24 G c11 n) S23 a0 (x1 + (1 : Int32)) (x2 + (1 : Int32)) x3 (x4 + (1 : Int32)) else (F_X11_faithfulShare_b24 G c11 n) S23 a0 (x1 + (1 : Int32)) (x2 + (0 : Int32)) x3 (x4 + (1 : Int32))))))
def F_X11_faithfulShare_b11 (G : pq_G)  : Nat → pq_N → Nat → Int32 → Int32 → Int32 → Option (UInt64 × pq_N)
  | 0, _, _, _, _, _ => none
  | n + 1, S, a0, x1, x2, x3 => (if (1 : Int32) < 0 ∨ pq_n G (pq_r G a0 0) ≤ (Int32.toNatClampNeg (1 : Int32)) then none else (if (S.1 (pq_r G a0 0) (Int32.toNatClampNeg (1 : Int32))) ≤ x3 then (if x1 = (0 : Int32) then some (FP.dconst0, S) else (if ¬ (FP.ddiv (FP.i2d x2) (FP.i2d x1) &&& 0x7fffffffffffffff ≤ 0x7ff0000000000000) then none else some ((FP.ddiv (FP.i2d x2) (FP.i2d x1)), S))) else F_X11_faithfulShare_b24 G ((F_X11_faithfulShare_b11 G n)) pq_fuel S a0 x1 x2 x3 (0 : Int32)))
def F_X11_faithfulShare (G : pq_G) (S : pq_N) (a0 : Nat) : Option (UInt64 × pq_N) := (pq_lt (pq_wi S a0 8 (0 : Int32)) fun S11 => F_X11_faithfulShare_b11 G pq_fuel S11 a0 (0 : Int32) (0 : Int32) (0 : Int32))
theorem inu_X11_faithfulShare_11 : ∀ w ∈ u_ws RX11 TX11 24, w ∈ wsX11_faithfulShare := pq_inu 38 rfl
set_option maxHeartbeats 4000000 in
set_option maxRecDepth 100000 in
theorem r_X11_faithfulShare_b24 {p : Program} {l : Launch} {e : Env} {s : State} {m : MethodId} {av : Array Value} {below : List Frame} {meth : Method} {c : Code} {D : va_G} {y : pq_Y} {G : pq_G} {r : UInt64} {S1 : pq_N} (W0 : pq_WT G) (C : pq_C p s m av c D y RX11 wsX11_faithfulShare cX11_faithfulShare 5) (hr : meth.sig.returnType = (some .double)) (hlk : meth.locks = false) {c11 : pq_N → Nat → Int32 → Int32 → Int32 → Option (UInt64 × pq_N)} (hk11 : ∀ (S : pq_N) (a0 : Nat) (x1 : Int32) (x2 : Int32) (x3 : Int32), pq_ok G 11 a0 → c11 S a0 x1 x2 x3 = some (r, S1) → pq_V p l e (headSpec wsX11_faithfulShare ({ frames := 4, cells := 0, slots := 0, locals := 100 } : Room)).room s m av below meth c 0 0 (MQ below (pq_Qd D y G s.heap.size r S1) av s 0 0 (pq_A G s.heap.size)) D y 5 (pq_A G s.heap.size) (fun _ => True) G S 11 [(0, .ref a0), (1, .int x1), (2, .int x2), (3, .int x3)] []) (n : Nat) : ∀ (S : pq_N) (a0 : Nat) (x1 : Int32) (x2 : Int32) (x3 : Int32) (x4 : Int32), pq_ok G 11 a0 → F_X11_faithfulShare_b24 G c11 n S a0 x1 x2 x3 x4 = some (r, S1) → pq_V p l e (headSpec wsX11_faithfulShare ({ frames := 4, cells := 0, slots := 0, locals := 100 } : Room)).room s m av below meth c 0 0 (MQ below (pq_Qd D y G s.heap.size r S1) av s 0 0 (pq_A G s.heap.size)) D y 5 (pq_A G s.heap.size) (fun _ => True) G S 24 [(0, .ref a0), (1, .int x1), (2, .int x2), (3, .int x3), (4, .int x4)] [] := by
  induction n with
  | zero =>
    intro S a0 x1 x2 x3 x4 k0_ h
    rw [F_X11_faithfulShare_b24.eq_1] at h; cases h
  | succ n ih =>
    intro S a0 x1 x2 x3 x4 k0_ h
    rw [F_X11_faithfulShare_b24.eq_2] at h
    refine pv_iload C 4 dX11_faithfulShare_24 rfl ?_
    refine pv_aload_n C 0 dX11_faithfulShare_26 rfl rfl ?_
    refine pv_iload_n C 3 dX11_faithfulShare_27 rfl rfl ?_
    refine pv_iconst (v := 5) C dX11_faithfulShare_28 (by decide) ?_
    obtain ⟨v18, S19, e20, h⟩ := pq_bs h
    refine pv_calliV C (ci := 11) rfl (by decide) k0_ [.int x3, .int (5 : Int32)] (fun sz => r_X11_get W0 k0_ e20 sz) (cwV 2 C.1.2.2.2.2 gX11_faithfulShare_X11_get rfl rfl rfl (by decide +kernel) ⟨Nat.le_of_ble_eq_true rfl, Nat.le_of_ble_eq_true rfl⟩) rfl rfl (Nat.le_of_ble_eq_true rfl) dX11_faithfulShare_29 ⟨Nat.le_of_ble_eq_true rfl, Nat.le_of_ble_eq_true rfl⟩ ?_
    refine pv_icmp_ge (tgt := 62) C dX11_faithfulShare_32 (by decide) (fun c21 => ?_) (fun c21 => ?_)
    · have h := pq_it c21 h
      refine pv_iinc (v := (x3 + (1 : Int32))) C 3 [(3, .int (x3 + (1 : Int32))), (0, .ref a0), (1, .int x1), (2, .int x2), (4, .int x4)] dX11_faithfulShare_62 rfl rfl (by decide) rfl ?_
      refine pv_goto (tgt := 11) C dX11_faithfulShare_65 (by decide) ?_
      refine pv_sub [1, 2, 3, 0] rfl ?_
      exact hk11 _ _ _ _ _ k0_ h
    · have h := pq_if c21 h
      refine pv_iinc (v := (x1 + (1 : Int32))) C 1 [(1, .int (x1 + (1 : Int32))), (0, .ref a0), (2, .int x2), (3, .int x3), (4, .int x4)] dX11_faithfulShare_35 rfl rfl (by decide) rfl ?_
      refine pv_iload_n C 2 dX11_faithfulShare_38 rfl rfl ?_
      refine pv_aload_n C 1 dX11_faithfulShare_39 rfl rfl ?_
      refine pv_iload_n C 3 dX11_faithfulShare_40 rfl rfl ?_
      refine pv_iload C 4 dX11_faithfulShare_41 rfl ?_
      obtain ⟨v22, S23, e24, h⟩ := pq_bs h
      refine pv_calliV C (ci := 11) rfl (by decide) k0_ [.int x3, .int x4] (fun sz => r_X11_byTable W0 k0_ e24 sz) (cwV 2 C.1.2.2.2.2 gX11_faithfulShare_X11_byTable rfl rfl rfl (by decide +kernel) ⟨Nat.le_of_ble_eq_true rfl, Nat.le_of_ble_eq_true rfl⟩) rfl rfl (Nat.le_of_ble_eq_true rfl) dX11_faithfulShare_43 ⟨Nat.le_of_ble_eq_true rfl, Nat.le_of_ble_eq_true rfl⟩ ?_
      refine pv_if_ne (tgt := 53) C dX11_faithfulShare_46 (by decide) (fun c25 => ?_) (fun c25 => ?_)
      · have h := pq_if c25 h
        refine pv_iconst (v := 0) C dX11_faithfulShare_53 (by decide) ?_
        refine pv_iadd C dX11_faithfulShare_54 ?_
        refine pv_istore_n C [(2, .int (x2 + (0 : Int32))), (1, .int (x1 + (1 : Int32))), (0, .ref a0), (3, .int x3), (4, .int x4)] dX11_faithfulShare_55 rfl (by decide) rfl ?_
        refine pv_iinc (v := (x4 + (1 : Int32))) C 4 [(4, .int (x4 + (1 : Int32))), (2, .int (x2 + (0 : Int32))), (1, .int (x1 + (1 : Int32))), (0, .ref a0), (3, .int x3)] dX11_faithfulShare_56 rfl rfl (by decide) rfl ?_
        refine pv_goto (tgt := 24) C dX11_faithfulShare_59 (by decide) ?_
        refine pv_sub [3, 2, 1, 4, 0] rfl ?_
        exact ih _ _ _ _ _ _ k0_ h
      · have h := pq_it c25 h
        refine pv_iconst (v := 1) C dX11_faithfulShare_49 (by decide) ?_
        refine pv_goto (tgt := 54) C dX11_faithfulShare_50 (by decide) ?_
        refine pv_iadd C dX11_faithfulShare_54 ?_
        refine pv_istore_n C [(2, .int (x2 + (1 : Int32))), (1, .int (x1 + (1 : Int32))), (0, .ref a0), (3, .int x3), (4, .int x4)] dX11_faithfulShare_55 rfl (by decide) rfl ?_
        refine pv_iinc (v := (x4 + (1 : Int32))) C 4 [(4, .int (x4 + (1 : Int32))), (2, .int (x2 + (1 : Int32))), (1, .int (x1 + (1 : Int32))), (0, .ref a0), (3, .int x3)] dX11_faithfulShare_56 rfl rfl (by decide) rfl ?_
        refine pv_goto (tgt := 24) C dX11_faithfulShare_59 (by decide) ?_
        refine pv_sub [3, 2, 1, 4, 0] rfl ?_
        exact ih _ _ _ _ _ _ k0_ h
set_option maxHeartbeats 4000000 in
set_option maxRecDepth 100000 in
theorem r_X11_faithfulShare_b11 {p : Program} {l : Launch} {e : Env} {s : State} {m : MethodId} {av : Array Value} {below : List Frame} {meth : Method} {c : Code} {D : va_G} {y : pq_Y} {G : pq_G} {r : UInt64} {S1 : pq_N} (W0 : pq_WT G) (C : pq_C p s m av c D y RX11 wsX11_faithfulShare cX11_faithfulShare 5) (hr : meth.sig.returnType = (some .double)) (hlk : meth.locks = false) (n : Nat) : ∀ (S : pq_N) (a0 : Nat) (x1 : Int32) (x2 : Int32) (x3 : Int32), pq_ok G 11 a0 → F_X11_faithfulShare_b11 G n S a0 x1 x2 x3 = some (r, S1) → pq_V p l e (headSpec wsX11_faithfulShare ({ frames := 4, cells := 0, slots := 0, locals := 100 } : Room)).room s m av below meth c 0 0 (MQ below (pq_Qd D y G s.heap.size r S1) av s 0 0 (pq_A G s.heap.size)) D y 5 (pq_A G s.heap.size) (fun _ => True) G S 11 [(0, .ref a0), (1, .int x1), (2, .int x2), (3, .int x3)] [] := by
  induction n with
  | zero =>
    intro S a0 x1 x2 x3 k0_ h
    rw [F_X11_faithfulShare_b11.eq_1] at h; cases h
  | succ n ih =>
    intro S a0 x1 x2 x3 k0_ h
    rw [F_X11_faithfulShare_b11.eq_2] at h
    refine pv_iload_n C 3 dX11_faithfulShare_11 rfl rfl ?_
    refine pv_aload_n C 0 dX11_faithfulShare_12 rfl rfl ?_
    have k13 := pq_wt (k := 0) W0 k0_ rfl
    refine pv_getr (T := TX11) (N := 24) C 0 inu_X11_faithfulShare_11 rfl (by decide) (by decide) (List.mem_of_getElem? (i := 2) rfl) rfl k0_ k13.1 dX11_faithfulShare_13 ?_
    refine pv_iconst (v := 1) C dX11_faithfulShare_16 (by decide) ?_
    obtain ⟨g14, h⟩ := pq_gd h
    refine pv_iaload C k13.2 g14 dX11_faithfulShare_17 ?_
    refine pv_icmp_ge (tgt := 68) C dX11_faithfulShare_18 (by decide) (fun c15 => ?_) (fun c15 => ?_)
    · have h := pq_it c15 h
      refine pv_iload_n C 1 dX11_faithfulShare_68 rfl rfl ?_
      refine pv_if_ne (tgt := 76) C dX11_faithfulShare_69 (by decide) (fun c16 => ?_) (fun c16 => ?_)
      · have h := pq_if c16 h
        refine pv_iload_n C 2 dX11_faithfulShare_76 rfl rfl ?_
        refine pv_i2d C dX11_faithfulShare_77 ?_
        refine pv_iload_n C 1 dX11_faithfulShare_78 rfl rfl ?_
        refine pv_i2d C dX11_faithfulShare_79 ?_
        obtain ⟨g17, h⟩ := pq_gd h
        refine pv_ddiv C dX11_faithfulShare_80 (by have h9 := Decidable.not_not.mp g17; exact h9) ?_
        exact pv_dret C hr hlk h dX11_faithfulShare_81
      · have h := pq_it c16 h
        refine pv_dconst0 C dX11_faithfulShare_72 ?_
        refine pv_goto (tgt := 81) C dX11_faithfulShare_73 (by decide) ?_
        exact pv_dret C hr hlk h dX11_faithfulShare_81
    · have h := pq_if c15 h
      refine pv_iconst (v := 0) C dX11_faithfulShare_21 (by decide) ?_
      refine pv_istore C [(4, .int (0 : Int32)), (0, .ref a0), (1, .int x1), (2, .int x2), (3, .int x3)] dX11_faithfulShare_22 (by decide) rfl ?_
      refine pv_sub [1, 2, 3, 4, 0] rfl ?_
      exact r_X11_faithfulShare_b24 W0 C hr hlk ih pq_fuel _ _ _ _ _ _ k0_ h
set_option maxHeartbeats 4000000 in
set_option maxRecDepth 100000 in
theorem r_X11_faithfulShare {l : Launch} {D : va_G} {y : pq_Y} {G : pq_G} (W0 : pq_WT G) {S : pq_N} {a0 : Nat} (k0_ : pq_ok G 11 a0) {r : UInt64} {S1 : pq_N} (h : F_X11_faithfulShare G S a0 = some (r, S1)) (sz : Nat) : Met l yX11_faithfulShare wsX11_faithfulShare ({ frames := 4, cells := 0, slots := 0, locals := 100 } : Room) (pq_P D y G S sz [.ref a0]) (pq_Qd D y G sz r S1) 0 0 (pq_A G sz) := by
  refine pq_enter RX11 5 (by decide) rfl rfl rfl ?_
  intro p e s m below meth c C hsz hr hlk
  subst hsz
  unfold F_X11_faithfulShare at h
  refine pv_sub (lo1 := [(0, .ref a0)]) [0] rfl ?_
  refine pv_aload_n C 0 dX11_faithfulShare_0 rfl rfl ?_
  refine pv_iconst (v := 0) C dX11_faithfulShare_1 (by decide) ?_
  refine pv_put (T := TX11) (N := 24) (ty := .int) C 8 inu_X11_faithfulShare_11 rfl (by decide) tyX11 tyX11_ok nmX11 (by decide) (List.mem_of_getElem? (i := 1) rfl) rfl k0_ rfl (by decide +kernel) rfl rfl dX11_faithfulShare_2 ?_
  refine pv_nm (fun S11 e12 => ?_)
  have h := pq_ls e12 h
  refine pv_iconst (v := 0) C dX11_faithfulShare_5 (by decide) ?_
  refine pv_istore_n C [(1, .int (0 : Int32)), (0, .ref a0)] dX11_faithfulShare_6 rfl (by decide) rfl ?_
  refine pv_iconst (v := 0) C dX11_faithfulShare_7 (by decide) ?_
  refine pv_istore_n C [(2, .int (0 : Int32)), (1, .int (0 : Int32)), (0, .ref a0)] dX11_faithfulShare_8 rfl (by decide) rfl ?_
  refine pv_iconst (v := 0) C dX11_faithfulShare_9 (by decide) ?_
  refine pv_istore_n C [(3, .int (0 : Int32)), (2, .int (0 : Int32)), (1, .int (0 : Int32)), (0, .ref a0)] dX11_faithfulShare_10 rfl (by decide) rfl ?_
  refine pv_sub [3, 2, 1, 0] rfl ?_
  exact r_X11_faithfulShare_b11 W0 C hr hlk pq_fuel _ _ _ _ _ k0_ h
def F_X11_isAhead (G : pq_G) (S : pq_N) (x0 : Int32) (x1 : Int64) (x3 : Int32) (x4 : Int64) : Option (Int32 × pq_N) := (if x3 < x0 then some ((1 : Int32), S) else (if x0 = x3 then (if (0 : Int32) ≤ (lg_cmp x1 x4) then some ((0 : Int32), S) else some ((1 : Int32), S)) else some ((0 : Int32), S)))
set_option maxHeartbeats 4000000 in
set_option maxRecDepth 100000 in
theorem r_X11_isAhead {l : Launch} {D : va_G} {y : pq_Y} {G : pq_G} (W0 : pq_WT G) {S : pq_N} {x0 : Int32} {x1 : Int64} {x3 : Int32} {x4 : Int64}  {r : Int32} {S1 : pq_N} (h : F_X11_isAhead G S x0 x1 x3 x4 = some (r, S1)) (sz : Nat) : Met l yX11_isAhead wsX11_isAhead ({ frames := 0, cells := 0, slots := 0, locals := 0 } : Room) (pq_P D y G S sz [.int x0, .long x1, .int x3, .long x4]) (pq_Qi D y G sz r S1) 0 0 (pq_A G sz) := by
  refine pq_enter RX11 6 (by decide) rfl rfl rfl ?_
  intro p e s m below meth c C hsz hr hlk
  subst hsz
  unfold F_X11_isAhead at h
  refine pv_sub (lo1 := [(0, .int x0), (1, .long x1), (3, .int x3), (4, .long x4)]) [0, 1, 2, 3] rfl ?_
  refine pv_iload_n C 0 dX11_isAhead_0 rfl rfl ?_
  refine pv_iload_n C 2 dX11_isAhead_1 rfl rfl ?_
  refine pv_icmp_gt (tgt := 17) C dX11_isAhead_2 (by decide) (fun c11 => ?_) (fun c11 => ?_)
  · have h := pq_it c11 h
    refine pv_iconst (v := 1) C dX11_isAhead_17 (by decide) ?_
    refine pv_goto (tgt := 22) C dX11_isAhead_18 (by decide) ?_
    exact pv_zret C hr rfl hlk h dX11_isAhead_22
  · have h := pq_if c11 h
    refine pv_iload_n C 0 dX11_isAhead_5 rfl rfl ?_
    refine pv_iload_n C 2 dX11_isAhead_6 rfl rfl ?_
    refine pv_icmp_ne (tgt := 21) C dX11_isAhead_7 (by decide) (fun c12 => ?_) (fun c12 => ?_)
    · have h := pq_if c12 h
      refine pv_iconst (v := 0) C dX11_isAhead_21 (by decide) ?_
      exact pv_zret C hr rfl hlk h dX11_isAhead_22
    · have h := pq_it c12 h
      refine pv_lload_n C 1 dX11_isAhead_10 rfl rfl ?_
      refine pv_lload C 3 dX11_isAhead_11 rfl ?_
      refine pv_lcmp C dX11_isAhead_13 ?_
      refine pv_if_ge (tgt := 21) C dX11_isAhead_14 (by decide) (fun c13 => ?_) (fun c13 => ?_)
      · have h := pq_it c13 h
        refine pv_iconst (v := 0) C dX11_isAhead_21 (by decide) ?_
        exact pv_zret C hr rfl hlk h dX11_isAhead_22
      · have h := pq_if c13 h
        refine pv_iconst (v := 1) C dX11_isAhead_17 (by decide) ?_
        refine pv_goto (tgt := 22) C dX11_isAhead_18 (by decide) ?_
        exact pv_zret C hr rfl hlk h dX11_isAhead_22
def F_X11_gloss_b19 (G : pq_G) (c7 : pq_N → Nat → Int32 → Option (Unit × pq_N)) : Nat → pq_N → Nat → Int32 → Int32 → Option (Unit × pq_N)
  | 0, _, _, _, _ => none
  | n + 1, S, a0, x1, x2 => (pq_bd (F_X11_get G S a0 x1 (4 : Int32)) fun v23 S24 => (if v23 ≤ x2 then c7 S24 a0 (x1 + (1 : Int32)) else (pq_bd (F_X11_word G S24 a0 x1 x2) fun v27 S28 => (pq_bd (F_X11_count G S28 a0 v27) fun _ S31 => (F_X11_gloss_b19 G c7 n) S31 a0 x1 (x2 + (1 : Int32))))))
def F_X11_gloss_b149 (G : pq_G) (c53 : pq_N → Nat → Int32 → Option (Unit × pq_N)) (S : pq_N) (a0 : Nat) (x1 : Int32) (x2 : Int64) (x4 : Int32) (x5 : Int32) : Option (Unit × pq_N) := (if x5 < 0 ∨ pq_n G (pq_r G a0 21) ≤ (Int32.toNatClampNeg x5) then none else (pq_lt (pq_wj S (pq_r G a0 21) (Int32.toNatClampNeg x5) x2) fun S56 => (if x5 < 0 ∨ pq_n G (pq_r G a0 22) ≤ (Int32.toNatClampNeg x5) then none else (pq_lt (pq_wi S56 (pq_r G a0 22) (Int32.toNatClampNeg x5) x4) fun S60 => c53 S60 a0 (x1 + (1 : Int32))))))
def F_X11_gloss_b79 (G : pq_G) (c53 : pq_N → Nat → Int32 → Option (Unit × pq_N)) : Nat → pq_N → Nat → Int32 → Int64 → Int32 → Int32 → Option (Unit × pq_N)
  | 0, _, _, _, _, _, _ => none
  | n + 1, S, a0, x1, x2, x4, x5 => (if x5 ≤ (0 : Int32) then F_X11_gloss_b149 G c53 S a0 x1 x2 x4 x5 else (if (x5 - (1 : Int32)) < 0 ∨ pq_n G (pq_r G a0 22) ≤ (Int32.toNatClampNeg (x5 - (1 : Int32))) then none else (if (x5 - (1 : Int32)) < 0 ∨ pq_n G (pq_r G a0 21) ≤ (Int32.toNatClampNeg (x5 - (1 : Int32))) then none else (pq_bd (F_X11_isAhead G S x4 x2 (S.1 (pq_r G a0 22) (Int32.toNatClampNeg (x5 - (1 : Int32)))) (S.2 (pq_r G a0 21) (Int32.toNatClampNeg (x5 - (1 : Int32))))) fun v38 S39 => (if v38 = (0 : Int32) then F_X11_gloss_b149 G c53 S39 a0 x1 x2 x4 x5 else (if (x5 - (1 : Int32)) < 0 ∨ pq_n G (pq_r G a0 21) ≤ (Int32.toNatClampNeg (x5 - (1 : Int32))) then none else (if x5 < 0 ∨ pq_n G (pq_r G a0 21) ≤ (Int32.toNatClampNeg x5) then none else (pq_lt (pq_wj S39 (pq_r G a0 21) (Int32.toNatClampNeg x5) (S39.2 (pq_r G a0 21) (Int32.toNatClampNeg (x5 - (1 : Int32))))) fun S46 => (if (x5 - (1 : Int32)) < 0 ∨ pq_n G (pq_r G a0 22) ≤ (Int32.toNatClampNeg (x5 - (1 : Int32))) then none else (if x5 < 0 ∨ pq_n G (pq_r G a0 22) ≤ (Int32.toNatClampNeg x5) then none else (pq_lt (pq_wi S46 (pq_r G a0 22) (Int32.toNatClampNeg x5) (S46.1 (pq_r G a0 22) (Int32.toNatClampNeg (x5 - (1 : Int32))))) fun S52 => (F_X11_gloss_b79 G c53 n) S52 a0 x1 x2 x4 (x5 + (-1 : Int32)))))))))))))
def F_X11_gloss_b53 (G : pq_G)  : Nat → pq_N → Nat → Int32 → Option (Unit × pq_N)
  | 0, _, _, _ => none
  | n + 1, S, a0, x1 => (if (S.1 a0 23) ≤ x1 then some ((), S) else (if x1 < 0 ∨ pq_n G (pq_r G a0 21) ≤ (Int32.toNatClampNeg x1) then none else (if x1 < 0 ∨ pq_n G (pq_r G a0 22) ≤ (Int32.toNatClampNeg x1) then none else (pq_lt (S.1 (pq_r G a0 22) (Int32.toNatClampNeg x1)) fun i21 => F_X11_gloss_b79 G ((F_X11_gloss_b53 G n)) pq_fuel S a0 x1 (S.2 (pq_r G a0 21) (Int32.toNatClampNeg x1)) i21 x1))))
def F_X11_gloss_b7 (G : pq_G)  : Nat → pq_N → Nat → Int32 → Option (Unit × pq_N)
  | 0, _, _, _ => none
  | n + 1, S, a0, x1 => (if (1 : Int32) < 0 ∨ pq_n G (pq_r G a0 0) ≤ (Int32.toNatClampNeg (1 : Int32)) then none else (if (S.1 (pq_r G a0 0) (Int32.toNatClampNeg (1 : Int32))) ≤ x1 then F_X11_gloss_b53 G pq_fuel S a0 (1 : Int32) else F_X11_gloss_b19 G ((F_X11_gloss_b7 G n)) pq_fuel S a0 x1 (0 : Int32)))
def F_X11_gloss (G : pq_G) (S : pq_N) (a0 : Nat) : Option (Unit × pq_N) := (pq_lt (pq_wi S a0 23 (0 : Int32)) fun S11 => F_X11_gloss_b7 G pq_fuel S11 a0 (0 : Int32))
theorem inu_X11_gloss_11 : ∀ w ∈ u_ws RX11 TX11 24, w ∈ wsX11_gloss := pq_inu 22 rfl
set_option maxHeartbeats 4000000 in
set_option maxRecDepth 100000 in
theorem r_X11_gloss_b19 {p : Program} {l : Launch} {e : Env} {s : State} {m : MethodId} {av : Array Value} {below : List Frame} {meth : Method} {c : Code} {D : va_G} {y : pq_Y} {G : pq_G} {S1 : pq_N} (W0 : pq_WT G) (C : pq_C p s m av c D y RX11 wsX11_gloss cX11_gloss 6) (hr : meth.sig.returnType = none) (hlk : meth.locks = false) {c7 : pq_N → Nat → Int32 → Option (Unit × pq_N)} (hk7 : ∀ (S : pq_N) (a0 : Nat) (x1 : Int32), pq_ok G 11 a0 → c7 S a0 x1 = some ((), S1) → pq_V p l e (headSpec wsX11_gloss ({ frames := 1, cells := 0, slots := 0, locals := 25 } : Room)).room s m av below meth c 0 0 (MQ below (pq_Qv D y G s.heap.size S1) av s 0 0 (pq_A G s.heap.size)) D y 6 (pq_A G s.heap.size) (fun _ => True) G S 7 [(0, .ref a0), (1, .int x1)] []) (n : Nat) : ∀ (S : pq_N) (a0 : Nat) (x1 : Int32) (x2 : Int32), pq_ok G 11 a0 → F_X11_gloss_b19 G c7 n S a0 x1 x2 = some ((), S1) → pq_V p l e (headSpec wsX11_gloss ({ frames := 1, cells := 0, slots := 0, locals := 25 } : Room)).room s m av below meth c 0 0 (MQ below (pq_Qv D y G s.heap.size S1) av s 0 0 (pq_A G s.heap.size)) D y 6 (pq_A G s.heap.size) (fun _ => True) G S 19 [(0, .ref a0), (1, .int x1), (2, .int x2)] [] := by
  induction n with
  | zero =>
    intro S a0 x1 x2 k0_ h
    rw [F_X11_gloss_b19.eq_1] at h; cases h
  | succ n ih =>
    intro S a0 x1 x2 k0_ h
    rw [F_X11_gloss_b19.eq_2] at h
    refine pv_iload_n C 2 dX11_gloss_19 rfl rfl ?_
    refine pv_aload_n C 0 dX11_gloss_20 rfl rfl ?_
    refine pv_iload_n C 1 dX11_gloss_21 rfl rfl ?_
    refine pv_iconst (v := 4) C dX11_gloss_22 (by decide) ?_
    obtain ⟨v23, S24, e25, h⟩ := pq_bs h
    refine pv_calliV C (ci := 11) rfl (by decide) k0_ [.int x1, .int (4 : Int32)] (fun sz => r_X11_get W0 k0_ e25 sz) (cwV 2 C.1.2.2.2.2 gX11_gloss_X11_get rfl rfl rfl (by decide +kernel) ⟨Nat.le_of_ble_eq_true rfl, Nat.le_of_ble_eq_true rfl⟩) rfl rfl (Nat.le_of_ble_eq_true rfl) dX11_gloss_23 ⟨Nat.le_of_ble_eq_true rfl, Nat.le_of_ble_eq_true rfl⟩ ?_
    refine pv_icmp_ge (tgt := 45) C dX11_gloss_26 (by decide) (fun c26 => ?_) (fun c26 => ?_)
    · have h := pq_it c26 h
      refine pv_iinc (v := (x1 + (1 : Int32))) C 1 [(1, .int (x1 + (1 : Int32))), (0, .ref a0), (2, .int x2)] dX11_gloss_45 rfl rfl (by decide) rfl ?_
      refine pv_goto (tgt := 7) C dX11_gloss_48 (by decide) ?_
      refine pv_sub [1, 0] rfl ?_
      exact hk7 _ _ _ k0_ h
    · have h := pq_if c26 h
      refine pv_aload_n C 0 dX11_gloss_29 rfl rfl ?_
      refine pv_aload_n C 0 dX11_gloss_30 rfl rfl ?_
      refine pv_iload_n C 1 dX11_gloss_31 rfl rfl ?_
      refine pv_iload_n C 2 dX11_gloss_32 rfl rfl ?_
      obtain ⟨v27, S28, e29, h⟩ := pq_bs h
      refine pv_calllV C (ci := 11) rfl (by decide) k0_ [.int x1, .int x2] (fun sz => r_X11_word W0 k0_ e29 sz) (cwV 2 C.1.2.2.2.2 gX11_gloss_X11_word rfl rfl rfl (by decide +kernel) ⟨Nat.le_of_ble_eq_true rfl, Nat.le_of_ble_eq_true rfl⟩) rfl rfl (Nat.le_of_ble_eq_true rfl) dX11_gloss_33 ⟨Nat.le_of_ble_eq_true rfl, Nat.le_of_ble_eq_true rfl⟩ ?_
      obtain ⟨⟨⟩, S31, e32, h⟩ := pq_bs h
      refine pv_callvV C (ci := 11) rfl (by decide) k0_ [.long v27] (fun sz => r_X11_count W0 k0_ e32 sz) (cwV 1 C.1.2.2.2.2 gX11_gloss_X11_count rfl rfl rfl (by decide +kernel) ⟨Nat.le_of_ble_eq_true rfl, Nat.le_of_ble_eq_true rfl⟩) rfl rfl (Nat.le_of_ble_eq_true rfl) dX11_gloss_36 ⟨Nat.le_of_ble_eq_true rfl, Nat.le_of_ble_eq_true rfl⟩ ?_
      refine pv_iinc (v := (x2 + (1 : Int32))) C 2 [(2, .int (x2 + (1 : Int32))), (0, .ref a0), (1, .int x1)] dX11_gloss_39 rfl rfl (by decide) rfl ?_
      refine pv_goto (tgt := 19) C dX11_gloss_42 (by decide) ?_
      refine pv_sub [1, 2, 0] rfl ?_
      exact ih _ _ _ _ k0_ h
set_option maxHeartbeats 4000000 in
set_option maxRecDepth 100000 in
theorem r_X11_gloss_b149 {p : Program} {l : Launch} {e : Env} {s : State} {m : MethodId} {av : Array Value} {below : List Frame} {meth : Method} {c : Code} {D : va_G} {y : pq_Y} {G : pq_G} {S1 : pq_N} (W0 : pq_WT G) (C : pq_C p s m av c D y RX11 wsX11_gloss cX11_gloss 6) (hr : meth.sig.returnType = none) (hlk : meth.locks = false) {c53 : pq_N → Nat → Int32 → Option (Unit × pq_N)} (hk53 : ∀ (S : pq_N) (a0 : Nat) (x1 : Int32), pq_ok G 11 a0 → c53 S a0 x1 = some ((), S1) → pq_V p l e (headSpec wsX11_gloss ({ frames := 1, cells := 0, slots := 0, locals := 25 } : Room)).room s m av below meth c 0 0 (MQ below (pq_Qv D y G s.heap.size S1) av s 0 0 (pq_A G s.heap.size)) D y 6 (pq_A G s.heap.size) (fun _ => True) G S 53 [(0, .ref a0), (1, .int x1)] []) : ∀ (S : pq_N) (a0 : Nat) (x1 : Int32) (x2 : Int64) (x4 : Int32) (x5 : Int32), pq_ok G 11 a0 → F_X11_gloss_b149 G c53 S a0 x1 x2 x4 x5 = some ((), S1) → pq_V p l e (headSpec wsX11_gloss ({ frames := 1, cells := 0, slots := 0, locals := 25 } : Room)).room s m av below meth c 0 0 (MQ below (pq_Qv D y G s.heap.size S1) av s 0 0 (pq_A G s.heap.size)) D y 6 (pq_A G s.heap.size) (fun _ => True) G S 149 [(0, .ref a0), (1, .int x1), (2, .long x2), (4, .int x4), (5, .int x5)] [] := by
  intro S a0 x1 x2 x4 x5 k0_ h
  unfold F_X11_gloss_b149 at h
  refine pv_aload_n C 0 dX11_gloss_149 rfl rfl ?_
  have k54 := pq_wt (k := 21) W0 k0_ rfl
  refine pv_getr (T := TX11) (N := 24) C 21 inu_X11_gloss_11 rfl (by decide) (by decide) (List.mem_of_getElem? (i := 3) rfl) rfl k0_ k54.1 dX11_gloss_150 ?_
  refine pv_iload C 4 dX11_gloss_153 rfl ?_
  refine pv_lload_n C 2 dX11_gloss_155 rfl rfl ?_
  obtain ⟨g55, h⟩ := pq_gd h
  refine pv_lastore C k54.2 g55 dX11_gloss_156 ?_
  refine pv_nm (fun S56 e57 => ?_)
  have h := pq_ls e57 h
  refine pv_aload_n C 0 dX11_gloss_157 rfl rfl ?_
  have k58 := pq_wt (k := 22) W0 k0_ rfl
  refine pv_getr (T := TX11) (N := 24) C 22 inu_X11_gloss_11 rfl (by decide) (by decide) (List.mem_of_getElem? (i := 4) rfl) rfl k0_ k58.1 dX11_gloss_158 ?_
  refine pv_iload C 4 dX11_gloss_161 rfl ?_
  refine pv_iload C 3 dX11_gloss_163 rfl ?_
  obtain ⟨g59, h⟩ := pq_gd h
  refine pv_iastore C k58.2 g59 dX11_gloss_165 ?_
  refine pv_nm (fun S60 e61 => ?_)
  have h := pq_ls e61 h
  refine pv_iinc (v := (x1 + (1 : Int32))) C 1 [(1, .int (x1 + (1 : Int32))), (0, .ref a0), (2, .long x2), (4, .int x4), (5, .int x5)] dX11_gloss_166 rfl rfl (by decide) rfl ?_
  refine pv_goto (tgt := 53) C dX11_gloss_169 (by decide) ?_
  refine pv_sub [1, 0] rfl ?_
  exact hk53 _ _ _ k0_ h
set_option maxHeartbeats 4000000 in
set_option maxRecDepth 100000 in
theorem r_X11_gloss_b79 {p : Program} {l : Launch} {e : Env} {s : State} {m : MethodId} {av : Array Value} {below : List Frame} {meth : Method} {c : Code} {D : va_G} {y : pq_Y} {G : pq_G} {S1 : pq_N} (W0 : pq_WT G) (C : pq_C p s m av c D y RX11 wsX11_gloss cX11_gloss 6) (hr : meth.sig.returnType = none) (hlk : meth.locks = false) {c53 : pq_N → Nat → Int32 → Option (Unit × pq_N)} (hk53 : ∀ (S : pq_N) (a0 : Nat) (x1 : Int32), pq_ok G 11 a0 → c53 S a0 x1 = some ((), S1) → pq_V p l e (headSpec wsX11_gloss ({ frames := 1, cells := 0, slots := 0, locals := 25 } : Room)).room s m av below meth c 0 0 (MQ below (pq_Qv D y G s.heap.size S1) av s 0 0 (pq_A G s.heap.size)) D y 6 (pq_A G s.heap.size) (fun _ => True) G S 53 [(0, .ref a0), (1, .int x1)] []) (n : Nat) : ∀ (S : pq_N) (a0 : Nat) (x1 : Int32) (x2 : Int64) (x4 : Int32) (x5 : Int32), pq_ok G 11 a0 → F_X11_gloss_b79 G c53 n S a0 x1 x2 x4 x5 = some ((), S1) → pq_V p l e (headSpec wsX11_gloss ({ frames := 1, cells := 0, slots := 0, locals := 25 } : Room)).room s m av below meth c 0 0 (MQ below (pq_Qv D y G s.heap.size S1) av s 0 0 (pq_A G s.heap.size)) D y 6 (pq_A G s.heap.size) (fun _ => True) G S 79 [(0, .ref a0), (1, .int x1), (2, .long x2), (4, .int x4), (5, .int x5)] [] := by
  induction n with
  | zero =>
    intro S a0 x1 x2 x4 x5 k0_ h
    rw [F_X11_gloss_b79.eq_1] at h; cases h
  | succ n ih =>
    intro S a0 x1 x2 x4 x5 k0_ h
    rw [F_X11_gloss_b79.eq_2] at h
    refine pv_iload C 4 dX11_gloss_79 rfl ?_
    refine pv_if_le (tgt := 149) C dX11_gloss_81 (by decide) (fun c33 => ?_) (fun c33 => ?_)
    · have h := pq_it c33 h
      refine pv_sub [0, 1, 2, 3, 4] rfl ?_
      exact r_X11_gloss_b149 W0 C hr hlk hk53 _ _ _ _ _ _ k0_ h
    · have h := pq_if c33 h
      refine pv_iload C 3 dX11_gloss_84 rfl ?_
      refine pv_lload_n C 2 dX11_gloss_86 rfl rfl ?_
      refine pv_aload_n C 0 dX11_gloss_87 rfl rfl ?_
      have k34 := pq_wt (k := 22) W0 k0_ rfl
      refine pv_getr (T := TX11) (N := 24) C 22 inu_X11_gloss_11 rfl (by decide) (by decide) (List.mem_of_getElem? (i := 4) rfl) rfl k0_ k34.1 dX11_gloss_88 ?_
      refine pv_iload C 4 dX11_gloss_91 rfl ?_
      refine pv_iconst (v := 1) C dX11_gloss_93 (by decide) ?_
      refine pv_isub C dX11_gloss_94 ?_
      obtain ⟨g35, h⟩ := pq_gd h
      refine pv_iaload C k34.2 g35 dX11_gloss_95 ?_
      refine pv_aload_n C 0 dX11_gloss_96 rfl rfl ?_
      have k36 := pq_wt (k := 21) W0 k0_ rfl
      refine pv_getr (T := TX11) (N := 24) C 21 inu_X11_gloss_11 rfl (by decide) (by decide) (List.mem_of_getElem? (i := 3) rfl) rfl k0_ k36.1 dX11_gloss_97 ?_
      refine pv_iload C 4 dX11_gloss_100 rfl ?_
      refine pv_iconst (v := 1) C dX11_gloss_102 (by decide) ?_
      refine pv_isub C dX11_gloss_103 ?_
      obtain ⟨g37, h⟩ := pq_gd h
      refine pv_laload C k36.2 g37 dX11_gloss_104 ?_
      obtain ⟨v38, S39, e40, h⟩ := pq_bs h
      refine pv_calliS C [.int x4, .long x2, .int (S.1 (pq_r G a0 22) (Int32.toNatClampNeg (x5 - (1 : Int32)))), .long (S.2 (pq_r G a0 21) (Int32.toNatClampNeg (x5 - (1 : Int32))))] (fun sz => r_X11_isAhead W0  e40 sz) (va_cwS 4 C.1.2.2.2.2 gX11_gloss_X11_isAhead rfl rfl rfl (by decide +kernel) ⟨Nat.le_of_ble_eq_true rfl, Nat.le_of_ble_eq_true rfl⟩) rfl rfl (Nat.le_of_ble_eq_true rfl) dX11_gloss_105 ⟨Nat.le_of_ble_eq_true rfl, Nat.le_of_ble_eq_true rfl⟩ ?_
      refine pv_if_eq (tgt := 149) C dX11_gloss_108 (by decide) (fun c41 => ?_) (fun c41 => ?_)
      · have h := pq_it c41 h
        refine pv_sub [0, 1, 2, 3, 4] rfl ?_
        exact r_X11_gloss_b149 W0 C hr hlk hk53 _ _ _ _ _ _ k0_ h
      · have h := pq_if c41 h
        refine pv_aload_n C 0 dX11_gloss_111 rfl rfl ?_
        have k42 := pq_wt (k := 21) W0 k0_ rfl
        refine pv_getr (T := TX11) (N := 24) C 21 inu_X11_gloss_11 rfl (by decide) (by decide) (List.mem_of_getElem? (i := 3) rfl) rfl k0_ k42.1 dX11_gloss_112 ?_
        refine pv_iload C 4 dX11_gloss_115 rfl ?_
        refine pv_aload_n C 0 dX11_gloss_117 rfl rfl ?_
        have k43 := pq_wt (k := 21) W0 k0_ rfl
        refine pv_getr (T := TX11) (N := 24) C 21 inu_X11_gloss_11 rfl (by decide) (by decide) (List.mem_of_getElem? (i := 3) rfl) rfl k0_ k43.1 dX11_gloss_118 ?_
        refine pv_iload C 4 dX11_gloss_121 rfl ?_
        refine pv_iconst (v := 1) C dX11_gloss_123 (by decide) ?_
        refine pv_isub C dX11_gloss_124 ?_
        obtain ⟨g44, h⟩ := pq_gd h
        refine pv_laload C k43.2 g44 dX11_gloss_125 ?_
        obtain ⟨g45, h⟩ := pq_gd h
        refine pv_lastore C k42.2 g45 dX11_gloss_126 ?_
        refine pv_nm (fun S46 e47 => ?_)
        have h := pq_ls e47 h
        refine pv_aload_n C 0 dX11_gloss_127 rfl rfl ?_
        have k48 := pq_wt (k := 22) W0 k0_ rfl
        refine pv_getr (T := TX11) (N := 24) C 22 inu_X11_gloss_11 rfl (by decide) (by decide) (List.mem_of_getElem? (i := 4) rfl) rfl k0_ k48.1 dX11_gloss_128 ?_
        refine pv_iload C 4 dX11_gloss_131 rfl ?_
        refine pv_aload_n C 0 dX11_gloss_133 rfl rfl ?_
        have k49 := pq_wt (k := 22) W0 k0_ rfl
        refine pv_getr (T := TX11) (N := 24) C 22 inu_X11_gloss_11 rfl (by decide) (by decide) (List.mem_of_getElem? (i := 4) rfl) rfl k0_ k49.1 dX11_gloss_134 ?_
        refine pv_iload C 4 dX11_gloss_137 rfl ?_
        refine pv_iconst (v := 1) C dX11_gloss_139 (by decide) ?_
        refine pv_isub C dX11_gloss_140 ?_
        obtain ⟨g50, h⟩ := pq_gd h
        refine pv_iaload C k49.2 g50 dX11_gloss_141 ?_
        obtain ⟨g51, h⟩ := pq_gd h
        refine pv_iastore C k48.2 g51 dX11_gloss_142 ?_
        refine pv_nm (fun S52 e53 => ?_)
        have h := pq_ls e53 h
        refine pv_iinc (v := (x5 + (-1 : Int32))) C 4 [(5, .int (x5 + (-1 : Int32))), (0, .ref a0), (1, .int x1), (2, .long x2), (4, .int x4)] dX11_gloss_143 rfl rfl (by decide) rfl ?_
        refine pv_goto (tgt := 79) C dX11_gloss_146 (by decide) ?_
        refine pv_sub [1, 2, 3, 4, 0] rfl ?_
        exact ih _ _ _ _ _ _ k0_ h
set_option maxHeartbeats 4000000 in
set_option maxRecDepth 100000 in
theorem r_X11_gloss_b53 {p : Program} {l : Launch} {e : Env} {s : State} {m : MethodId} {av : Array Value} {below : List Frame} {meth : Method} {c : Code} {D : va_G} {y : pq_Y} {G : pq_G} {S1 : pq_N} (W0 : pq_WT G) (C : pq_C p s m av c D y RX11 wsX11_gloss cX11_gloss 6) (hr : meth.sig.returnType = none) (hlk : meth.locks = false) (n : Nat) : ∀ (S : pq_N) (a0 : Nat) (x1 : Int32), pq_ok G 11 a0 → F_X11_gloss_b53 G n S a0 x1 = some ((), S1) → pq_V p l e (headSpec wsX11_gloss ({ frames := 1, cells := 0, slots := 0, locals := 25 } : Room)).room s m av below meth c 0 0 (MQ below (pq_Qv D y G s.heap.size S1) av s 0 0 (pq_A G s.heap.size)) D y 6 (pq_A G s.heap.size) (fun _ => True) G S 53 [(0, .ref a0), (1, .int x1)] [] := by
  induction n with
  | zero =>
    intro S a0 x1 k0_ h
    rw [F_X11_gloss_b53.eq_1] at h; cases h
  | succ n ih =>
    intro S a0 x1 k0_ h
    rw [F_X11_gloss_b53.eq_2] at h
    refine pv_iload_n C 1 dX11_gloss_53 rfl rfl ?_
    refine pv_aload_n C 0 dX11_gloss_54 rfl rfl ?_
    refine pv_geti (T := TX11) (N := 24) C 23 inu_X11_gloss_11 rfl (by decide) (by decide) (List.mem_of_getElem? (i := 1) rfl) rfl k0_ dX11_gloss_55 ?_
    refine pv_icmp_ge (tgt := 172) C dX11_gloss_58 (by decide) (fun c16 => ?_) (fun c16 => ?_)
    · have h := pq_it c16 h
      exact pv_vret C hr hlk h dX11_gloss_172
    · have h := pq_if c16 h
      refine pv_aload_n C 0 dX11_gloss_61 rfl rfl ?_
      have k17 := pq_wt (k := 21) W0 k0_ rfl
      refine pv_getr (T := TX11) (N := 24) C 21 inu_X11_gloss_11 rfl (by decide) (by decide) (List.mem_of_getElem? (i := 3) rfl) rfl k0_ k17.1 dX11_gloss_62 ?_
      refine pv_iload_n C 1 dX11_gloss_65 rfl rfl ?_
      obtain ⟨g18, h⟩ := pq_gd h
      refine pv_laload C k17.2 g18 dX11_gloss_66 ?_
      refine pv_lstore_n C [(2, .long (S.2 (pq_r G a0 21) (Int32.toNatClampNeg x1))), (0, .ref a0), (1, .int x1)] dX11_gloss_67 rfl (by decide) rfl ?_
      refine pv_aload_n C 1 dX11_gloss_68 rfl rfl ?_
      have k19 := pq_wt (k := 22) W0 k0_ rfl
      refine pv_getr (T := TX11) (N := 24) C 22 inu_X11_gloss_11 rfl (by decide) (by decide) (List.mem_of_getElem? (i := 4) rfl) rfl k0_ k19.1 dX11_gloss_69 ?_
      refine pv_iload_n C 2 dX11_gloss_72 rfl rfl ?_
      obtain ⟨g20, h⟩ := pq_gd h
      refine pv_iaload C k19.2 g20 dX11_gloss_73 ?_
      refine pv_nmi (fun i21 e22 => ?_)
      have h := pq_ls e22 h
      refine pv_istore C [(4, .int i21), (2, .long (S.2 (pq_r G a0 21) (Int32.toNatClampNeg x1))), (0, .ref a0), (1, .int x1)] dX11_gloss_74 (by decide) rfl ?_
      refine pv_iload_n C 3 dX11_gloss_76 rfl rfl ?_
      refine pv_istore C [(5, .int x1), (4, .int i21), (2, .long (S.2 (pq_r G a0 21) (Int32.toNatClampNeg x1))), (0, .ref a0), (1, .int x1)] dX11_gloss_77 (by decide) rfl ?_
      refine pv_sub [3, 4, 2, 1, 0] rfl ?_
      exact r_X11_gloss_b79 W0 C hr hlk ih pq_fuel _ _ _ _ _ _ k0_ h
set_option maxHeartbeats 4000000 in
set_option maxRecDepth 100000 in
theorem r_X11_gloss_b7 {p : Program} {l : Launch} {e : Env} {s : State} {m : MethodId} {av : Array Value} {below : List Frame} {meth : Method} {c : Code} {D : va_G} {y : pq_Y} {G : pq_G} {S1 : pq_N} (W0 : pq_WT G) (C : pq_C p s m av c D y RX11 wsX11_gloss cX11_gloss 6) (hr : meth.sig.returnType = none) (hlk : meth.locks = false) (n : Nat) : ∀ (S : pq_N) (a0 : Nat) (x1 : Int32), pq_ok G 11 a0 → F_X11_gloss_b7 G n S a0 x1 = some ((), S1) → pq_V p l e (headSpec wsX11_gloss ({ frames := 1, cells := 0, slots := 0, locals := 25 } : Room)).room s m av below meth c 0 0 (MQ below (pq_Qv D y G s.heap.size S1) av s 0 0 (pq_A G s.heap.size)) D y 6 (pq_A G s.heap.size) (fun _ => True) G S 7 [(0, .ref a0), (1, .int x1)] [] := by
  induction n with
  | zero =>
    intro S a0 x1 k0_ h
    rw [F_X11_gloss_b7.eq_1] at h; cases h
  | succ n ih =>
    intro S a0 x1 k0_ h
    rw [F_X11_gloss_b7.eq_2] at h
    refine pv_iload_n C 1 dX11_gloss_7 rfl rfl ?_
    refine pv_aload_n C 0 dX11_gloss_8 rfl rfl ?_
    have k13 := pq_wt (k := 0) W0 k0_ rfl
    refine pv_getr (T := TX11) (N := 24) C 0 inu_X11_gloss_11 rfl (by decide) (by decide) (List.mem_of_getElem? (i := 2) rfl) rfl k0_ k13.1 dX11_gloss_9 ?_
    refine pv_iconst (v := 1) C dX11_gloss_12 (by decide) ?_
    obtain ⟨g14, h⟩ := pq_gd h
    refine pv_iaload C k13.2 g14 dX11_gloss_13 ?_
    refine pv_icmp_ge (tgt := 51) C dX11_gloss_14 (by decide) (fun c15 => ?_) (fun c15 => ?_)
    · have h := pq_it c15 h
      refine pv_iconst (v := 1) C dX11_gloss_51 (by decide) ?_
      refine pv_istore_n C [(1, .int (1 : Int32)), (0, .ref a0)] dX11_gloss_52 rfl (by decide) rfl ?_
      refine pv_sub [1, 0] rfl ?_
      exact r_X11_gloss_b53 W0 C hr hlk pq_fuel _ _ _ k0_ h
    · have h := pq_if c15 h
      refine pv_iconst (v := 0) C dX11_gloss_17 (by decide) ?_
      refine pv_istore_n C [(2, .int (0 : Int32)), (0, .ref a0), (1, .int x1)] dX11_gloss_18 rfl (by decide) rfl ?_
      refine pv_sub [1, 2, 0] rfl ?_
      exact r_X11_gloss_b19 W0 C hr hlk ih pq_fuel _ _ _ _ k0_ h
set_option maxHeartbeats 4000000 in
set_option maxRecDepth 100000 in
theorem r_X11_gloss {l : Launch} {D : va_G} {y : pq_Y} {G : pq_G} (W0 : pq_WT G) {S : pq_N} {a0 : Nat} (k0_ : pq_ok G 11 a0) {S1 : pq_N} (h : F_X11_gloss G S a0 = some ((), S1)) (sz : Nat) : Met l yX11_gloss wsX11_gloss ({ frames := 1, cells := 0, slots := 0, locals := 25 } : Room) (pq_P D y G S sz [.ref a0]) (pq_Qv D y G sz S1) 0 0 (pq_A G sz) := by
  refine pq_enter RX11 6 (by decide) rfl rfl rfl ?_
  intro p e s m below meth c C hsz hr hlk
  subst hsz
  unfold F_X11_gloss at h
  refine pv_sub (lo1 := [(0, .ref a0)]) [0] rfl ?_
  refine pv_aload_n C 0 dX11_gloss_0 rfl rfl ?_
  refine pv_iconst (v := 0) C dX11_gloss_1 (by decide) ?_
  refine pv_put (T := TX11) (N := 24) (ty := .int) C 23 inu_X11_gloss_11 rfl (by decide) tyX11 tyX11_ok nmX11 (by decide) (List.mem_of_getElem? (i := 1) rfl) rfl k0_ rfl (by decide +kernel) rfl rfl dX11_gloss_2 ?_
  refine pv_nm (fun S11 e12 => ?_)
  have h := pq_ls e12 h
  refine pv_iconst (v := 0) C dX11_gloss_5 (by decide) ?_
  refine pv_istore_n C [(1, .int (0 : Int32)), (0, .ref a0)] dX11_gloss_6 rfl (by decide) rfl ?_
  refine pv_sub [1, 0] rfl ?_
  exact r_X11_gloss_b7 W0 C hr hlk pq_fuel _ _ _ k0_ h
def F_X11_glossary (G : pq_G) (S : pq_N) (a0 : Nat) : Option (Int32 × pq_N) := (pq_bd (F_X11_gloss G S a0) fun _ S12 => (pq_bd (F_X11_plain G S12 a0 (S12.1 a0 23)) fun v14 S15 => some (v14, S15)))
theorem inu_X11_glossary_11 : ∀ w ∈ u_ws RX11 TX11 24, w ∈ wsX11_glossary := pq_inu 31 rfl
set_option maxHeartbeats 4000000 in
set_option maxRecDepth 100000 in
theorem r_X11_glossary {l : Launch} {D : va_G} {y : pq_Y} {G : pq_G} (W0 : pq_WT G) {S : pq_N} {a0 : Nat} (k0_ : pq_ok G 11 a0) {r : Int32} {S1 : pq_N} (h : F_X11_glossary G S a0 = some (r, S1)) (sz : Nat) : Met l yX11_glossary wsX11_glossary ({ frames := 2, cells := 0, slots := 0, locals := 50 } : Room) (pq_P D y G S sz [.ref a0]) (pq_Qi D y G sz r S1) 0 0 (pq_A G sz) := by
  refine pq_enter RX11 1 (by decide) rfl rfl rfl ?_
  intro p e s m below meth c C hsz hr hlk
  subst hsz
  unfold F_X11_glossary at h
  refine pv_sub (lo1 := [(0, .ref a0)]) [0] rfl ?_
  refine pv_aload_n C 0 dX11_glossary_0 rfl rfl ?_
  obtain ⟨⟨⟩, S12, e13, h⟩ := pq_bs h
  refine pv_callvV C (ci := 11) rfl (by decide) k0_ [] (fun sz => r_X11_gloss W0 k0_ e13 sz) (cwV 0 C.1.2.2.2.2 gX11_glossary_X11_gloss rfl rfl rfl (by decide +kernel) ⟨Nat.le_of_ble_eq_true rfl, Nat.le_of_ble_eq_true rfl⟩) rfl rfl (Nat.le_of_ble_eq_true rfl) dX11_glossary_1 ⟨Nat.le_of_ble_eq_true rfl, Nat.le_of_ble_eq_true rfl⟩ ?_
  refine pv_aload_n C 0 dX11_glossary_4 rfl rfl ?_
  refine pv_aload_n C 0 dX11_glossary_5 rfl rfl ?_
  refine pv_geti (T := TX11) (N := 24) C 23 inu_X11_glossary_11 rfl (by decide) (by decide) (List.mem_of_getElem? (i := 1) rfl) rfl k0_ dX11_glossary_6 ?_
  obtain ⟨v14, S15, e16, h⟩ := pq_bs h
  refine pv_calliV C (ci := 11) rfl (by decide) k0_ [.int (S12.1 a0 23)] (fun sz => r_X11_plain W0 k0_ e16 sz) (cwV 1 C.1.2.2.2.2 gX11_glossary_X11_plain rfl rfl rfl (by decide +kernel) ⟨Nat.le_of_ble_eq_true rfl, Nat.le_of_ble_eq_true rfl⟩) rfl rfl (Nat.le_of_ble_eq_true rfl) dX11_glossary_9 ⟨Nat.le_of_ble_eq_true rfl, Nat.le_of_ble_eq_true rfl⟩ ?_
  exact pv_iret C hr hlk h dX11_glossary_12
def F_X11_letter_b23 (G : pq_G)  (S : pq_N) (t0 : Int32) : Option (Int32 × pq_N) := (if t0 = (0 : Int32) then some ((-1 : Int32), S) else some (((t0 + (97 : Int32)) - (1 : Int32)), S))
def F_X11_letter (G : pq_G) (S : pq_N) (x0 : Int64) (x2 : Int32) : Option (Int32 × pq_N) := (if (7 : Int32) ≤ x2 then F_X11_letter_b23 G S (0 : Int32) else F_X11_letter_b23 G S (Int64.toInt32 ((x0 >>> (Int32.toInt64 ((5 : Int32) * ((6 : Int32) - x2)) &&& 63)) &&& (31 : Int64))))
set_option maxHeartbeats 4000000 in
set_option maxRecDepth 100000 in
theorem r_X11_letter_b23 {p : Program} {l : Launch} {e : Env} {s : State} {m : MethodId} {av : Array Value} {below : List Frame} {meth : Method} {c : Code} {D : va_G} {y : pq_Y} {G : pq_G} {r : Int32} {S1 : pq_N} (W0 : pq_WT G) (C : pq_C p s m av c D y RX11 wsX11_letter cX11_letter 4) (hr : meth.sig.returnType = (some .int)) (hlk : meth.locks = false) : ∀ (S : pq_N) (t0 : Int32), F_X11_letter_b23 G S t0 = some (r, S1) → pq_V p l e (headSpec wsX11_letter ({ frames := 0, cells := 0, slots := 0, locals := 0 } : Room)).room s m av below meth c 0 0 (MQ below (pq_Qi D y G s.heap.size r S1) av s 0 0 (pq_A G s.heap.size)) D y 4 (pq_A G s.heap.size) (fun _ => True) G S 23 [] [.int t0] := by
  intro S t0  h
  unfold F_X11_letter_b23 at h
  refine pv_istore_n C [(3, .int t0)] dX11_letter_23 rfl (by decide) rfl ?_
  refine pv_iload_n C 0 dX11_letter_24 rfl rfl ?_
  refine pv_if_ne (tgt := 32) C dX11_letter_25 (by decide) (fun c12 => ?_) (fun c12 => ?_)
  · have h := pq_if c12 h
    refine pv_iload_n C 0 dX11_letter_32 rfl rfl ?_
    refine pv_bipush (v := 97) C dX11_letter_33 (by decide) ?_
    refine pv_iadd C dX11_letter_35 ?_
    refine pv_iconst (v := 1) C dX11_letter_36 (by decide) ?_
    refine pv_isub C dX11_letter_37 ?_
    exact pv_iret C hr hlk h dX11_letter_38
  · have h := pq_it c12 h
    refine pv_iconst (v := -1) C dX11_letter_28 (by decide) ?_
    refine pv_goto (tgt := 38) C dX11_letter_29 (by decide) ?_
    exact pv_iret C hr hlk h dX11_letter_38
set_option maxHeartbeats 4000000 in
set_option maxRecDepth 100000 in
theorem r_X11_letter {l : Launch} {D : va_G} {y : pq_Y} {G : pq_G} (W0 : pq_WT G) {S : pq_N} {x0 : Int64} {x2 : Int32}  {r : Int32} {S1 : pq_N} (h : F_X11_letter G S x0 x2 = some (r, S1)) (sz : Nat) : Met l yX11_letter wsX11_letter ({ frames := 0, cells := 0, slots := 0, locals := 0 } : Room) (pq_P D y G S sz [.long x0, .int x2]) (pq_Qi D y G sz r S1) 0 0 (pq_A G sz) := by
  refine pq_enter RX11 4 (by decide) rfl rfl rfl ?_
  intro p e s m below meth c C hsz hr hlk
  subst hsz
  unfold F_X11_letter at h
  refine pv_sub (lo1 := [(0, .long x0), (2, .int x2)]) [0, 1] rfl ?_
  refine pv_iload_n C 1 dX11_letter_0 rfl rfl ?_
  refine pv_bipush (v := 7) C dX11_letter_1 (by decide) ?_
  refine pv_icmp_ge (tgt := 22) C dX11_letter_3 (by decide) (fun c11 => ?_) (fun c11 => ?_)
  · have h := pq_it c11 h
    refine pv_iconst (v := 0) C dX11_letter_22 (by decide) ?_
    refine pv_sub [] rfl ?_
    exact r_X11_letter_b23 W0 C hr hlk _ _  h
  · have h := pq_if c11 h
    refine pv_lload_n C 0 dX11_letter_6 rfl rfl ?_
    refine pv_iconst (v := 5) C dX11_letter_7 (by decide) ?_
    refine pv_bipush (v := 6) C dX11_letter_8 (by decide) ?_
    refine pv_iload_n C 1 dX11_letter_10 rfl rfl ?_
    refine pv_isub C dX11_letter_11 ?_
    refine pv_imul C dX11_letter_12 ?_
    refine pv_lshr C dX11_letter_13 ?_
    refine pv_ldc2 C (List.mem_of_getElem? (i := 1) rfl) dX11_letter_14 ?_
    refine pv_land C dX11_letter_17 ?_
    refine pv_l2i C dX11_letter_18 ?_
    refine pv_goto (tgt := 23) C dX11_letter_19 (by decide) ?_
    refine pv_sub [] rfl ?_
    exact r_X11_letter_b23 W0 C hr hlk _ _  h
def F_X11_glossaryLetter_b28 (G : pq_G)  (S : pq_N) (a0 : Nat) (x1 : Int32) (x2 : Int32) (t0 : Int32) (t1 : Nat) : Option (Int32 × pq_N) := (pq_bd (F_X11_holds G S t1 t0) fun v19 S20 => (if v19 = (0 : Int32) then some ((0 : Int32), S20) else (if x1 < 0 ∨ pq_n G (pq_r G a0 21) ≤ (Int32.toNatClampNeg x1) then none else (pq_bd (F_X11_letter G S20 (S20.2 (pq_r G a0 21) (Int32.toNatClampNeg x1)) x2) fun v25 S26 => some (v25, S26)))))
def F_X11_glossaryLetter (G : pq_G) (S : pq_N) (a0 : Nat) (x1 : Int32) (x2 : Int32) : Option (Int32 × pq_N) := (pq_bd (F_X11_gloss G S a0) fun _ S12 => (pq_bd (F_X11_in G S12 x1 (0 : Int32) ((S12.1 a0 23) - (1 : Int32))) fun v14 S15 => (if v14 = (0 : Int32) then F_X11_glossaryLetter_b28 G S15 a0 x1 x2 (1 : Int32) a0 else (if x2 < (0 : Int32) then F_X11_glossaryLetter_b28 G S15 a0 x1 x2 (1 : Int32) a0 else F_X11_glossaryLetter_b28 G S15 a0 x1 x2 (0 : Int32) a0))))
theorem inu_X11_glossaryLetter_11 : ∀ w ∈ u_ws RX11 TX11 24, w ∈ wsX11_glossaryLetter := pq_inu 38 rfl
set_option maxHeartbeats 4000000 in
set_option maxRecDepth 100000 in
theorem r_X11_glossaryLetter_b28 {p : Program} {l : Launch} {e : Env} {s : State} {m : MethodId} {av : Array Value} {below : List Frame} {meth : Method} {c : Code} {D : va_G} {y : pq_Y} {G : pq_G} {r : Int32} {S1 : pq_N} (W0 : pq_WT G) (C : pq_C p s m av c D y RX11 wsX11_glossaryLetter cX11_glossaryLetter 3) (hr : meth.sig.returnType = (some .int)) (hlk : meth.locks = false) : ∀ (S : pq_N) (a0 : Nat) (x1 : Int32) (x2 : Int32) (t0 : Int32) (t1 : Nat), pq_ok G 11 a0 → pq_ok G 11 t1 → F_X11_glossaryLetter_b28 G S a0 x1 x2 t0 t1 = some (r, S1) → pq_V p l e (headSpec wsX11_glossaryLetter ({ frames := 2, cells := 0, slots := 0, locals := 50 } : Room)).room s m av below meth c 0 0 (MQ below (pq_Qi D y G s.heap.size r S1) av s 0 0 (pq_A G s.heap.size)) D y 3 (pq_A G s.heap.size) (fun _ => True) G S 28 [(0, .ref a0), (1, .int x1), (2, .int x2)] [.int t0, .ref t1] := by
  intro S a0 x1 x2 t0 t1 k0_ kt1_ h
  unfold F_X11_glossaryLetter_b28 at h
  obtain ⟨v19, S20, e21, h⟩ := pq_bs h
  refine pv_calliV C (ci := 11) rfl (by decide) kt1_ [.int t0] (fun sz => r_X11_holds W0 kt1_ e21 sz) (cwV 1 C.1.2.2.2.2 gX11_glossaryLetter_X11_holds rfl rfl rfl (by decide +kernel) ⟨Nat.le_of_ble_eq_true rfl, Nat.le_of_ble_eq_true rfl⟩) rfl rfl (Nat.le_of_ble_eq_true rfl) dX11_glossaryLetter_28 ⟨Nat.le_of_ble_eq_true rfl, Nat.le_of_ble_eq_true rfl⟩ ?_
  refine pv_if_eq (tgt := 47) C dX11_glossaryLetter_31 (by decide) (fun c22 => ?_) (fun c22 => ?_)
  · have h := pq_it c22 h
    refine pv_iconst (v := 0) C dX11_glossaryLetter_47 (by decide) ?_
    exact pv_iret C hr hlk h dX11_glossaryLetter_48
  · have h := pq_if c22 h
    refine pv_aload_n C 0 dX11_glossaryLetter_34 rfl rfl ?_
    have k23 := pq_wt (k := 21) W0 k0_ rfl
    refine pv_getr (T := TX11) (N := 24) C 21 inu_X11_glossaryLetter_11 rfl (by decide) (by decide) (List.mem_of_getElem? (i := 2) rfl) rfl k0_ k23.1 dX11_glossaryLetter_35 ?_
    refine pv_iload_n C 1 dX11_glossaryLetter_38 rfl rfl ?_
    obtain ⟨g24, h⟩ := pq_gd h
    refine pv_laload C k23.2 g24 dX11_glossaryLetter_39 ?_
    refine pv_iload_n C 2 dX11_glossaryLetter_40 rfl rfl ?_
    obtain ⟨v25, S26, e27, h⟩ := pq_bs h
    refine pv_calliS C [.long (S20.2 (pq_r G a0 21) (Int32.toNatClampNeg x1)), .int x2] (fun sz => r_X11_letter W0  e27 sz) (va_cwS 2 C.1.2.2.2.2 gX11_glossaryLetter_X11_letter rfl rfl rfl (by decide +kernel) ⟨Nat.le_of_ble_eq_true rfl, Nat.le_of_ble_eq_true rfl⟩) rfl rfl (Nat.le_of_ble_eq_true rfl) dX11_glossaryLetter_41 ⟨Nat.le_of_ble_eq_true rfl, Nat.le_of_ble_eq_true rfl⟩ ?_
    refine pv_goto (tgt := 48) C dX11_glossaryLetter_44 (by decide) ?_
    exact pv_iret C hr hlk h dX11_glossaryLetter_48
set_option maxHeartbeats 4000000 in
set_option maxRecDepth 100000 in
theorem r_X11_glossaryLetter {l : Launch} {D : va_G} {y : pq_Y} {G : pq_G} (W0 : pq_WT G) {S : pq_N} {a0 : Nat} {x1 : Int32} {x2 : Int32} (k0_ : pq_ok G 11 a0) {r : Int32} {S1 : pq_N} (h : F_X11_glossaryLetter G S a0 x1 x2 = some (r, S1)) (sz : Nat) : Met l yX11_glossaryLetter wsX11_glossaryLetter ({ frames := 2, cells := 0, slots := 0, locals := 50 } : Room) (pq_P D y G S sz [.ref a0, .int x1, .int x2]) (pq_Qi D y G sz r S1) 0 0 (pq_A G sz) := by
  refine pq_enter RX11 3 (by decide) rfl rfl rfl ?_
  intro p e s m below meth c C hsz hr hlk
  subst hsz
  unfold F_X11_glossaryLetter at h
  refine pv_sub (lo1 := [(0, .ref a0), (1, .int x1), (2, .int x2)]) [0, 1, 2] rfl ?_
  refine pv_aload_n C 0 dX11_glossaryLetter_0 rfl rfl ?_
  obtain ⟨⟨⟩, S12, e13, h⟩ := pq_bs h
  refine pv_callvV C (ci := 11) rfl (by decide) k0_ [] (fun sz => r_X11_gloss W0 k0_ e13 sz) (cwV 0 C.1.2.2.2.2 gX11_glossaryLetter_X11_gloss rfl rfl rfl (by decide +kernel) ⟨Nat.le_of_ble_eq_true rfl, Nat.le_of_ble_eq_true rfl⟩) rfl rfl (Nat.le_of_ble_eq_true rfl) dX11_glossaryLetter_1 ⟨Nat.le_of_ble_eq_true rfl, Nat.le_of_ble_eq_true rfl⟩ ?_
  refine pv_aload_n C 0 dX11_glossaryLetter_4 rfl rfl ?_
  refine pv_iload_n C 1 dX11_glossaryLetter_5 rfl rfl ?_
  refine pv_iconst (v := 0) C dX11_glossaryLetter_6 (by decide) ?_
  refine pv_aload_n C 0 dX11_glossaryLetter_7 rfl rfl ?_
  refine pv_geti (T := TX11) (N := 24) C 23 inu_X11_glossaryLetter_11 rfl (by decide) (by decide) (List.mem_of_getElem? (i := 1) rfl) rfl k0_ dX11_glossaryLetter_8 ?_
  refine pv_iconst (v := 1) C dX11_glossaryLetter_11 (by decide) ?_
  refine pv_isub C dX11_glossaryLetter_12 ?_
  obtain ⟨v14, S15, e16, h⟩ := pq_bs h
  refine pv_calliS C [.int x1, .int (0 : Int32), .int ((S12.1 a0 23) - (1 : Int32))] (fun sz => r_X11_in W0  e16 sz) (va_cwS 3 C.1.2.2.2.2 gX11_glossaryLetter_X11_in rfl rfl rfl (by decide +kernel) ⟨Nat.le_of_ble_eq_true rfl, Nat.le_of_ble_eq_true rfl⟩) rfl rfl (Nat.le_of_ble_eq_true rfl) dX11_glossaryLetter_13 ⟨Nat.le_of_ble_eq_true rfl, Nat.le_of_ble_eq_true rfl⟩ ?_
  refine pv_if_eq (tgt := 27) C dX11_glossaryLetter_16 (by decide) (fun c17 => ?_) (fun c17 => ?_)
  · have h := pq_it c17 h
    refine pv_iconst (v := 1) C dX11_glossaryLetter_27 (by decide) ?_
    refine pv_sub [0, 1, 2] rfl ?_
    exact r_X11_glossaryLetter_b28 W0 C hr hlk _ _ _ _ _ _ k0_ k0_ h
  · have h := pq_if c17 h
    refine pv_iload_n C 2 dX11_glossaryLetter_19 rfl rfl ?_
    refine pv_if_lt (tgt := 27) C dX11_glossaryLetter_20 (by decide) (fun c18 => ?_) (fun c18 => ?_)
    · have h := pq_it c18 h
      refine pv_iconst (v := 1) C dX11_glossaryLetter_27 (by decide) ?_
      refine pv_sub [0, 1, 2] rfl ?_
      exact r_X11_glossaryLetter_b28 W0 C hr hlk _ _ _ _ _ _ k0_ k0_ h
    · have h := pq_if c18 h
      refine pv_iconst (v := 0) C dX11_glossaryLetter_23 (by decide) ?_
      refine pv_goto (tgt := 28) C dX11_glossaryLetter_24 (by decide) ?_
      refine pv_sub [0, 1, 2] rfl ?_
      exact r_X11_glossaryLetter_b28 W0 C hr hlk _ _ _ _ _ _ k0_ k0_ h
def F_X11_isWord (G : pq_G) (S : pq_N) (a0 : Nat) (x1 : Int32) (x2 : Int32) : Option (Int32 × pq_N) := (pq_bd (F_X11_isPamphlet G S a0 x1) fun v11 S12 => (if v11 = (0 : Int32) then some ((0 : Int32), S12) else (pq_bd (F_X11_get G S12 a0 x1 (4 : Int32)) fun v15 S16 => (pq_bd (F_X11_in G S16 x2 (0 : Int32) (v15 - (1 : Int32))) fun v18 S19 => (if v18 = (0 : Int32) then some ((0 : Int32), S19) else some ((1 : Int32), S19))))))
set_option maxHeartbeats 4000000 in
set_option maxRecDepth 100000 in
theorem r_X11_isWord {l : Launch} {D : va_G} {y : pq_Y} {G : pq_G} (W0 : pq_WT G) {S : pq_N} {a0 : Nat} {x1 : Int32} {x2 : Int32} (k0_ : pq_ok G 11 a0) {r : Int32} {S1 : pq_N} (h : F_X11_isWord G S a0 x1 x2 = some (r, S1)) (sz : Nat) : Met l yX11_isWord wsX11_isWord ({ frames := 2, cells := 0, slots := 0, locals := 43 } : Room) (pq_P D y G S sz [.ref a0, .int x1, .int x2]) (pq_Qi D y G sz r S1) 0 0 (pq_A G sz) := by
  refine pq_enter RX11 3 (by decide) rfl rfl rfl ?_
  intro p e s m below meth c C hsz hr hlk
  subst hsz
  unfold F_X11_isWord at h
  refine pv_sub (lo1 := [(0, .ref a0), (1, .int x1), (2, .int x2)]) [0, 1, 2] rfl ?_
  refine pv_aload_n C 0 dX11_isWord_0 rfl rfl ?_
  refine pv_iload_n C 1 dX11_isWord_1 rfl rfl ?_
  obtain ⟨v11, S12, e13, h⟩ := pq_bs h
  refine pv_calliV C (ci := 11) rfl (by decide) k0_ [.int x1] (fun sz => r_X11_isPamphlet W0 k0_ e13 sz) (cwV 1 C.1.2.2.2.2 gX11_isWord_X11_isPamphlet rfl rfl rfl (by decide +kernel) ⟨Nat.le_of_ble_eq_true rfl, Nat.le_of_ble_eq_true rfl⟩) rfl rfl (Nat.le_of_ble_eq_true rfl) dX11_isWord_2 ⟨Nat.le_of_ble_eq_true rfl, Nat.le_of_ble_eq_true rfl⟩ ?_
  refine pv_if_eq (tgt := 28) C dX11_isWord_5 (by decide) (fun c14 => ?_) (fun c14 => ?_)
  · have h := pq_it c14 h
    refine pv_iconst (v := 0) C dX11_isWord_28 (by decide) ?_
    exact pv_zret C hr rfl hlk h dX11_isWord_29
  · have h := pq_if c14 h
    refine pv_iload_n C 2 dX11_isWord_8 rfl rfl ?_
    refine pv_iconst (v := 0) C dX11_isWord_9 (by decide) ?_
    refine pv_aload_n C 0 dX11_isWord_10 rfl rfl ?_
    refine pv_iload_n C 1 dX11_isWord_11 rfl rfl ?_
    refine pv_iconst (v := 4) C dX11_isWord_12 (by decide) ?_
    obtain ⟨v15, S16, e17, h⟩ := pq_bs h
    refine pv_calliV C (ci := 11) rfl (by decide) k0_ [.int x1, .int (4 : Int32)] (fun sz => r_X11_get W0 k0_ e17 sz) (cwV 2 C.1.2.2.2.2 gX11_isWord_X11_get rfl rfl rfl (by decide +kernel) ⟨Nat.le_of_ble_eq_true rfl, Nat.le_of_ble_eq_true rfl⟩) rfl rfl (Nat.le_of_ble_eq_true rfl) dX11_isWord_13 ⟨Nat.le_of_ble_eq_true rfl, Nat.le_of_ble_eq_true rfl⟩ ?_
    refine pv_iconst (v := 1) C dX11_isWord_16 (by decide) ?_
    refine pv_isub C dX11_isWord_17 ?_
    obtain ⟨v18, S19, e20, h⟩ := pq_bs h
    refine pv_calliS C [.int x2, .int (0 : Int32), .int (v15 - (1 : Int32))] (fun sz => r_X11_in W0  e20 sz) (va_cwS 3 C.1.2.2.2.2 gX11_isWord_X11_in rfl rfl rfl (by decide +kernel) ⟨Nat.le_of_ble_eq_true rfl, Nat.le_of_ble_eq_true rfl⟩) rfl rfl (Nat.le_of_ble_eq_true rfl) dX11_isWord_18 ⟨Nat.le_of_ble_eq_true rfl, Nat.le_of_ble_eq_true rfl⟩ ?_
    refine pv_if_eq (tgt := 28) C dX11_isWord_21 (by decide) (fun c21 => ?_) (fun c21 => ?_)
    · have h := pq_it c21 h
      refine pv_iconst (v := 0) C dX11_isWord_28 (by decide) ?_
      exact pv_zret C hr rfl hlk h dX11_isWord_29
    · have h := pq_if c21 h
      refine pv_iconst (v := 1) C dX11_isWord_24 (by decide) ?_
      refine pv_goto (tgt := 29) C dX11_isWord_25 (by decide) ?_
      exact pv_zret C hr rfl hlk h dX11_isWord_29
def F_X11_isSameWord_b25 (G : pq_G)  (S : pq_N) (a0 : Nat) (x1 : Int32) (x2 : Int32) (x3 : Int32) (x4 : Int32) (t0 : Int32) (t1 : Nat) : Option (Int32 × pq_N) := (pq_bd (F_X11_holds G S t1 t0) fun v19 S20 => (if v19 = (0 : Int32) then some ((0 : Int32), S20) else (pq_bd (F_X11_word G S20 a0 x1 x2) fun v23 S24 => (pq_bd (F_X11_word G S24 a0 x3 x4) fun v26 S27 => (if (lg_cmp v23 v26) = (0 : Int32) then some ((1 : Int32), S27) else some ((0 : Int32), S27))))))
def F_X11_isSameWord (G : pq_G) (S : pq_N) (a0 : Nat) (x1 : Int32) (x2 : Int32) (x3 : Int32) (x4 : Int32) : Option (Int32 × pq_N) := (pq_bd (F_X11_isWord G S a0 x1 x2) fun v11 S12 => (if v11 = (0 : Int32) then F_X11_isSameWord_b25 G S12 a0 x1 x2 x3 x4 (1 : Int32) a0 else (pq_bd (F_X11_isWord G S12 a0 x3 x4) fun v15 S16 => (if v15 = (0 : Int32) then F_X11_isSameWord_b25 G S16 a0 x1 x2 x3 x4 (1 : Int32) a0 else F_X11_isSameWord_b25 G S16 a0 x1 x2 x3 x4 (0 : Int32) a0))))
set_option maxHeartbeats 4000000 in
set_option maxRecDepth 100000 in
theorem r_X11_isSameWord_b25 {p : Program} {l : Launch} {e : Env} {s : State} {m : MethodId} {av : Array Value} {below : List Frame} {meth : Method} {c : Code} {D : va_G} {y : pq_Y} {G : pq_G} {r : Int32} {S1 : pq_N} (W0 : pq_WT G) (C : pq_C p s m av c D y RX11 wsX11_isSameWord cX11_isSameWord 5) (hr : meth.sig.returnType = (some .boolean)) (hlk : meth.locks = false) : ∀ (S : pq_N) (a0 : Nat) (x1 : Int32) (x2 : Int32) (x3 : Int32) (x4 : Int32) (t0 : Int32) (t1 : Nat), pq_ok G 11 a0 → pq_ok G 11 t1 → F_X11_isSameWord_b25 G S a0 x1 x2 x3 x4 t0 t1 = some (r, S1) → pq_V p l e (headSpec wsX11_isSameWord ({ frames := 3, cells := 0, slots := 0, locals := 65 } : Room)).room s m av below meth c 0 0 (MQ below (pq_Qi D y G s.heap.size r S1) av s 0 0 (pq_A G s.heap.size)) D y 5 (pq_A G s.heap.size) (fun _ => True) G S 25 [(0, .ref a0), (1, .int x1), (2, .int x2), (3, .int x3), (4, .int x4)] [.int t0, .ref t1] := by
  intro S a0 x1 x2 x3 x4 t0 t1 k0_ kt1_ h
  unfold F_X11_isSameWord_b25 at h
  obtain ⟨v19, S20, e21, h⟩ := pq_bs h
  refine pv_calliV C (ci := 11) rfl (by decide) kt1_ [.int t0] (fun sz => r_X11_holds W0 kt1_ e21 sz) (cwV 1 C.1.2.2.2.2 gX11_isSameWord_X11_holds rfl rfl rfl (by decide +kernel) ⟨Nat.le_of_ble_eq_true rfl, Nat.le_of_ble_eq_true rfl⟩) rfl rfl (Nat.le_of_ble_eq_true rfl) dX11_isSameWord_25 ⟨Nat.le_of_ble_eq_true rfl, Nat.le_of_ble_eq_true rfl⟩ ?_
  refine pv_if_eq (tgt := 52) C dX11_isSameWord_28 (by decide) (fun c22 => ?_) (fun c22 => ?_)
  · have h := pq_it c22 h
    refine pv_iconst (v := 0) C dX11_isSameWord_52 (by decide) ?_
    exact pv_zret C hr rfl hlk h dX11_isSameWord_53
  · have h := pq_if c22 h
    refine pv_aload_n C 0 dX11_isSameWord_31 rfl rfl ?_
    refine pv_iload_n C 1 dX11_isSameWord_32 rfl rfl ?_
    refine pv_iload_n C 2 dX11_isSameWord_33 rfl rfl ?_
    obtain ⟨v23, S24, e25, h⟩ := pq_bs h
    refine pv_calllV C (ci := 11) rfl (by decide) k0_ [.int x1, .int x2] (fun sz => r_X11_word W0 k0_ e25 sz) (cwV 2 C.1.2.2.2.2 gX11_isSameWord_X11_word rfl rfl rfl (by decide +kernel) ⟨Nat.le_of_ble_eq_true rfl, Nat.le_of_ble_eq_true rfl⟩) rfl rfl (Nat.le_of_ble_eq_true rfl) dX11_isSameWord_34 ⟨Nat.le_of_ble_eq_true rfl, Nat.le_of_ble_eq_true rfl⟩ ?_
    refine pv_aload_n C 0 dX11_isSameWord_37 rfl rfl ?_
    refine pv_iload_n C 3 dX11_isSameWord_38 rfl rfl ?_
    refine pv_iload C 4 dX11_isSameWord_39 rfl ?_
    obtain ⟨v26, S27, e28, h⟩ := pq_bs h
    refine pv_calllV C (ci := 11) rfl (by decide) k0_ [.int x3, .int x4] (fun sz => r_X11_word W0 k0_ e28 sz) (cwV 2 C.1.2.2.2.2 gX11_isSameWord_X11_word rfl rfl rfl (by decide +kernel) ⟨Nat.le_of_ble_eq_true rfl, Nat.le_of_ble_eq_true rfl⟩) rfl rfl (Nat.le_of_ble_eq_true rfl) dX11_isSameWord_41 ⟨Nat.le_of_ble_eq_true rfl, Nat.le_of_ble_eq_true rfl⟩ ?_
    refine pv_lcmp C dX11_isSameWord_44 ?_
    refine pv_if_ne (tgt := 52) C dX11_isSameWord_45 (by decide) (fun c29 => ?_) (fun c29 => ?_)
    · have h := pq_if c29 h
      refine pv_iconst (v := 0) C dX11_isSameWord_52 (by decide) ?_
      exact pv_zret C hr rfl hlk h dX11_isSameWord_53
    · have h := pq_it c29 h
      refine pv_iconst (v := 1) C dX11_isSameWord_48 (by decide) ?_
      refine pv_goto (tgt := 53) C dX11_isSameWord_49 (by decide) ?_
      exact pv_zret C hr rfl hlk h dX11_isSameWord_53
set_option maxHeartbeats 4000000 in
set_option maxRecDepth 100000 in
theorem r_X11_isSameWord {l : Launch} {D : va_G} {y : pq_Y} {G : pq_G} (W0 : pq_WT G) {S : pq_N} {a0 : Nat} {x1 : Int32} {x2 : Int32} {x3 : Int32} {x4 : Int32} (k0_ : pq_ok G 11 a0) {r : Int32} {S1 : pq_N} (h : F_X11_isSameWord G S a0 x1 x2 x3 x4 = some (r, S1)) (sz : Nat) : Met l yX11_isSameWord wsX11_isSameWord ({ frames := 3, cells := 0, slots := 0, locals := 65 } : Room) (pq_P D y G S sz [.ref a0, .int x1, .int x2, .int x3, .int x4]) (pq_Qi D y G sz r S1) 0 0 (pq_A G sz) := by
  refine pq_enter RX11 5 (by decide) rfl rfl rfl ?_
  intro p e s m below meth c C hsz hr hlk
  subst hsz
  unfold F_X11_isSameWord at h
  refine pv_sub (lo1 := [(0, .ref a0), (1, .int x1), (2, .int x2), (3, .int x3), (4, .int x4)]) [0, 1, 2, 3, 4] rfl ?_
  refine pv_aload_n C 0 dX11_isSameWord_0 rfl rfl ?_
  refine pv_aload_n C 0 dX11_isSameWord_1 rfl rfl ?_
  refine pv_iload_n C 1 dX11_isSameWord_2 rfl rfl ?_
  refine pv_iload_n C 2 dX11_isSameWord_3 rfl rfl ?_
  obtain ⟨v11, S12, e13, h⟩ := pq_bs h
  refine pv_calliV C (ci := 11) rfl (by decide) k0_ [.int x1, .int x2] (fun sz => r_X11_isWord W0 k0_ e13 sz) (cwV 2 C.1.2.2.2.2 gX11_isSameWord_X11_isWord rfl rfl rfl (by decide +kernel) ⟨Nat.le_of_ble_eq_true rfl, Nat.le_of_ble_eq_true rfl⟩) rfl rfl (Nat.le_of_ble_eq_true rfl) dX11_isSameWord_4 ⟨Nat.le_of_ble_eq_true rfl, Nat.le_of_ble_eq_true rfl⟩ ?_
  refine pv_if_eq (tgt := 24) C dX11_isSameWord_7 (by decide) (fun c14 => ?_) (fun c14 => ?_)
  · have h := pq_it c14 h
    refine pv_iconst (v := 1) C dX11_isSameWord_24 (by decide) ?_
    refine pv_sub [0, 1, 2, 3, 4] rfl ?_
    exact r_X11_isSameWord_b25 W0 C hr hlk _ _ _ _ _ _ _ _ k0_ k0_ h
  · have h := pq_if c14 h
    refine pv_aload_n C 0 dX11_isSameWord_10 rfl rfl ?_
    refine pv_iload_n C 3 dX11_isSameWord_11 rfl rfl ?_
    refine pv_iload C 4 dX11_isSameWord_12 rfl ?_
    obtain ⟨v15, S16, e17, h⟩ := pq_bs h
    refine pv_calliV C (ci := 11) rfl (by decide) k0_ [.int x3, .int x4] (fun sz => r_X11_isWord W0 k0_ e17 sz) (cwV 2 C.1.2.2.2.2 gX11_isSameWord_X11_isWord rfl rfl rfl (by decide +kernel) ⟨Nat.le_of_ble_eq_true rfl, Nat.le_of_ble_eq_true rfl⟩) rfl rfl (Nat.le_of_ble_eq_true rfl) dX11_isSameWord_14 ⟨Nat.le_of_ble_eq_true rfl, Nat.le_of_ble_eq_true rfl⟩ ?_
    refine pv_if_eq (tgt := 24) C dX11_isSameWord_17 (by decide) (fun c18 => ?_) (fun c18 => ?_)
    · have h := pq_it c18 h
      refine pv_iconst (v := 1) C dX11_isSameWord_24 (by decide) ?_
      refine pv_sub [0, 1, 2, 3, 4] rfl ?_
      exact r_X11_isSameWord_b25 W0 C hr hlk _ _ _ _ _ _ _ _ k0_ k0_ h
    · have h := pq_if c18 h
      refine pv_iconst (v := 0) C dX11_isSameWord_20 (by decide) ?_
      refine pv_goto (tgt := 25) C dX11_isSameWord_21 (by decide) ?_
      refine pv_sub [0, 1, 2, 3, 4] rfl ?_
      exact r_X11_isSameWord_b25 W0 C hr hlk _ _ _ _ _ _ _ _ k0_ k0_ h
def F_X11_keepAt_b35 (G : pq_G)  : Nat → pq_N → Nat → Int32 → Int32 → Option (Unit × pq_N)
  | 0, _, _, _, _ => none
  | n + 1, S, a0, x1, x2 => (if (1200 : Int32) ≤ x2 then some ((), S) else (if x2 < 0 ∨ pq_n G (pq_r G a0 1) ≤ (Int32.toNatClampNeg x2) then none else (if (((1200 : Int32) * x1) + x2) < 0 ∨ pq_n G (pq_r G a0 3) ≤ (Int32.toNatClampNeg (((1200 : Int32) * x1) + x2)) then none else (pq_lt (pq_wj S (pq_r G a0 3) (Int32.toNatClampNeg (((1200 : Int32) * x1) + x2)) (S.2 (pq_r G a0 1) (Int32.toNatClampNeg x2))) fun S23 => (F_X11_keepAt_b35 G n) S23 a0 x1 (x2 + (1 : Int32))))))
def F_X11_keepAt_b2 (G : pq_G)  : Nat → pq_N → Nat → Int32 → Int32 → Option (Unit × pq_N)
  | 0, _, _, _, _ => none
  | n + 1, S, a0, x1, x2 => (if (1042 : Int32) ≤ x2 then F_X11_keepAt_b35 G pq_fuel S a0 x1 (0 : Int32) else (if x2 < 0 ∨ pq_n G (pq_r G a0 0) ≤ (Int32.toNatClampNeg x2) then none else (if (((1042 : Int32) * x1) + x2) < 0 ∨ pq_n G (pq_r G a0 2) ≤ (Int32.toNatClampNeg (((1042 : Int32) * x1) + x2)) then none else (pq_lt (pq_wi S (pq_r G a0 2) (Int32.toNatClampNeg (((1042 : Int32) * x1) + x2)) (S.1 (pq_r G a0 0) (Int32.toNatClampNeg x2))) fun S16 => (F_X11_keepAt_b2 G n) S16 a0 x1 (x2 + (1 : Int32))))))
def F_X11_keepAt (G : pq_G) (S : pq_N) (a0 : Nat) (x1 : Int32) : Option (Unit × pq_N) := F_X11_keepAt_b2 G pq_fuel S a0 x1 (0 : Int32)
theorem inu_X11_keepAt_11 : ∀ w ∈ u_ws RX11 TX11 24, w ∈ wsX11_keepAt := pq_inu 5 rfl
set_option maxHeartbeats 4000000 in
set_option maxRecDepth 100000 in
theorem r_X11_keepAt_b35 {p : Program} {l : Launch} {e : Env} {s : State} {m : MethodId} {av : Array Value} {below : List Frame} {meth : Method} {c : Code} {D : va_G} {y : pq_Y} {G : pq_G} {S1 : pq_N} (W0 : pq_WT G) (C : pq_C p s m av c D y RX11 wsX11_keepAt cX11_keepAt 3) (hr : meth.sig.returnType = none) (hlk : meth.locks = false) (n : Nat) : ∀ (S : pq_N) (a0 : Nat) (x1 : Int32) (x2 : Int32), pq_ok G 11 a0 → F_X11_keepAt_b35 G n S a0 x1 x2 = some ((), S1) → pq_V p l e (headSpec wsX11_keepAt ({ frames := 0, cells := 0, slots := 0, locals := 0 } : Room)).room s m av below meth c 0 0 (MQ below (pq_Qv D y G s.heap.size S1) av s 0 0 (pq_A G s.heap.size)) D y 3 (pq_A G s.heap.size) (fun _ => True) G S 35 [(0, .ref a0), (1, .int x1), (2, .int x2)] [] := by
  induction n with
  | zero =>
    intro S a0 x1 x2 k0_ h
    rw [F_X11_keepAt_b35.eq_1] at h; cases h
  | succ n ih =>
    intro S a0 x1 x2 k0_ h
    rw [F_X11_keepAt_b35.eq_2] at h
    refine pv_iload_n C 2 dX11_keepAt_35 rfl rfl ?_
    refine pv_sipush (v := 1200) C dX11_keepAt_36 (by decide) ?_
    refine pv_icmp_ge (tgt := 66) C dX11_keepAt_39 (by decide) (fun c18 => ?_) (fun c18 => ?_)
    · have h := pq_it c18 h
      exact pv_vret C hr hlk h dX11_keepAt_66
    · have h := pq_if c18 h
      refine pv_aload_n C 0 dX11_keepAt_42 rfl rfl ?_
      have k19 := pq_wt (k := 3) W0 k0_ rfl
      refine pv_getr (T := TX11) (N := 24) C 3 inu_X11_keepAt_11 rfl (by decide) (by decide) (List.mem_of_getElem? (i := 3) rfl) rfl k0_ k19.1 dX11_keepAt_43 ?_
      refine pv_sipush (v := 1200) C dX11_keepAt_46 (by decide) ?_
      refine pv_iload_n C 1 dX11_keepAt_49 rfl rfl ?_
      refine pv_imul C dX11_keepAt_50 ?_
      refine pv_iload_n C 2 dX11_keepAt_51 rfl rfl ?_
      refine pv_iadd C dX11_keepAt_52 ?_
      refine pv_aload_n C 0 dX11_keepAt_53 rfl rfl ?_
      have k20 := pq_wt (k := 1) W0 k0_ rfl
      refine pv_getr (T := TX11) (N := 24) C 1 inu_X11_keepAt_11 rfl (by decide) (by decide) (List.mem_of_getElem? (i := 4) rfl) rfl k0_ k20.1 dX11_keepAt_54 ?_
      refine pv_iload_n C 2 dX11_keepAt_57 rfl rfl ?_
      obtain ⟨g21, h⟩ := pq_gd h
      refine pv_laload C k20.2 g21 dX11_keepAt_58 ?_
      obtain ⟨g22, h⟩ := pq_gd h
      refine pv_lastore C k19.2 g22 dX11_keepAt_59 ?_
      refine pv_nm (fun S23 e24 => ?_)
      have h := pq_ls e24 h
      refine pv_iinc (v := (x2 + (1 : Int32))) C 2 [(2, .int (x2 + (1 : Int32))), (0, .ref a0), (1, .int x1)] dX11_keepAt_60 rfl rfl (by decide) rfl ?_
      refine pv_goto (tgt := 35) C dX11_keepAt_63 (by decide) ?_
      refine pv_sub [1, 2, 0] rfl ?_
      exact ih _ _ _ _ k0_ h
set_option maxHeartbeats 4000000 in
set_option maxRecDepth 100000 in
theorem r_X11_keepAt_b2 {p : Program} {l : Launch} {e : Env} {s : State} {m : MethodId} {av : Array Value} {below : List Frame} {meth : Method} {c : Code} {D : va_G} {y : pq_Y} {G : pq_G} {S1 : pq_N} (W0 : pq_WT G) (C : pq_C p s m av c D y RX11 wsX11_keepAt cX11_keepAt 3) (hr : meth.sig.returnType = none) (hlk : meth.locks = false) (n : Nat) : ∀ (S : pq_N) (a0 : Nat) (x1 : Int32) (x2 : Int32), pq_ok G 11 a0 → F_X11_keepAt_b2 G n S a0 x1 x2 = some ((), S1) → pq_V p l e (headSpec wsX11_keepAt ({ frames := 0, cells := 0, slots := 0, locals := 0 } : Room)).room s m av below meth c 0 0 (MQ below (pq_Qv D y G s.heap.size S1) av s 0 0 (pq_A G s.heap.size)) D y 3 (pq_A G s.heap.size) (fun _ => True) G S 2 [(0, .ref a0), (1, .int x1), (2, .int x2)] [] := by
  induction n with
  | zero =>
    intro S a0 x1 x2 k0_ h
    rw [F_X11_keepAt_b2.eq_1] at h; cases h
  | succ n ih =>
    intro S a0 x1 x2 k0_ h
    rw [F_X11_keepAt_b2.eq_2] at h
    refine pv_iload_n C 2 dX11_keepAt_2 rfl rfl ?_
    refine pv_sipush (v := 1042) C dX11_keepAt_3 (by decide) ?_
    refine pv_icmp_ge (tgt := 33) C dX11_keepAt_6 (by decide) (fun c11 => ?_) (fun c11 => ?_)
    · have h := pq_it c11 h
      refine pv_iconst (v := 0) C dX11_keepAt_33 (by decide) ?_
      refine pv_istore_n C [(2, .int (0 : Int32)), (0, .ref a0), (1, .int x1)] dX11_keepAt_34 rfl (by decide) rfl ?_
      refine pv_sub [1, 2, 0] rfl ?_
      exact r_X11_keepAt_b35 W0 C hr hlk pq_fuel _ _ _ _ k0_ h
    · have h := pq_if c11 h
      refine pv_aload_n C 0 dX11_keepAt_9 rfl rfl ?_
      have k12 := pq_wt (k := 2) W0 k0_ rfl
      refine pv_getr (T := TX11) (N := 24) C 2 inu_X11_keepAt_11 rfl (by decide) (by decide) (List.mem_of_getElem? (i := 1) rfl) rfl k0_ k12.1 dX11_keepAt_10 ?_
      refine pv_sipush (v := 1042) C dX11_keepAt_13 (by decide) ?_
      refine pv_iload_n C 1 dX11_keepAt_16 rfl rfl ?_
      refine pv_imul C dX11_keepAt_17 ?_
      refine pv_iload_n C 2 dX11_keepAt_18 rfl rfl ?_
      refine pv_iadd C dX11_keepAt_19 ?_
      refine pv_aload_n C 0 dX11_keepAt_20 rfl rfl ?_
      have k13 := pq_wt (k := 0) W0 k0_ rfl
      refine pv_getr (T := TX11) (N := 24) C 0 inu_X11_keepAt_11 rfl (by decide) (by decide) (List.mem_of_getElem? (i := 2) rfl) rfl k0_ k13.1 dX11_keepAt_21 ?_
      refine pv_iload_n C 2 dX11_keepAt_24 rfl rfl ?_
      obtain ⟨g14, h⟩ := pq_gd h
      refine pv_iaload C k13.2 g14 dX11_keepAt_25 ?_
      obtain ⟨g15, h⟩ := pq_gd h
      refine pv_iastore C k12.2 g15 dX11_keepAt_26 ?_
      refine pv_nm (fun S16 e17 => ?_)
      have h := pq_ls e17 h
      refine pv_iinc (v := (x2 + (1 : Int32))) C 2 [(2, .int (x2 + (1 : Int32))), (0, .ref a0), (1, .int x1)] dX11_keepAt_27 rfl rfl (by decide) rfl ?_
      refine pv_goto (tgt := 2) C dX11_keepAt_30 (by decide) ?_
      refine pv_sub [1, 2, 0] rfl ?_
      exact ih _ _ _ _ k0_ h
set_option maxHeartbeats 4000000 in
set_option maxRecDepth 100000 in
theorem r_X11_keepAt {l : Launch} {D : va_G} {y : pq_Y} {G : pq_G} (W0 : pq_WT G) {S : pq_N} {a0 : Nat} {x1 : Int32} (k0_ : pq_ok G 11 a0) {S1 : pq_N} (h : F_X11_keepAt G S a0 x1 = some ((), S1)) (sz : Nat) : Met l yX11_keepAt wsX11_keepAt ({ frames := 0, cells := 0, slots := 0, locals := 0 } : Room) (pq_P D y G S sz [.ref a0, .int x1]) (pq_Qv D y G sz S1) 0 0 (pq_A G sz) := by
  refine pq_enter RX11 3 (by decide) rfl rfl rfl ?_
  intro p e s m below meth c C hsz hr hlk
  subst hsz
  unfold F_X11_keepAt at h
  refine pv_sub (lo1 := [(0, .ref a0), (1, .int x1)]) [0, 1] rfl ?_
  refine pv_iconst (v := 0) C dX11_keepAt_0 (by decide) ?_
  refine pv_istore_n C [(2, .int (0 : Int32)), (0, .ref a0), (1, .int x1)] dX11_keepAt_1 rfl (by decide) rfl ?_
  refine pv_sub [1, 2, 0] rfl ?_
  exact r_X11_keepAt_b2 W0 C hr hlk pq_fuel _ _ _ _ k0_ h
def F_X11_ladderOf_b18 (G : pq_G)  (S : pq_N) (a0 : Nat) (x1 : Int32) (t0 : Int32) (t1 : Nat) : Option (Int32 × pq_N) := (pq_bd (F_X11_holds G S t1 t0) fun v18 S19 => (if v18 = (0 : Int32) then some ((0 : Int32), S19) else (if x1 < 0 ∨ pq_n G (pq_r G a0 19) ≤ (Int32.toNatClampNeg x1) then none else some ((S19.1 (pq_r G a0 19) (Int32.toNatClampNeg x1)), S19))))
def F_X11_ladderOf (G : pq_G) (S : pq_N) (a0 : Nat) (x1 : Int32) : Option (Int32 × pq_N) := (pq_bd (F_X11_climb G S a0) fun _ S12 => (pq_bd (F_X11_isPamphlet G S12 a0 x1) fun v14 S15 => (if v14 = (0 : Int32) then F_X11_ladderOf_b18 G S15 a0 x1 (1 : Int32) a0 else F_X11_ladderOf_b18 G S15 a0 x1 (0 : Int32) a0)))
theorem inu_X11_ladderOf_11 : ∀ w ∈ u_ws RX11 TX11 24, w ∈ wsX11_ladderOf := pq_inu 33 rfl
set_option maxHeartbeats 4000000 in
set_option maxRecDepth 100000 in
theorem r_X11_ladderOf_b18 {p : Program} {l : Launch} {e : Env} {s : State} {m : MethodId} {av : Array Value} {below : List Frame} {meth : Method} {c : Code} {D : va_G} {y : pq_Y} {G : pq_G} {r : Int32} {S1 : pq_N} (W0 : pq_WT G) (C : pq_C p s m av c D y RX11 wsX11_ladderOf cX11_ladderOf 2) (hr : meth.sig.returnType = (some .int)) (hlk : meth.locks = false) : ∀ (S : pq_N) (a0 : Nat) (x1 : Int32) (t0 : Int32) (t1 : Nat), pq_ok G 11 a0 → pq_ok G 11 t1 → F_X11_ladderOf_b18 G S a0 x1 t0 t1 = some (r, S1) → pq_V p l e (headSpec wsX11_ladderOf ({ frames := 4, cells := 0, slots := 0, locals := 90 } : Room)).room s m av below meth c 0 0 (MQ below (pq_Qi D y G s.heap.size r S1) av s 0 0 (pq_A G s.heap.size)) D y 2 (pq_A G s.heap.size) (fun _ => True) G S 18 [(0, .ref a0), (1, .int x1)] [.int t0, .ref t1] := by
  intro S a0 x1 t0 t1 k0_ kt1_ h
  unfold F_X11_ladderOf_b18 at h
  obtain ⟨v18, S19, e20, h⟩ := pq_bs h
  refine pv_calliV C (ci := 11) rfl (by decide) kt1_ [.int t0] (fun sz => r_X11_holds W0 kt1_ e20 sz) (cwV 1 C.1.2.2.2.2 gX11_ladderOf_X11_holds rfl rfl rfl (by decide +kernel) ⟨Nat.le_of_ble_eq_true rfl, Nat.le_of_ble_eq_true rfl⟩) rfl rfl (Nat.le_of_ble_eq_true rfl) dX11_ladderOf_18 ⟨Nat.le_of_ble_eq_true rfl, Nat.le_of_ble_eq_true rfl⟩ ?_
  refine pv_if_eq (tgt := 33) C dX11_ladderOf_21 (by decide) (fun c21 => ?_) (fun c21 => ?_)
  · have h := pq_it c21 h
    refine pv_iconst (v := 0) C dX11_ladderOf_33 (by decide) ?_
    exact pv_iret C hr hlk h dX11_ladderOf_34
  · have h := pq_if c21 h
    refine pv_aload_n C 0 dX11_ladderOf_24 rfl rfl ?_
    have k22 := pq_wt (k := 19) W0 k0_ rfl
    refine pv_getr (T := TX11) (N := 24) C 19 inu_X11_ladderOf_11 rfl (by decide) (by decide) (List.mem_of_getElem? (i := 1) rfl) rfl k0_ k22.1 dX11_ladderOf_25 ?_
    refine pv_iload_n C 1 dX11_ladderOf_28 rfl rfl ?_
    obtain ⟨g23, h⟩ := pq_gd h
    refine pv_iaload C k22.2 g23 dX11_ladderOf_29 ?_
    refine pv_goto (tgt := 34) C dX11_ladderOf_30 (by decide) ?_
    exact pv_iret C hr hlk h dX11_ladderOf_34
set_option maxHeartbeats 4000000 in
set_option maxRecDepth 100000 in
theorem r_X11_ladderOf {l : Launch} {D : va_G} {y : pq_Y} {G : pq_G} (W0 : pq_WT G) {S : pq_N} {a0 : Nat} {x1 : Int32} (k0_ : pq_ok G 11 a0) {r : Int32} {S1 : pq_N} (h : F_X11_ladderOf G S a0 x1 = some (r, S1)) (sz : Nat) : Met l yX11_ladderOf wsX11_ladderOf ({ frames := 4, cells := 0, slots := 0, locals := 90 } : Room) (pq_P D y G S sz [.ref a0, .int x1]) (pq_Qi D y G sz r S1) 0 0 (pq_A G sz) := by
  refine pq_enter RX11 2 (by decide) rfl rfl rfl ?_
  intro p e s m below meth c C hsz hr hlk
  subst hsz
  unfold F_X11_ladderOf at h
  refine pv_sub (lo1 := [(0, .ref a0), (1, .int x1)]) [0, 1] rfl ?_
  refine pv_aload_n C 0 dX11_ladderOf_0 rfl rfl ?_
  obtain ⟨⟨⟩, S12, e13, h⟩ := pq_bs h
  refine pv_callvV C (ci := 11) rfl (by decide) k0_ [] (fun sz => r_X11_climb W0 k0_ e13 sz) (cwV 0 C.1.2.2.2.2 gX11_ladderOf_X11_climb rfl rfl rfl (by decide +kernel) ⟨Nat.le_of_ble_eq_true rfl, Nat.le_of_ble_eq_true rfl⟩) rfl rfl (Nat.le_of_ble_eq_true rfl) dX11_ladderOf_1 ⟨Nat.le_of_ble_eq_true rfl, Nat.le_of_ble_eq_true rfl⟩ ?_
  refine pv_aload_n C 0 dX11_ladderOf_4 rfl rfl ?_
  refine pv_aload_n C 0 dX11_ladderOf_5 rfl rfl ?_
  refine pv_iload_n C 1 dX11_ladderOf_6 rfl rfl ?_
  obtain ⟨v14, S15, e16, h⟩ := pq_bs h
  refine pv_calliV C (ci := 11) rfl (by decide) k0_ [.int x1] (fun sz => r_X11_isPamphlet W0 k0_ e16 sz) (cwV 1 C.1.2.2.2.2 gX11_ladderOf_X11_isPamphlet rfl rfl rfl (by decide +kernel) ⟨Nat.le_of_ble_eq_true rfl, Nat.le_of_ble_eq_true rfl⟩) rfl rfl (Nat.le_of_ble_eq_true rfl) dX11_ladderOf_7 ⟨Nat.le_of_ble_eq_true rfl, Nat.le_of_ble_eq_true rfl⟩ ?_
  refine pv_if_eq (tgt := 17) C dX11_ladderOf_10 (by decide) (fun c17 => ?_) (fun c17 => ?_)
  · have h := pq_it c17 h
    refine pv_iconst (v := 1) C dX11_ladderOf_17 (by decide) ?_
    refine pv_sub [0, 1] rfl ?_
    exact r_X11_ladderOf_b18 W0 C hr hlk _ _ _ _ _ k0_ k0_ h
  · have h := pq_if c17 h
    refine pv_iconst (v := 0) C dX11_ladderOf_13 (by decide) ?_
    refine pv_goto (tgt := 18) C dX11_ladderOf_14 (by decide) ?_
    refine pv_sub [0, 1] rfl ?_
    exact r_X11_ladderOf_b18 W0 C hr hlk _ _ _ _ _ k0_ k0_ h
def F_X11_laddersOf_b18 (G : pq_G)  (S : pq_N) (a0 : Nat) (x1 : Int32) (t0 : Int32) (t1 : Nat) : Option (Int32 × pq_N) := (pq_bd (F_X11_holds G S t1 t0) fun v18 S19 => (if v18 = (0 : Int32) then some ((0 : Int32), S19) else (if x1 < 0 ∨ pq_n G (pq_r G a0 20) ≤ (Int32.toNatClampNeg x1) then none else some ((S19.1 (pq_r G a0 20) (Int32.toNatClampNeg x1)), S19))))
def F_X11_laddersOf (G : pq_G) (S : pq_N) (a0 : Nat) (x1 : Int32) : Option (Int32 × pq_N) := (pq_bd (F_X11_climb G S a0) fun _ S12 => (pq_bd (F_X11_isPamphlet G S12 a0 x1) fun v14 S15 => (if v14 = (0 : Int32) then F_X11_laddersOf_b18 G S15 a0 x1 (1 : Int32) a0 else F_X11_laddersOf_b18 G S15 a0 x1 (0 : Int32) a0)))
theorem inu_X11_laddersOf_11 : ∀ w ∈ u_ws RX11 TX11 24, w ∈ wsX11_laddersOf := pq_inu 33 rfl
set_option maxHeartbeats 4000000 in
set_option maxRecDepth 100000 in
theorem r_X11_laddersOf_b18 {p : Program} {l : Launch} {e : Env} {s : State} {m : MethodId} {av : Array Value} {below : List Frame} {meth : Method} {c : Code} {D : va_G} {y : pq_Y} {G : pq_G} {r : Int32} {S1 : pq_N} (W0 : pq_WT G) (C : pq_C p s m av c D y RX11 wsX11_laddersOf cX11_laddersOf 2) (hr : meth.sig.returnType = (some .int)) (hlk : meth.locks = false) : ∀ (S : pq_N) (a0 : Nat) (x1 : Int32) (t0 : Int32) (t1 : Nat), pq_ok G 11 a0 → pq_ok G 11 t1 → F_X11_laddersOf_b18 G S a0 x1 t0 t1 = some (r, S1) → pq_V p l e (headSpec wsX11_laddersOf ({ frames := 4, cells := 0, slots := 0, locals := 90 } : Room)).room s m av below meth c 0 0 (MQ below (pq_Qi D y G s.heap.size r S1) av s 0 0 (pq_A G s.heap.size)) D y 2 (pq_A G s.heap.size) (fun _ => True) G S 18 [(0, .ref a0), (1, .int x1)] [.int t0, .ref t1] := by
  intro S a0 x1 t0 t1 k0_ kt1_ h
  unfold F_X11_laddersOf_b18 at h
  obtain ⟨v18, S19, e20, h⟩ := pq_bs h
  refine pv_calliV C (ci := 11) rfl (by decide) kt1_ [.int t0] (fun sz => r_X11_holds W0 kt1_ e20 sz) (cwV 1 C.1.2.2.2.2 gX11_laddersOf_X11_holds rfl rfl rfl (by decide +kernel) ⟨Nat.le_of_ble_eq_true rfl, Nat.le_of_ble_eq_true rfl⟩) rfl rfl (Nat.le_of_ble_eq_true rfl) dX11_laddersOf_18 ⟨Nat.le_of_ble_eq_true rfl, Nat.le_of_ble_eq_true rfl⟩ ?_
  refine pv_if_eq (tgt := 33) C dX11_laddersOf_21 (by decide) (fun c21 => ?_) (fun c21 => ?_)
  · have h := pq_it c21 h
    refine pv_iconst (v := 0) C dX11_laddersOf_33 (by decide) ?_
    exact pv_iret C hr hlk h dX11_laddersOf_34
  · have h := pq_if c21 h
    refine pv_aload_n C 0 dX11_laddersOf_24 rfl rfl ?_
    have k22 := pq_wt (k := 20) W0 k0_ rfl
    refine pv_getr (T := TX11) (N := 24) C 20 inu_X11_laddersOf_11 rfl (by decide) (by decide) (List.mem_of_getElem? (i := 1) rfl) rfl k0_ k22.1 dX11_laddersOf_25 ?_
    refine pv_iload_n C 1 dX11_laddersOf_28 rfl rfl ?_
    obtain ⟨g23, h⟩ := pq_gd h
    refine pv_iaload C k22.2 g23 dX11_laddersOf_29 ?_
    refine pv_goto (tgt := 34) C dX11_laddersOf_30 (by decide) ?_
    exact pv_iret C hr hlk h dX11_laddersOf_34
set_option maxHeartbeats 4000000 in
set_option maxRecDepth 100000 in
theorem r_X11_laddersOf {l : Launch} {D : va_G} {y : pq_Y} {G : pq_G} (W0 : pq_WT G) {S : pq_N} {a0 : Nat} {x1 : Int32} (k0_ : pq_ok G 11 a0) {r : Int32} {S1 : pq_N} (h : F_X11_laddersOf G S a0 x1 = some (r, S1)) (sz : Nat) : Met l yX11_laddersOf wsX11_laddersOf ({ frames := 4, cells := 0, slots := 0, locals := 90 } : Room) (pq_P D y G S sz [.ref a0, .int x1]) (pq_Qi D y G sz r S1) 0 0 (pq_A G sz) := by
  refine pq_enter RX11 2 (by decide) rfl rfl rfl ?_
  intro p e s m below meth c C hsz hr hlk
  subst hsz
  unfold F_X11_laddersOf at h
  refine pv_sub (lo1 := [(0, .ref a0), (1, .int x1)]) [0, 1] rfl ?_
  refine pv_aload_n C 0 dX11_laddersOf_0 rfl rfl ?_
  obtain ⟨⟨⟩, S12, e13, h⟩ := pq_bs h
  refine pv_callvV C (ci := 11) rfl (by decide) k0_ [] (fun sz => r_X11_climb W0 k0_ e13 sz) (cwV 0 C.1.2.2.2.2 gX11_laddersOf_X11_climb rfl rfl rfl (by decide +kernel) ⟨Nat.le_of_ble_eq_true rfl, Nat.le_of_ble_eq_true rfl⟩) rfl rfl (Nat.le_of_ble_eq_true rfl) dX11_laddersOf_1 ⟨Nat.le_of_ble_eq_true rfl, Nat.le_of_ble_eq_true rfl⟩ ?_
  refine pv_aload_n C 0 dX11_laddersOf_4 rfl rfl ?_
  refine pv_aload_n C 0 dX11_laddersOf_5 rfl rfl ?_
  refine pv_iload_n C 1 dX11_laddersOf_6 rfl rfl ?_
  obtain ⟨v14, S15, e16, h⟩ := pq_bs h
  refine pv_calliV C (ci := 11) rfl (by decide) k0_ [.int x1] (fun sz => r_X11_isPamphlet W0 k0_ e16 sz) (cwV 1 C.1.2.2.2.2 gX11_laddersOf_X11_isPamphlet rfl rfl rfl (by decide +kernel) ⟨Nat.le_of_ble_eq_true rfl, Nat.le_of_ble_eq_true rfl⟩) rfl rfl (Nat.le_of_ble_eq_true rfl) dX11_laddersOf_7 ⟨Nat.le_of_ble_eq_true rfl, Nat.le_of_ble_eq_true rfl⟩ ?_
  refine pv_if_eq (tgt := 17) C dX11_laddersOf_10 (by decide) (fun c17 => ?_) (fun c17 => ?_)
  · have h := pq_it c17 h
    refine pv_iconst (v := 1) C dX11_laddersOf_17 (by decide) ?_
    refine pv_sub [0, 1] rfl ?_
    exact r_X11_laddersOf_b18 W0 C hr hlk _ _ _ _ _ k0_ k0_ h
  · have h := pq_if c17 h
    refine pv_iconst (v := 0) C dX11_laddersOf_13 (by decide) ?_
    refine pv_goto (tgt := 18) C dX11_laddersOf_14 (by decide) ?_
    refine pv_sub [0, 1] rfl ?_
    exact r_X11_laddersOf_b18 W0 C hr hlk _ _ _ _ _ k0_ k0_ h
def F_X11_lengthOf (G : pq_G) (S : pq_N) (a0 : Nat) (x1 : Int32) (x2 : Int32) : Option (Int32 × pq_N) := (pq_bd (F_X11_isTold G S a0 x1 x2) fun v11 S12 => (if v11 = (0 : Int32) then some ((0 : Int32), S12) else (pq_bd (F_X11_size G S12 a0 x1 x2) fun v15 S16 => some (v15, S16))))
set_option maxHeartbeats 4000000 in
set_option maxRecDepth 100000 in
theorem r_X11_lengthOf {l : Launch} {D : va_G} {y : pq_Y} {G : pq_G} (W0 : pq_WT G) {S : pq_N} {a0 : Nat} {x1 : Int32} {x2 : Int32} (k0_ : pq_ok G 11 a0) {r : Int32} {S1 : pq_N} (h : F_X11_lengthOf G S a0 x1 x2 = some (r, S1)) (sz : Nat) : Met l yX11_lengthOf wsX11_lengthOf ({ frames := 4, cells := 0, slots := 0, locals := 87 } : Room) (pq_P D y G S sz [.ref a0, .int x1, .int x2]) (pq_Qi D y G sz r S1) 0 0 (pq_A G sz) := by
  refine pq_enter RX11 3 (by decide) rfl rfl rfl ?_
  intro p e s m below meth c C hsz hr hlk
  subst hsz
  unfold F_X11_lengthOf at h
  refine pv_sub (lo1 := [(0, .ref a0), (1, .int x1), (2, .int x2)]) [0, 1, 2] rfl ?_
  refine pv_aload_n C 0 dX11_lengthOf_0 rfl rfl ?_
  refine pv_iload_n C 1 dX11_lengthOf_1 rfl rfl ?_
  refine pv_iload_n C 2 dX11_lengthOf_2 rfl rfl ?_
  obtain ⟨v11, S12, e13, h⟩ := pq_bs h
  refine pv_calliV C (ci := 11) rfl (by decide) k0_ [.int x1, .int x2] (fun sz => r_X11_isTold W0 k0_ e13 sz) (cwV 2 C.1.2.2.2.2 gX11_lengthOf_X11_isTold rfl rfl rfl (by decide +kernel) ⟨Nat.le_of_ble_eq_true rfl, Nat.le_of_ble_eq_true rfl⟩) rfl rfl (Nat.le_of_ble_eq_true rfl) dX11_lengthOf_3 ⟨Nat.le_of_ble_eq_true rfl, Nat.le_of_ble_eq_true rfl⟩ ?_
  refine pv_if_eq (tgt := 18) C dX11_lengthOf_6 (by decide) (fun c14 => ?_) (fun c14 => ?_)
  · have h := pq_it c14 h
    refine pv_iconst (v := 0) C dX11_lengthOf_18 (by decide) ?_
    exact pv_iret C hr hlk h dX11_lengthOf_19
  · have h := pq_if c14 h
    refine pv_aload_n C 0 dX11_lengthOf_9 rfl rfl ?_
    refine pv_iload_n C 1 dX11_lengthOf_10 rfl rfl ?_
    refine pv_iload_n C 2 dX11_lengthOf_11 rfl rfl ?_
    obtain ⟨v15, S16, e17, h⟩ := pq_bs h
    refine pv_calliV C (ci := 11) rfl (by decide) k0_ [.int x1, .int x2] (fun sz => r_X11_size W0 k0_ e17 sz) (cwV 2 C.1.2.2.2.2 gX11_lengthOf_X11_size rfl rfl rfl (by decide +kernel) ⟨Nat.le_of_ble_eq_true rfl, Nat.le_of_ble_eq_true rfl⟩) rfl rfl (Nat.le_of_ble_eq_true rfl) dX11_lengthOf_12 ⟨Nat.le_of_ble_eq_true rfl, Nat.le_of_ble_eq_true rfl⟩ ?_
    refine pv_goto (tgt := 19) C dX11_lengthOf_15 (by decide) ?_
    exact pv_iret C hr hlk h dX11_lengthOf_19
def F_X11_letterOf_b19 (G : pq_G)  (S : pq_N) (a0 : Nat) (x1 : Int32) (x2 : Int32) (x3 : Int32) (t0 : Int32) (t1 : Nat) : Option (Int32 × pq_N) := (pq_bd (F_X11_holds G S t1 t0) fun v16 S17 => (if v16 = (0 : Int32) then some ((0 : Int32), S17) else (pq_bd (F_X11_word G S17 a0 x1 x2) fun v20 S21 => (pq_bd (F_X11_letter G S21 v20 x3) fun v23 S24 => some (v23, S24)))))
def F_X11_letterOf (G : pq_G) (S : pq_N) (a0 : Nat) (x1 : Int32) (x2 : Int32) (x3 : Int32) : Option (Int32 × pq_N) := (pq_bd (F_X11_isWord G S a0 x1 x2) fun v11 S12 => (if v11 = (0 : Int32) then F_X11_letterOf_b19 G S12 a0 x1 x2 x3 (1 : Int32) a0 else (if x3 < (0 : Int32) then F_X11_letterOf_b19 G S12 a0 x1 x2 x3 (1 : Int32) a0 else F_X11_letterOf_b19 G S12 a0 x1 x2 x3 (0 : Int32) a0)))
set_option maxHeartbeats 4000000 in
set_option maxRecDepth 100000 in
theorem r_X11_letterOf_b19 {p : Program} {l : Launch} {e : Env} {s : State} {m : MethodId} {av : Array Value} {below : List Frame} {meth : Method} {c : Code} {D : va_G} {y : pq_Y} {G : pq_G} {r : Int32} {S1 : pq_N} (W0 : pq_WT G) (C : pq_C p s m av c D y RX11 wsX11_letterOf cX11_letterOf 4) (hr : meth.sig.returnType = (some .int)) (hlk : meth.locks = false) : ∀ (S : pq_N) (a0 : Nat) (x1 : Int32) (x2 : Int32) (x3 : Int32) (t0 : Int32) (t1 : Nat), pq_ok G 11 a0 → pq_ok G 11 t1 → F_X11_letterOf_b19 G S a0 x1 x2 x3 t0 t1 = some (r, S1) → pq_V p l e (headSpec wsX11_letterOf ({ frames := 3, cells := 0, slots := 0, locals := 65 } : Room)).room s m av below meth c 0 0 (MQ below (pq_Qi D y G s.heap.size r S1) av s 0 0 (pq_A G s.heap.size)) D y 4 (pq_A G s.heap.size) (fun _ => True) G S 19 [(0, .ref a0), (1, .int x1), (2, .int x2), (3, .int x3)] [.int t0, .ref t1] := by
  intro S a0 x1 x2 x3 t0 t1 k0_ kt1_ h
  unfold F_X11_letterOf_b19 at h
  obtain ⟨v16, S17, e18, h⟩ := pq_bs h
  refine pv_calliV C (ci := 11) rfl (by decide) kt1_ [.int t0] (fun sz => r_X11_holds W0 kt1_ e18 sz) (cwV 1 C.1.2.2.2.2 gX11_letterOf_X11_holds rfl rfl rfl (by decide +kernel) ⟨Nat.le_of_ble_eq_true rfl, Nat.le_of_ble_eq_true rfl⟩) rfl rfl (Nat.le_of_ble_eq_true rfl) dX11_letterOf_19 ⟨Nat.le_of_ble_eq_true rfl, Nat.le_of_ble_eq_true rfl⟩ ?_
  refine pv_if_eq (tgt := 38) C dX11_letterOf_22 (by decide) (fun c19 => ?_) (fun c19 => ?_)
  · have h := pq_it c19 h
    refine pv_iconst (v := 0) C dX11_letterOf_38 (by decide) ?_
    exact pv_iret C hr hlk h dX11_letterOf_39
  · have h := pq_if c19 h
    refine pv_aload_n C 0 dX11_letterOf_25 rfl rfl ?_
    refine pv_iload_n C 1 dX11_letterOf_26 rfl rfl ?_
    refine pv_iload_n C 2 dX11_letterOf_27 rfl rfl ?_
    obtain ⟨v20, S21, e22, h⟩ := pq_bs h
    refine pv_calllV C (ci := 11) rfl (by decide) k0_ [.int x1, .int x2] (fun sz => r_X11_word W0 k0_ e22 sz) (cwV 2 C.1.2.2.2.2 gX11_letterOf_X11_word rfl rfl rfl (by decide +kernel) ⟨Nat.le_of_ble_eq_true rfl, Nat.le_of_ble_eq_true rfl⟩) rfl rfl (Nat.le_of_ble_eq_true rfl) dX11_letterOf_28 ⟨Nat.le_of_ble_eq_true rfl, Nat.le_of_ble_eq_true rfl⟩ ?_
    refine pv_iload_n C 3 dX11_letterOf_31 rfl rfl ?_
    obtain ⟨v23, S24, e25, h⟩ := pq_bs h
    refine pv_calliS C [.long v20, .int x3] (fun sz => r_X11_letter W0  e25 sz) (va_cwS 2 C.1.2.2.2.2 gX11_letterOf_X11_letter rfl rfl rfl (by decide +kernel) ⟨Nat.le_of_ble_eq_true rfl, Nat.le_of_ble_eq_true rfl⟩) rfl rfl (Nat.le_of_ble_eq_true rfl) dX11_letterOf_32 ⟨Nat.le_of_ble_eq_true rfl, Nat.le_of_ble_eq_true rfl⟩ ?_
    refine pv_goto (tgt := 39) C dX11_letterOf_35 (by decide) ?_
    exact pv_iret C hr hlk h dX11_letterOf_39
set_option maxHeartbeats 4000000 in
set_option maxRecDepth 100000 in
theorem r_X11_letterOf {l : Launch} {D : va_G} {y : pq_Y} {G : pq_G} (W0 : pq_WT G) {S : pq_N} {a0 : Nat} {x1 : Int32} {x2 : Int32} {x3 : Int32} (k0_ : pq_ok G 11 a0) {r : Int32} {S1 : pq_N} (h : F_X11_letterOf G S a0 x1 x2 x3 = some (r, S1)) (sz : Nat) : Met l yX11_letterOf wsX11_letterOf ({ frames := 3, cells := 0, slots := 0, locals := 65 } : Room) (pq_P D y G S sz [.ref a0, .int x1, .int x2, .int x3]) (pq_Qi D y G sz r S1) 0 0 (pq_A G sz) := by
  refine pq_enter RX11 4 (by decide) rfl rfl rfl ?_
  intro p e s m below meth c C hsz hr hlk
  subst hsz
  unfold F_X11_letterOf at h
  refine pv_sub (lo1 := [(0, .ref a0), (1, .int x1), (2, .int x2), (3, .int x3)]) [0, 1, 2, 3] rfl ?_
  refine pv_aload_n C 0 dX11_letterOf_0 rfl rfl ?_
  refine pv_aload_n C 0 dX11_letterOf_1 rfl rfl ?_
  refine pv_iload_n C 1 dX11_letterOf_2 rfl rfl ?_
  refine pv_iload_n C 2 dX11_letterOf_3 rfl rfl ?_
  obtain ⟨v11, S12, e13, h⟩ := pq_bs h
  refine pv_calliV C (ci := 11) rfl (by decide) k0_ [.int x1, .int x2] (fun sz => r_X11_isWord W0 k0_ e13 sz) (cwV 2 C.1.2.2.2.2 gX11_letterOf_X11_isWord rfl rfl rfl (by decide +kernel) ⟨Nat.le_of_ble_eq_true rfl, Nat.le_of_ble_eq_true rfl⟩) rfl rfl (Nat.le_of_ble_eq_true rfl) dX11_letterOf_4 ⟨Nat.le_of_ble_eq_true rfl, Nat.le_of_ble_eq_true rfl⟩ ?_
  refine pv_if_eq (tgt := 18) C dX11_letterOf_7 (by decide) (fun c14 => ?_) (fun c14 => ?_)
  · have h := pq_it c14 h
    refine pv_iconst (v := 1) C dX11_letterOf_18 (by decide) ?_
    refine pv_sub [0, 1, 2, 3] rfl ?_
    exact r_X11_letterOf_b19 W0 C hr hlk _ _ _ _ _ _ _ k0_ k0_ h
  · have h := pq_if c14 h
    refine pv_iload_n C 3 dX11_letterOf_10 rfl rfl ?_
    refine pv_if_lt (tgt := 18) C dX11_letterOf_11 (by decide) (fun c15 => ?_) (fun c15 => ?_)
    · have h := pq_it c15 h
      refine pv_iconst (v := 1) C dX11_letterOf_18 (by decide) ?_
      refine pv_sub [0, 1, 2, 3] rfl ?_
      exact r_X11_letterOf_b19 W0 C hr hlk _ _ _ _ _ _ _ k0_ k0_ h
    · have h := pq_if c15 h
      refine pv_iconst (v := 0) C dX11_letterOf_14 (by decide) ?_
      refine pv_goto (tgt := 19) C dX11_letterOf_15 (by decide) ?_
      refine pv_sub [0, 1, 2, 3] rfl ?_
      exact r_X11_letterOf_b19 W0 C hr hlk _ _ _ _ _ _ _ k0_ k0_ h
def F_X11_many_b4 (G : pq_G)  : Nat → pq_N → Int32 → Int32 → Int32 → Option (Int32 × pq_N)
  | 0, _, _, _, _ => none
  | n + 1, S, x0, x1, x2 => (if (20 : Int32) ≤ x2 then some (x1, S) else (pq_lt (x1 + ((x0 >>> (x2 &&& 31)) &&& (1 : Int32))) fun i12 => (F_X11_many_b4 G n) S x0 i12 (x2 + (1 : Int32))))
def F_X11_many (G : pq_G) (S : pq_N) (x0 : Int32) : Option (Int32 × pq_N) := F_X11_many_b4 G pq_fuel S x0 (0 : Int32) (0 : Int32)
set_option maxHeartbeats 4000000 in
set_option maxRecDepth 100000 in
theorem r_X11_many_b4 {p : Program} {l : Launch} {e : Env} {s : State} {m : MethodId} {av : Array Value} {below : List Frame} {meth : Method} {c : Code} {D : va_G} {y : pq_Y} {G : pq_G} {r : Int32} {S1 : pq_N} (W0 : pq_WT G) (C : pq_C p s m av c D y RX11 wsX11_many cX11_many 3) (hr : meth.sig.returnType = (some .int)) (hlk : meth.locks = false) (n : Nat) : ∀ (S : pq_N) (x0 : Int32) (x1 : Int32) (x2 : Int32), F_X11_many_b4 G n S x0 x1 x2 = some (r, S1) → pq_V p l e (headSpec wsX11_many ({ frames := 0, cells := 0, slots := 0, locals := 0 } : Room)).room s m av below meth c 0 0 (MQ below (pq_Qi D y G s.heap.size r S1) av s 0 0 (pq_A G s.heap.size)) D y 3 (pq_A G s.heap.size) (fun _ => True) G S 4 [(0, .int x0), (1, .int x1), (2, .int x2)] [] := by
  induction n with
  | zero =>
    intro S x0 x1 x2  h
    rw [F_X11_many_b4.eq_1] at h; cases h
  | succ n ih =>
    intro S x0 x1 x2  h
    rw [F_X11_many_b4.eq_2] at h
    refine pv_iload_n C 2 dX11_many_4 rfl rfl ?_
    refine pv_bipush (v := 20) C dX11_many_5 (by decide) ?_
    refine pv_icmp_ge (tgt := 24) C dX11_many_7 (by decide) (fun c11 => ?_) (fun c11 => ?_)
    · have h := pq_it c11 h
      refine pv_iload_n C 1 dX11_many_24 rfl rfl ?_
      exact pv_iret C hr hlk h dX11_many_25
    · have h := pq_if c11 h
      refine pv_iload_n C 1 dX11_many_10 rfl rfl ?_
      refine pv_iload_n C 0 dX11_many_11 rfl rfl ?_
      refine pv_iload_n C 2 dX11_many_12 rfl rfl ?_
      refine pv_ishr C dX11_many_13 ?_
      refine pv_iconst (v := 1) C dX11_many_14 (by decide) ?_
      refine pv_iand C dX11_many_15 ?_
      refine pv_iadd C dX11_many_16 ?_
      refine pv_nmi (fun i12 e13 => ?_)
      have h := pq_ls e13 h
      refine pv_istore_n C [(1, .int i12), (0, .int x0), (2, .int x2)] dX11_many_17 rfl (by decide) rfl ?_
      refine pv_iinc (v := (x2 + (1 : Int32))) C 2 [(2, .int (x2 + (1 : Int32))), (1, .int i12), (0, .int x0)] dX11_many_18 rfl rfl (by decide) rfl ?_
      refine pv_goto (tgt := 4) C dX11_many_21 (by decide) ?_
      refine pv_sub [2, 1, 0] rfl ?_
      exact ih _ _ _ _  h
set_option maxHeartbeats 4000000 in
set_option maxRecDepth 100000 in
theorem r_X11_many {l : Launch} {D : va_G} {y : pq_Y} {G : pq_G} (W0 : pq_WT G) {S : pq_N} {x0 : Int32}  {r : Int32} {S1 : pq_N} (h : F_X11_many G S x0 = some (r, S1)) (sz : Nat) : Met l yX11_many wsX11_many ({ frames := 0, cells := 0, slots := 0, locals := 0 } : Room) (pq_P D y G S sz [.int x0]) (pq_Qi D y G sz r S1) 0 0 (pq_A G sz) := by
  refine pq_enter RX11 3 (by decide) rfl rfl rfl ?_
  intro p e s m below meth c C hsz hr hlk
  subst hsz
  unfold F_X11_many at h
  refine pv_sub (lo1 := [(0, .int x0)]) [0] rfl ?_
  refine pv_iconst (v := 0) C dX11_many_0 (by decide) ?_
  refine pv_istore_n C [(1, .int (0 : Int32)), (0, .int x0)] dX11_many_1 rfl (by decide) rfl ?_
  refine pv_iconst (v := 0) C dX11_many_2 (by decide) ?_
  refine pv_istore_n C [(2, .int (0 : Int32)), (1, .int (0 : Int32)), (0, .int x0)] dX11_many_3 rfl (by decide) rfl ?_
  refine pv_sub [2, 1, 0] rfl ?_
  exact r_X11_many_b4 W0 C hr hlk pq_fuel _ _ _ _  h
def F_X11_save_b80 (G : pq_G)  (S : pq_N) (a0 : Nat) : Option (Unit × pq_N) := (pq_bd (F_X11_keepAt G S a0 (S.1 a0 4)) fun _ S13 => (pq_lt (pq_wi S13 a0 4 ((S13.1 a0 4) + (1 : Int32))) fun S15 => some ((), S15)))
def F_X11_save_b41 (G : pq_G)  : Nat → pq_N → Nat → Int32 → Option (Unit × pq_N)
  | 0, _, _, _ => none
  | n + 1, S, a0, x1 => (if (4800 : Int32) ≤ x1 then (pq_lt (pq_wi S a0 4 ((S.1 a0 4) - (1 : Int32))) fun S25 => F_X11_save_b80 G S25 a0) else (if ((1200 : Int32) + x1) < 0 ∨ pq_n G (pq_r G a0 3) ≤ (Int32.toNatClampNeg ((1200 : Int32) + x1)) then none else (if x1 < 0 ∨ pq_n G (pq_r G a0 3) ≤ (Int32.toNatClampNeg x1) then none else (pq_lt (pq_wj S (pq_r G a0 3) (Int32.toNatClampNeg x1) (S.2 (pq_r G a0 3) (Int32.toNatClampNeg ((1200 : Int32) + x1)))) fun S31 => (F_X11_save_b41 G n) S31 a0 (x1 + (1 : Int32))))))
def F_X11_save_b10 (G : pq_G)  : Nat → pq_N → Nat → Int32 → Option (Unit × pq_N)
  | 0, _, _, _ => none
  | n + 1, S, a0, x1 => (if (4168 : Int32) ≤ x1 then F_X11_save_b41 G pq_fuel S a0 (0 : Int32) else (if ((1042 : Int32) + x1) < 0 ∨ pq_n G (pq_r G a0 2) ≤ (Int32.toNatClampNeg ((1042 : Int32) + x1)) then none else (if x1 < 0 ∨ pq_n G (pq_r G a0 2) ≤ (Int32.toNatClampNeg x1) then none else (pq_lt (pq_wi S (pq_r G a0 2) (Int32.toNatClampNeg x1) (S.1 (pq_r G a0 2) (Int32.toNatClampNeg ((1042 : Int32) + x1)))) fun S22 => (F_X11_save_b10 G n) S22 a0 (x1 + (1 : Int32))))))
def F_X11_save (G : pq_G) (S : pq_N) (a0 : Nat) : Option (Unit × pq_N) := (if (S.1 a0 4) = (5 : Int32) then F_X11_save_b10 G pq_fuel S a0 (0 : Int32) else F_X11_save_b80 G S a0)
theorem inu_X11_save_11 : ∀ w ∈ u_ws RX11 TX11 24, w ∈ wsX11_save := pq_inu 11 rfl
set_option maxHeartbeats 4000000 in
set_option maxRecDepth 100000 in
theorem r_X11_save_b80 {p : Program} {l : Launch} {e : Env} {s : State} {m : MethodId} {av : Array Value} {below : List Frame} {meth : Method} {c : Code} {D : va_G} {y : pq_Y} {G : pq_G} {S1 : pq_N} (W0 : pq_WT G) (C : pq_C p s m av c D y RX11 wsX11_save cX11_save 2) (hr : meth.sig.returnType = none) (hlk : meth.locks = false) : ∀ (S : pq_N) (a0 : Nat), pq_ok G 11 a0 → F_X11_save_b80 G S a0 = some ((), S1) → pq_V p l e (headSpec wsX11_save ({ frames := 1, cells := 0, slots := 0, locals := 22 } : Room)).room s m av below meth c 0 0 (MQ below (pq_Qv D y G s.heap.size S1) av s 0 0 (pq_A G s.heap.size)) D y 2 (pq_A G s.heap.size) (fun _ => True) G S 80 [(0, .ref a0)] [] := by
  intro S a0 k0_ h
  unfold F_X11_save_b80 at h
  refine pv_aload_n C 0 dX11_save_80 rfl rfl ?_
  refine pv_aload_n C 0 dX11_save_81 rfl rfl ?_
  refine pv_geti (T := TX11) (N := 24) C 4 inu_X11_save_11 rfl (by decide) (by decide) (List.mem_of_getElem? (i := 1) rfl) rfl k0_ dX11_save_82 ?_
  obtain ⟨⟨⟩, S13, e14, h⟩ := pq_bs h
  refine pv_callvV C (ci := 11) rfl (by decide) k0_ [.int (S.1 a0 4)] (fun sz => r_X11_keepAt W0 k0_ e14 sz) (cwV 1 C.1.2.2.2.2 gX11_save_X11_keepAt rfl rfl rfl (by decide +kernel) ⟨Nat.le_of_ble_eq_true rfl, Nat.le_of_ble_eq_true rfl⟩) rfl rfl (Nat.le_of_ble_eq_true rfl) dX11_save_85 ⟨Nat.le_of_ble_eq_true rfl, Nat.le_of_ble_eq_true rfl⟩ ?_
  refine pv_aload_n C 0 dX11_save_88 rfl rfl ?_
  refine pv_dup C dX11_save_89 rfl ?_
  refine pv_geti (T := TX11) (N := 24) C 4 inu_X11_save_11 rfl (by decide) (by decide) (List.mem_of_getElem? (i := 1) rfl) rfl k0_ dX11_save_90 ?_
  refine pv_iconst (v := 1) C dX11_save_93 (by decide) ?_
  refine pv_iadd C dX11_save_94 ?_
  refine pv_put (T := TX11) (N := 24) (ty := .int) C 4 inu_X11_save_11 rfl (by decide) tyX11 tyX11_ok nmX11 (by decide) (List.mem_of_getElem? (i := 1) rfl) rfl k0_ rfl (by decide +kernel) rfl rfl dX11_save_95 ?_
  refine pv_nm (fun S15 e16 => ?_)
  have h := pq_ls e16 h
  exact pv_vret C hr hlk h dX11_save_98
set_option maxHeartbeats 4000000 in
set_option maxRecDepth 100000 in
theorem r_X11_save_b41 {p : Program} {l : Launch} {e : Env} {s : State} {m : MethodId} {av : Array Value} {below : List Frame} {meth : Method} {c : Code} {D : va_G} {y : pq_Y} {G : pq_G} {S1 : pq_N} (W0 : pq_WT G) (C : pq_C p s m av c D y RX11 wsX11_save cX11_save 2) (hr : meth.sig.returnType = none) (hlk : meth.locks = false) (n : Nat) : ∀ (S : pq_N) (a0 : Nat) (x1 : Int32), pq_ok G 11 a0 → F_X11_save_b41 G n S a0 x1 = some ((), S1) → pq_V p l e (headSpec wsX11_save ({ frames := 1, cells := 0, slots := 0, locals := 22 } : Room)).room s m av below meth c 0 0 (MQ below (pq_Qv D y G s.heap.size S1) av s 0 0 (pq_A G s.heap.size)) D y 2 (pq_A G s.heap.size) (fun _ => True) G S 41 [(0, .ref a0), (1, .int x1)] [] := by
  induction n with
  | zero =>
    intro S a0 x1 k0_ h
    rw [F_X11_save_b41.eq_1] at h; cases h
  | succ n ih =>
    intro S a0 x1 k0_ h
    rw [F_X11_save_b41.eq_2] at h
    refine pv_iload_n C 1 dX11_save_41 rfl rfl ?_
    refine pv_sipush (v := 4800) C dX11_save_42 (by decide) ?_
    refine pv_icmp_ge (tgt := 70) C dX11_save_45 (by decide) (fun c24 => ?_) (fun c24 => ?_)
    · have h := pq_it c24 h
      refine pv_aload_n C 0 dX11_save_70 rfl rfl ?_
      refine pv_dup C dX11_save_71 rfl ?_
      refine pv_geti (T := TX11) (N := 24) C 4 inu_X11_save_11 rfl (by decide) (by decide) (List.mem_of_getElem? (i := 1) rfl) rfl k0_ dX11_save_72 ?_
      refine pv_iconst (v := 1) C dX11_save_75 (by decide) ?_
      refine pv_isub C dX11_save_76 ?_
      refine pv_put (T := TX11) (N := 24) (ty := .int) C 4 inu_X11_save_11 rfl (by decide) tyX11 tyX11_ok nmX11 (by decide) (List.mem_of_getElem? (i := 1) rfl) rfl k0_ rfl (by decide +kernel) rfl rfl dX11_save_77 ?_
      refine pv_nm (fun S25 e26 => ?_)
      have h := pq_ls e26 h
      refine pv_sub [0] rfl ?_
      exact r_X11_save_b80 W0 C hr hlk _ _ k0_ h
    · have h := pq_if c24 h
      refine pv_aload_n C 0 dX11_save_48 rfl rfl ?_
      have k27 := pq_wt (k := 3) W0 k0_ rfl
      refine pv_getr (T := TX11) (N := 24) C 3 inu_X11_save_11 rfl (by decide) (by decide) (List.mem_of_getElem? (i := 3) rfl) rfl k0_ k27.1 dX11_save_49 ?_
      refine pv_iload_n C 1 dX11_save_52 rfl rfl ?_
      refine pv_aload_n C 0 dX11_save_53 rfl rfl ?_
      have k28 := pq_wt (k := 3) W0 k0_ rfl
      refine pv_getr (T := TX11) (N := 24) C 3 inu_X11_save_11 rfl (by decide) (by decide) (List.mem_of_getElem? (i := 3) rfl) rfl k0_ k28.1 dX11_save_54 ?_
      refine pv_sipush (v := 1200) C dX11_save_57 (by decide) ?_
      refine pv_iload_n C 1 dX11_save_60 rfl rfl ?_
      refine pv_iadd C dX11_save_61 ?_
      obtain ⟨g29, h⟩ := pq_gd h
      refine pv_laload C k28.2 g29 dX11_save_62 ?_
      obtain ⟨g30, h⟩ := pq_gd h
      refine pv_lastore C k27.2 g30 dX11_save_63 ?_
      refine pv_nm (fun S31 e32 => ?_)
      have h := pq_ls e32 h
      refine pv_iinc (v := (x1 + (1 : Int32))) C 1 [(1, .int (x1 + (1 : Int32))), (0, .ref a0)] dX11_save_64 rfl rfl (by decide) rfl ?_
      refine pv_goto (tgt := 41) C dX11_save_67 (by decide) ?_
      refine pv_sub [1, 0] rfl ?_
      exact ih _ _ _ k0_ h
set_option maxHeartbeats 4000000 in
set_option maxRecDepth 100000 in
theorem r_X11_save_b10 {p : Program} {l : Launch} {e : Env} {s : State} {m : MethodId} {av : Array Value} {below : List Frame} {meth : Method} {c : Code} {D : va_G} {y : pq_Y} {G : pq_G} {S1 : pq_N} (W0 : pq_WT G) (C : pq_C p s m av c D y RX11 wsX11_save cX11_save 2) (hr : meth.sig.returnType = none) (hlk : meth.locks = false) (n : Nat) : ∀ (S : pq_N) (a0 : Nat) (x1 : Int32), pq_ok G 11 a0 → F_X11_save_b10 G n S a0 x1 = some ((), S1) → pq_V p l e (headSpec wsX11_save ({ frames := 1, cells := 0, slots := 0, locals := 22 } : Room)).room s m av below meth c 0 0 (MQ below (pq_Qv D y G s.heap.size S1) av s 0 0 (pq_A G s.heap.size)) D y 2 (pq_A G s.heap.size) (fun _ => True) G S 10 [(0, .ref a0), (1, .int x1)] [] := by
  induction n with
  | zero =>
    intro S a0 x1 k0_ h
    rw [F_X11_save_b10.eq_1] at h; cases h
  | succ n ih =>
    intro S a0 x1 k0_ h
    rw [F_X11_save_b10.eq_2] at h
    refine pv_iload_n C 1 dX11_save_10 rfl rfl ?_
    refine pv_sipush (v := 4168) C dX11_save_11 (by decide) ?_
    refine pv_icmp_ge (tgt := 39) C dX11_save_14 (by decide) (fun c17 => ?_) (fun c17 => ?_)
    · have h := pq_it c17 h
      refine pv_iconst (v := 0) C dX11_save_39 (by decide) ?_
      refine pv_istore_n C [(1, .int (0 : Int32)), (0, .ref a0)] dX11_save_40 rfl (by decide) rfl ?_
      refine pv_sub [1, 0] rfl ?_
      exact r_X11_save_b41 W0 C hr hlk pq_fuel _ _ _ k0_ h
    · have h := pq_if c17 h
      refine pv_aload_n C 0 dX11_save_17 rfl rfl ?_
      have k18 := pq_wt (k := 2) W0 k0_ rfl
      refine pv_getr (T := TX11) (N := 24) C 2 inu_X11_save_11 rfl (by decide) (by decide) (List.mem_of_getElem? (i := 2) rfl) rfl k0_ k18.1 dX11_save_18 ?_
      refine pv_iload_n C 1 dX11_save_21 rfl rfl ?_
      refine pv_aload_n C 0 dX11_save_22 rfl rfl ?_
      have k19 := pq_wt (k := 2) W0 k0_ rfl
      refine pv_getr (T := TX11) (N := 24) C 2 inu_X11_save_11 rfl (by decide) (by decide) (List.mem_of_getElem? (i := 2) rfl) rfl k0_ k19.1 dX11_save_23 ?_
      refine pv_sipush (v := 1042) C dX11_save_26 (by decide) ?_
      refine pv_iload_n C 1 dX11_save_29 rfl rfl ?_
      refine pv_iadd C dX11_save_30 ?_
      obtain ⟨g20, h⟩ := pq_gd h
      refine pv_iaload C k19.2 g20 dX11_save_31 ?_
      obtain ⟨g21, h⟩ := pq_gd h
      refine pv_iastore C k18.2 g21 dX11_save_32 ?_
      refine pv_nm (fun S22 e23 => ?_)
      have h := pq_ls e23 h
      refine pv_iinc (v := (x1 + (1 : Int32))) C 1 [(1, .int (x1 + (1 : Int32))), (0, .ref a0)] dX11_save_33 rfl rfl (by decide) rfl ?_
      refine pv_goto (tgt := 10) C dX11_save_36 (by decide) ?_
      refine pv_sub [1, 0] rfl ?_
      exact ih _ _ _ k0_ h
set_option maxHeartbeats 4000000 in
set_option maxRecDepth 100000 in
theorem r_X11_save {l : Launch} {D : va_G} {y : pq_Y} {G : pq_G} (W0 : pq_WT G) {S : pq_N} {a0 : Nat} (k0_ : pq_ok G 11 a0) {S1 : pq_N} (h : F_X11_save G S a0 = some ((), S1)) (sz : Nat) : Met l yX11_save wsX11_save ({ frames := 1, cells := 0, slots := 0, locals := 22 } : Room) (pq_P D y G S sz [.ref a0]) (pq_Qv D y G sz S1) 0 0 (pq_A G sz) := by
  refine pq_enter RX11 2 (by decide) rfl rfl rfl ?_
  intro p e s m below meth c C hsz hr hlk
  subst hsz
  unfold F_X11_save at h
  refine pv_sub (lo1 := [(0, .ref a0)]) [0] rfl ?_
  refine pv_aload_n C 0 dX11_save_0 rfl rfl ?_
  refine pv_geti (T := TX11) (N := 24) C 4 inu_X11_save_11 rfl (by decide) (by decide) (List.mem_of_getElem? (i := 1) rfl) rfl k0_ dX11_save_1 ?_
  refine pv_iconst (v := 5) C dX11_save_4 (by decide) ?_
  refine pv_icmp_ne (tgt := 80) C dX11_save_5 (by decide) (fun c11 => ?_) (fun c11 => ?_)
  · have h := pq_if c11 h
    refine pv_sub [0] rfl ?_
    exact r_X11_save_b80 W0 C hr hlk _ _ k0_ h
  · have h := pq_it c11 h
    refine pv_iconst (v := 0) C dX11_save_8 (by decide) ?_
    refine pv_istore_n C [(1, .int (0 : Int32)), (0, .ref a0)] dX11_save_9 rfl (by decide) rfl ?_
    refine pv_sub [1, 0] rfl ?_
    exact r_X11_save_b10 W0 C hr hlk pq_fuel _ _ _ k0_ h
def F_X11_mend_b28 (G : pq_G)  (S : pq_N) (a0 : Nat) (x1 : Int32) (x2 : Int32) (t0 : Int32) (t1 : Nat) : Option (Int32 × pq_N) := (pq_bd (F_X11_holds G S t1 t0) fun v19 S20 => (if v19 = (0 : Int32) then some ((0 : Int32), S20) else (pq_bd (F_X11_save G S20 a0) fun _ S24 => (pq_bd (F_X11_doMend G S24 a0 x1 x2) fun v26 S27 => some (v26, S27)))))
def F_X11_mend (G : pq_G) (S : pq_N) (a0 : Nat) (x1 : Int32) (x2 : Int32) : Option (Int32 × pq_N) := (pq_bd (F_X11_isQuote G S a0 x1 x2) fun v11 S12 => (if v11 = (0 : Int32) then F_X11_mend_b28 G S12 a0 x1 x2 (1 : Int32) a0 else (pq_bd (F_X11_canMend G S12 a0 x1 x2) fun v15 S16 => (if v15 = (0 : Int32) then F_X11_mend_b28 G S16 a0 x1 x2 (2 : Int32) a0 else F_X11_mend_b28 G S16 a0 x1 x2 (0 : Int32) a0))))
set_option maxHeartbeats 4000000 in
set_option maxRecDepth 100000 in
theorem r_X11_mend_b28 {p : Program} {l : Launch} {e : Env} {s : State} {m : MethodId} {av : Array Value} {below : List Frame} {meth : Method} {c : Code} {D : va_G} {y : pq_Y} {G : pq_G} {r : Int32} {S1 : pq_N} (W0 : pq_WT G) (C : pq_C p s m av c D y RX11 wsX11_mend cX11_mend 3) (hr : meth.sig.returnType = (some .int)) (hlk : meth.locks = false) : ∀ (S : pq_N) (a0 : Nat) (x1 : Int32) (x2 : Int32) (t0 : Int32) (t1 : Nat), pq_ok G 11 a0 → pq_ok G 11 t1 → F_X11_mend_b28 G S a0 x1 x2 t0 t1 = some (r, S1) → pq_V p l e (headSpec wsX11_mend ({ frames := 5, cells := 0, slots := 0, locals := 122 } : Room)).room s m av below meth c 0 0 (MQ below (pq_Qi D y G s.heap.size r S1) av s 0 0 (pq_A G s.heap.size)) D y 3 (pq_A G s.heap.size) (fun _ => True) G S 28 [(0, .ref a0), (1, .int x1), (2, .int x2)] [.int t0, .ref t1] := by
  intro S a0 x1 x2 t0 t1 k0_ kt1_ h
  unfold F_X11_mend_b28 at h
  obtain ⟨v19, S20, e21, h⟩ := pq_bs h
  refine pv_calliV C (ci := 11) rfl (by decide) kt1_ [.int t0] (fun sz => r_X11_holds W0 kt1_ e21 sz) (cwV 1 C.1.2.2.2.2 gX11_mend_X11_holds rfl rfl rfl (by decide +kernel) ⟨Nat.le_of_ble_eq_true rfl, Nat.le_of_ble_eq_true rfl⟩) rfl rfl (Nat.le_of_ble_eq_true rfl) dX11_mend_28 ⟨Nat.le_of_ble_eq_true rfl, Nat.le_of_ble_eq_true rfl⟩ ?_
  refine pv_if_ne (tgt := 36) C dX11_mend_31 (by decide) (fun c22 => ?_) (fun c22 => ?_)
  · have h := pq_if c22 h
    refine pv_aload_n C 0 dX11_mend_36 rfl rfl ?_
    obtain ⟨⟨⟩, S24, e25, h⟩ := pq_bs h
    refine pv_callvV C (ci := 11) rfl (by decide) k0_ [] (fun sz => r_X11_save W0 k0_ e25 sz) (cwV 0 C.1.2.2.2.2 gX11_mend_X11_save rfl rfl rfl (by decide +kernel) ⟨Nat.le_of_ble_eq_true rfl, Nat.le_of_ble_eq_true rfl⟩) rfl rfl (Nat.le_of_ble_eq_true rfl) dX11_mend_37 ⟨Nat.le_of_ble_eq_true rfl, Nat.le_of_ble_eq_true rfl⟩ ?_
    refine pv_aload_n C 0 dX11_mend_40 rfl rfl ?_
    refine pv_iload_n C 1 dX11_mend_41 rfl rfl ?_
    refine pv_iload_n C 2 dX11_mend_42 rfl rfl ?_
    obtain ⟨v26, S27, e28, h⟩ := pq_bs h
    refine pv_calliV C (ci := 11) rfl (by decide) k0_ [.int x1, .int x2] (fun sz => r_X11_doMend W0 k0_ e28 sz) (cwV 2 C.1.2.2.2.2 gX11_mend_X11_doMend rfl rfl rfl (by decide +kernel) ⟨Nat.le_of_ble_eq_true rfl, Nat.le_of_ble_eq_true rfl⟩) rfl rfl (Nat.le_of_ble_eq_true rfl) dX11_mend_43 ⟨Nat.le_of_ble_eq_true rfl, Nat.le_of_ble_eq_true rfl⟩ ?_
    exact pv_iret C hr hlk h dX11_mend_46
  · have h := pq_it c22 h
    refine pv_iconst (v := 0) C dX11_mend_34 (by decide) ?_
    exact pv_iret C hr hlk h dX11_mend_35
set_option maxHeartbeats 4000000 in
set_option maxRecDepth 100000 in
theorem r_X11_mend {l : Launch} {D : va_G} {y : pq_Y} {G : pq_G} (W0 : pq_WT G) {S : pq_N} {a0 : Nat} {x1 : Int32} {x2 : Int32} (k0_ : pq_ok G 11 a0) {r : Int32} {S1 : pq_N} (h : F_X11_mend G S a0 x1 x2 = some (r, S1)) (sz : Nat) : Met l yX11_mend wsX11_mend ({ frames := 5, cells := 0, slots := 0, locals := 122 } : Room) (pq_P D y G S sz [.ref a0, .int x1, .int x2]) (pq_Qi D y G sz r S1) 0 0 (pq_A G sz) := by
  refine pq_enter RX11 3 (by decide) rfl rfl rfl ?_
  intro p e s m below meth c C hsz hr hlk
  subst hsz
  unfold F_X11_mend at h
  refine pv_sub (lo1 := [(0, .ref a0), (1, .int x1), (2, .int x2)]) [0, 1, 2] rfl ?_
  refine pv_aload_n C 0 dX11_mend_0 rfl rfl ?_
  refine pv_aload_n C 0 dX11_mend_1 rfl rfl ?_
  refine pv_iload_n C 1 dX11_mend_2 rfl rfl ?_
  refine pv_iload_n C 2 dX11_mend_3 rfl rfl ?_
  obtain ⟨v11, S12, e13, h⟩ := pq_bs h
  refine pv_calliV C (ci := 11) rfl (by decide) k0_ [.int x1, .int x2] (fun sz => r_X11_isQuote W0 k0_ e13 sz) (cwV 2 C.1.2.2.2.2 gX11_mend_X11_isQuote rfl rfl rfl (by decide +kernel) ⟨Nat.le_of_ble_eq_true rfl, Nat.le_of_ble_eq_true rfl⟩) rfl rfl (Nat.le_of_ble_eq_true rfl) dX11_mend_4 ⟨Nat.le_of_ble_eq_true rfl, Nat.le_of_ble_eq_true rfl⟩ ?_
  refine pv_if_ne (tgt := 14) C dX11_mend_7 (by decide) (fun c14 => ?_) (fun c14 => ?_)
  · have h := pq_if c14 h
    refine pv_aload_n C 0 dX11_mend_14 rfl rfl ?_
    refine pv_iload_n C 1 dX11_mend_15 rfl rfl ?_
    refine pv_iload_n C 2 dX11_mend_16 rfl rfl ?_
    obtain ⟨v15, S16, e17, h⟩ := pq_bs h
    refine pv_calliV C (ci := 11) rfl (by decide) k0_ [.int x1, .int x2] (fun sz => r_X11_canMend W0 k0_ e17 sz) (cwV 2 C.1.2.2.2.2 gX11_mend_X11_canMend rfl rfl rfl (by decide +kernel) ⟨Nat.le_of_ble_eq_true rfl, Nat.le_of_ble_eq_true rfl⟩) rfl rfl (Nat.le_of_ble_eq_true rfl) dX11_mend_17 ⟨Nat.le_of_ble_eq_true rfl, Nat.le_of_ble_eq_true rfl⟩ ?_
    refine pv_if_eq (tgt := 27) C dX11_mend_20 (by decide) (fun c18 => ?_) (fun c18 => ?_)
    · have h := pq_it c18 h
      refine pv_iconst (v := 2) C dX11_mend_27 (by decide) ?_
      refine pv_sub [0, 1, 2] rfl ?_
      exact r_X11_mend_b28 W0 C hr hlk _ _ _ _ _ _ k0_ k0_ h
    · have h := pq_if c18 h
      refine pv_iconst (v := 0) C dX11_mend_23 (by decide) ?_
      refine pv_goto (tgt := 28) C dX11_mend_24 (by decide) ?_
      refine pv_sub [0, 1, 2] rfl ?_
      exact r_X11_mend_b28 W0 C hr hlk _ _ _ _ _ _ k0_ k0_ h
  · have h := pq_it c14 h
    refine pv_iconst (v := 1) C dX11_mend_10 (by decide) ?_
    refine pv_goto (tgt := 28) C dX11_mend_11 (by decide) ?_
    refine pv_sub [0, 1, 2] rfl ?_
    exact r_X11_mend_b28 W0 C hr hlk _ _ _ _ _ _ k0_ k0_ h
def F_X11_mendAll_b25 (G : pq_G) (c13 : pq_N → Nat → Int32 → Int32 → Option (Int32 × pq_N)) : Nat → pq_N → Nat → Int32 → Int32 → Int32 → Option (Int32 × pq_N)
  | 0, _, _, _, _, _ => none
  | n + 1, S, a0, x1, x2, x3 => (pq_bd (F_X11_get G S a0 x2 (5 : Int32)) fun v19 S20 => (if v19 ≤ x3 then c13 S20 a0 x1 (x2 + (1 : Int32)) else (pq_bd (F_X11_canMend G S20 a0 x2 x3) fun v23 S24 => (if v23 = (0 : Int32) then (F_X11_mendAll_b25 G c13 n) S24 a0 x1 x2 (x3 + (1 : Int32)) else (pq_bd (F_X11_doMend G S24 a0 x2 x3) fun v27 S28 => (F_X11_mendAll_b25 G c13 n) S28 a0 (x1 + (1 : Int32)) x2 (x3 + (1 : Int32)))))))
def F_X11_mendAll_b13 (G : pq_G)  : Nat → pq_N → Nat → Int32 → Int32 → Option (Int32 × pq_N)
  | 0, _, _, _, _ => none
  | n + 1, S, a0, x1, x2 => (if (1 : Int32) < 0 ∨ pq_n G (pq_r G a0 0) ≤ (Int32.toNatClampNeg (1 : Int32)) then none else (if (S.1 (pq_r G a0 0) (Int32.toNatClampNeg (1 : Int32))) ≤ x2 then some (x1, S) else F_X11_mendAll_b25 G ((F_X11_mendAll_b13 G n)) pq_fuel S a0 x1 x2 (0 : Int32)))
def F_X11_mendAll (G : pq_G) (S : pq_N) (a0 : Nat) : Option (Int32 × pq_N) := (pq_lt (pq_wi S a0 8 (0 : Int32)) fun S11 => (pq_bd (F_X11_save G S11 a0) fun _ S14 => F_X11_mendAll_b13 G pq_fuel S14 a0 (0 : Int32) (0 : Int32)))
theorem inu_X11_mendAll_11 : ∀ w ∈ u_ws RX11 TX11 24, w ∈ wsX11_mendAll := pq_inu 60 rfl
set_option maxHeartbeats 4000000 in
set_option maxRecDepth 100000 in
theorem r_X11_mendAll_b25 {p : Program} {l : Launch} {e : Env} {s : State} {m : MethodId} {av : Array Value} {below : List Frame} {meth : Method} {c : Code} {D : va_G} {y : pq_Y} {G : pq_G} {r : Int32} {S1 : pq_N} (W0 : pq_WT G) (C : pq_C p s m av c D y RX11 wsX11_mendAll cX11_mendAll 5) (hr : meth.sig.returnType = (some .int)) (hlk : meth.locks = false) {c13 : pq_N → Nat → Int32 → Int32 → Option (Int32 × pq_N)} (hk13 : ∀ (S : pq_N) (a0 : Nat) (x1 : Int32) (x2 : Int32), pq_ok G 11 a0 → c13 S a0 x1 x2 = some (r, S1) → pq_V p l e (headSpec wsX11_mendAll ({ frames := 5, cells := 0, slots := 0, locals := 122 } : Room)).room s m av below meth c 0 0 (MQ below (pq_Qi D y G s.heap.size r S1) av s 0 0 (pq_A G s.heap.size)) D y 5 (pq_A G s.heap.size) (fun _ => True) G S 13 [(0, .ref a0), (1, .int x1), (2, .int x2)] []) (n : Nat) : ∀ (S : pq_N) (a0 : Nat) (x1 : Int32) (x2 : Int32) (x3 : Int32), pq_ok G 11 a0 → F_X11_mendAll_b25 G c13 n S a0 x1 x2 x3 = some (r, S1) → pq_V p l e (headSpec wsX11_mendAll ({ frames := 5, cells := 0, slots := 0, locals := 122 } : Room)).room s m av below meth c 0 0 (MQ below (pq_Qi D y G s.heap.size r S1) av s 0 0 (pq_A G s.heap.size)) D y 5 (pq_A G s.heap.size) (fun _ => True) G S 25 [(0, .ref a0), (1, .int x1), (2, .int x2), (3, .int x3)] [] := by
  induction n with
  | zero =>
    intro S a0 x1 x2 x3 k0_ h
    rw [F_X11_mendAll_b25.eq_1] at h; cases h
  | succ n ih =>
    intro S a0 x1 x2 x3 k0_ h
    rw [F_X11_mendAll_b25.eq_2] at h
    refine pv_iload_n C 3 dX11_mendAll_25 rfl rfl ?_
    refine pv_aload_n C 0 dX11_mendAll_26 rfl rfl ?_
    refine pv_iload_n C 2 dX11_mendAll_27 rfl rfl ?_
    refine pv_iconst (v := 5) C dX11_mendAll_28 (by decide) ?_
    obtain ⟨v19, S20, e21, h⟩ := pq_bs h
    refine pv_calliV C (ci := 11) rfl (by decide) k0_ [.int x2, .int (5 : Int32)] (fun sz => r_X11_get W0 k0_ e21 sz) (cwV 2 C.1.2.2.2.2 gX11_mendAll_X11_get rfl rfl rfl (by decide +kernel) ⟨Nat.le_of_ble_eq_true rfl, Nat.le_of_ble_eq_true rfl⟩) rfl rfl (Nat.le_of_ble_eq_true rfl) dX11_mendAll_29 ⟨Nat.le_of_ble_eq_true rfl, Nat.le_of_ble_eq_true rfl⟩ ?_
    refine pv_icmp_ge (tgt := 61) C dX11_mendAll_32 (by decide) (fun c22 => ?_) (fun c22 => ?_)
    · have h := pq_it c22 h
      refine pv_iinc (v := (x2 + (1 : Int32))) C 2 [(2, .int (x2 + (1 : Int32))), (0, .ref a0), (1, .int x1), (3, .int x3)] dX11_mendAll_61 rfl rfl (by decide) rfl ?_
      refine pv_goto (tgt := 13) C dX11_mendAll_64 (by decide) ?_
      refine pv_sub [1, 2, 0] rfl ?_
      exact hk13 _ _ _ _ k0_ h
    · have h := pq_if c22 h
      refine pv_aload_n C 0 dX11_mendAll_35 rfl rfl ?_
      refine pv_iload_n C 2 dX11_mendAll_36 rfl rfl ?_
      refine pv_iload_n C 3 dX11_mendAll_37 rfl rfl ?_
      obtain ⟨v23, S24, e25, h⟩ := pq_bs h
      refine pv_calliV C (ci := 11) rfl (by decide) k0_ [.int x2, .int x3] (fun sz => r_X11_canMend W0 k0_ e25 sz) (cwV 2 C.1.2.2.2.2 gX11_mendAll_X11_canMend rfl rfl rfl (by decide +kernel) ⟨Nat.le_of_ble_eq_true rfl, Nat.le_of_ble_eq_true rfl⟩) rfl rfl (Nat.le_of_ble_eq_true rfl) dX11_mendAll_38 ⟨Nat.le_of_ble_eq_true rfl, Nat.le_of_ble_eq_true rfl⟩ ?_
      refine pv_if_eq (tgt := 55) C dX11_mendAll_41 (by decide) (fun c26 => ?_) (fun c26 => ?_)
      · have h := pq_it c26 h
        refine pv_iinc (v := (x3 + (1 : Int32))) C 3 [(3, .int (x3 + (1 : Int32))), (0, .ref a0), (1, .int x1), (2, .int x2)] dX11_mendAll_55 rfl rfl (by decide) rfl ?_
        refine pv_goto (tgt := 25) C dX11_mendAll_58 (by decide) ?_
        refine pv_sub [1, 2, 3, 0] rfl ?_
        exact ih _ _ _ _ _ k0_ h
      · have h := pq_if c26 h
        refine pv_aload_n C 0 dX11_mendAll_44 rfl rfl ?_
        refine pv_iload_n C 2 dX11_mendAll_45 rfl rfl ?_
        refine pv_iload_n C 3 dX11_mendAll_46 rfl rfl ?_
        obtain ⟨v27, S28, e29, h⟩ := pq_bs h
        refine pv_calliV C (ci := 11) rfl (by decide) k0_ [.int x2, .int x3] (fun sz => r_X11_doMend W0 k0_ e29 sz) (cwV 2 C.1.2.2.2.2 gX11_mendAll_X11_doMend rfl rfl rfl (by decide +kernel) ⟨Nat.le_of_ble_eq_true rfl, Nat.le_of_ble_eq_true rfl⟩) rfl rfl (Nat.le_of_ble_eq_true rfl) dX11_mendAll_47 ⟨Nat.le_of_ble_eq_true rfl, Nat.le_of_ble_eq_true rfl⟩ ?_
        refine pv_istore C [(4, .int v27), (0, .ref a0), (1, .int x1), (2, .int x2), (3, .int x3)] dX11_mendAll_50 (by decide) rfl ?_
        refine pv_iinc (v := (x1 + (1 : Int32))) C 2 [(1, .int (x1 + (1 : Int32))), (4, .int v27), (0, .ref a0), (2, .int x2), (3, .int x3)] dX11_mendAll_52 rfl rfl (by decide) rfl ?_
        refine pv_iinc (v := (x3 + (1 : Int32))) C 4 [(3, .int (x3 + (1 : Int32))), (1, .int (x1 + (1 : Int32))), (4, .int v27), (0, .ref a0), (2, .int x2)] dX11_mendAll_55 rfl rfl (by decide) rfl ?_
        refine pv_goto (tgt := 25) C dX11_mendAll_58 (by decide) ?_
        refine pv_sub [3, 1, 4, 0] rfl ?_
        exact ih _ _ _ _ _ k0_ h
set_option maxHeartbeats 4000000 in
set_option maxRecDepth 100000 in
theorem r_X11_mendAll_b13 {p : Program} {l : Launch} {e : Env} {s : State} {m : MethodId} {av : Array Value} {below : List Frame} {meth : Method} {c : Code} {D : va_G} {y : pq_Y} {G : pq_G} {r : Int32} {S1 : pq_N} (W0 : pq_WT G) (C : pq_C p s m av c D y RX11 wsX11_mendAll cX11_mendAll 5) (hr : meth.sig.returnType = (some .int)) (hlk : meth.locks = false) (n : Nat) : ∀ (S : pq_N) (a0 : Nat) (x1 : Int32) (x2 : Int32), pq_ok G 11 a0 → F_X11_mendAll_b13 G n S a0 x1 x2 = some (r, S1) → pq_V p l e (headSpec wsX11_mendAll ({ frames := 5, cells := 0, slots := 0, locals := 122 } : Room)).room s m av below meth c 0 0 (MQ below (pq_Qi D y G s.heap.size r S1) av s 0 0 (pq_A G s.heap.size)) D y 5 (pq_A G s.heap.size) (fun _ => True) G S 13 [(0, .ref a0), (1, .int x1), (2, .int x2)] [] := by
  induction n with
  | zero =>
    intro S a0 x1 x2 k0_ h
    rw [F_X11_mendAll_b13.eq_1] at h; cases h
  | succ n ih =>
    intro S a0 x1 x2 k0_ h
    rw [F_X11_mendAll_b13.eq_2] at h
    refine pv_iload_n C 2 dX11_mendAll_13 rfl rfl ?_
    refine pv_aload_n C 0 dX11_mendAll_14 rfl rfl ?_
    have k16 := pq_wt (k := 0) W0 k0_ rfl
    refine pv_getr (T := TX11) (N := 24) C 0 inu_X11_mendAll_11 rfl (by decide) (by decide) (List.mem_of_getElem? (i := 2) rfl) rfl k0_ k16.1 dX11_mendAll_15 ?_
    refine pv_iconst (v := 1) C dX11_mendAll_18 (by decide) ?_
    obtain ⟨g17, h⟩ := pq_gd h
    refine pv_iaload C k16.2 g17 dX11_mendAll_19 ?_
    refine pv_icmp_ge (tgt := 67) C dX11_mendAll_20 (by decide) (fun c18 => ?_) (fun c18 => ?_)
    · have h := pq_it c18 h
      refine pv_iload_n C 1 dX11_mendAll_67 rfl rfl ?_
      exact pv_iret C hr hlk h dX11_mendAll_68
    · have h := pq_if c18 h
      refine pv_iconst (v := 0) C dX11_mendAll_23 (by decide) ?_
      refine pv_istore_n C [(3, .int (0 : Int32)), (0, .ref a0), (1, .int x1), (2, .int x2)] dX11_mendAll_24 rfl (by decide) rfl ?_
      refine pv_sub [1, 2, 3, 0] rfl ?_
      exact r_X11_mendAll_b25 W0 C hr hlk ih pq_fuel _ _ _ _ _ k0_ h
set_option maxHeartbeats 4000000 in
set_option maxRecDepth 100000 in
theorem r_X11_mendAll {l : Launch} {D : va_G} {y : pq_Y} {G : pq_G} (W0 : pq_WT G) {S : pq_N} {a0 : Nat} (k0_ : pq_ok G 11 a0) {r : Int32} {S1 : pq_N} (h : F_X11_mendAll G S a0 = some (r, S1)) (sz : Nat) : Met l yX11_mendAll wsX11_mendAll ({ frames := 5, cells := 0, slots := 0, locals := 122 } : Room) (pq_P D y G S sz [.ref a0]) (pq_Qi D y G sz r S1) 0 0 (pq_A G sz) := by
  refine pq_enter RX11 5 (by decide) rfl rfl rfl ?_
  intro p e s m below meth c C hsz hr hlk
  subst hsz
  unfold F_X11_mendAll at h
  refine pv_sub (lo1 := [(0, .ref a0)]) [0] rfl ?_
  refine pv_aload_n C 0 dX11_mendAll_0 rfl rfl ?_
  refine pv_iconst (v := 0) C dX11_mendAll_1 (by decide) ?_
  refine pv_put (T := TX11) (N := 24) (ty := .int) C 8 inu_X11_mendAll_11 rfl (by decide) tyX11 tyX11_ok nmX11 (by decide) (List.mem_of_getElem? (i := 1) rfl) rfl k0_ rfl (by decide +kernel) rfl rfl dX11_mendAll_2 ?_
  refine pv_nm (fun S11 e12 => ?_)
  have h := pq_ls e12 h
  refine pv_aload_n C 0 dX11_mendAll_5 rfl rfl ?_
  obtain ⟨⟨⟩, S14, e15, h⟩ := pq_bs h
  refine pv_callvV C (ci := 11) rfl (by decide) k0_ [] (fun sz => r_X11_save W0 k0_ e15 sz) (cwV 0 C.1.2.2.2.2 gX11_mendAll_X11_save rfl rfl rfl (by decide +kernel) ⟨Nat.le_of_ble_eq_true rfl, Nat.le_of_ble_eq_true rfl⟩) rfl rfl (Nat.le_of_ble_eq_true rfl) dX11_mendAll_6 ⟨Nat.le_of_ble_eq_true rfl, Nat.le_of_ble_eq_true rfl⟩ ?_
  refine pv_iconst (v := 0) C dX11_mendAll_9 (by decide) ?_
  refine pv_istore_n C [(1, .int (0 : Int32)), (0, .ref a0)] dX11_mendAll_10 rfl (by decide) rfl ?_
  refine pv_iconst (v := 0) C dX11_mendAll_11 (by decide) ?_
  refine pv_istore_n C [(2, .int (0 : Int32)), (1, .int (0 : Int32)), (0, .ref a0)] dX11_mendAll_12 rfl (by decide) rfl ?_
  refine pv_sub [2, 1, 0] rfl ?_
  exact r_X11_mendAll_b13 W0 C hr hlk pq_fuel _ _ _ _ k0_ h
def F_X11_originOf (G : pq_G) (S : pq_N) (a0 : Nat) (x1 : Int32) (x2 : Int32) : Option (Int32 × pq_N) := (pq_bd (F_X11_isTold G S a0 x1 x2) fun v11 S12 => (if v11 = (0 : Int32) then some ((0 : Int32), S12) else (pq_bd (F_X11_trace G S12 a0 x1 x2) fun _ S16 => some ((S16.1 a0 17), S16))))
theorem inu_X11_originOf_11 : ∀ w ∈ u_ws RX11 TX11 24, w ∈ wsX11_originOf := pq_inu 70 rfl
set_option maxHeartbeats 4000000 in
set_option maxRecDepth 100000 in
theorem r_X11_originOf {l : Launch} {D : va_G} {y : pq_Y} {G : pq_G} (W0 : pq_WT G) {S : pq_N} {a0 : Nat} {x1 : Int32} {x2 : Int32} (k0_ : pq_ok G 11 a0) {r : Int32} {S1 : pq_N} (h : F_X11_originOf G S a0 x1 x2 = some (r, S1)) (sz : Nat) : Met l yX11_originOf wsX11_originOf ({ frames := 6, cells := 0, slots := 0, locals := 151 } : Room) (pq_P D y G S sz [.ref a0, .int x1, .int x2]) (pq_Qi D y G sz r S1) 0 0 (pq_A G sz) := by
  refine pq_enter RX11 3 (by decide) rfl rfl rfl ?_
  intro p e s m below meth c C hsz hr hlk
  subst hsz
  unfold F_X11_originOf at h
  refine pv_sub (lo1 := [(0, .ref a0), (1, .int x1), (2, .int x2)]) [0, 1, 2] rfl ?_
  refine pv_aload_n C 0 dX11_originOf_0 rfl rfl ?_
  refine pv_iload_n C 1 dX11_originOf_1 rfl rfl ?_
  refine pv_iload_n C 2 dX11_originOf_2 rfl rfl ?_
  obtain ⟨v11, S12, e13, h⟩ := pq_bs h
  refine pv_calliV C (ci := 11) rfl (by decide) k0_ [.int x1, .int x2] (fun sz => r_X11_isTold W0 k0_ e13 sz) (cwV 2 C.1.2.2.2.2 gX11_originOf_X11_isTold rfl rfl rfl (by decide +kernel) ⟨Nat.le_of_ble_eq_true rfl, Nat.le_of_ble_eq_true rfl⟩) rfl rfl (Nat.le_of_ble_eq_true rfl) dX11_originOf_3 ⟨Nat.le_of_ble_eq_true rfl, Nat.le_of_ble_eq_true rfl⟩ ?_
  refine pv_if_ne (tgt := 11) C dX11_originOf_6 (by decide) (fun c14 => ?_) (fun c14 => ?_)
  · have h := pq_if c14 h
    refine pv_aload_n C 0 dX11_originOf_11 rfl rfl ?_
    refine pv_iload_n C 1 dX11_originOf_12 rfl rfl ?_
    refine pv_iload_n C 2 dX11_originOf_13 rfl rfl ?_
    obtain ⟨⟨⟩, S16, e17, h⟩ := pq_bs h
    refine pv_callvV C (ci := 11) rfl (by decide) k0_ [.int x1, .int x2] (fun sz => r_X11_trace W0 k0_ e17 sz) (cwV 2 C.1.2.2.2.2 gX11_originOf_X11_trace rfl rfl rfl (by decide +kernel) ⟨Nat.le_of_ble_eq_true rfl, Nat.le_of_ble_eq_true rfl⟩) rfl rfl (Nat.le_of_ble_eq_true rfl) dX11_originOf_14 ⟨Nat.le_of_ble_eq_true rfl, Nat.le_of_ble_eq_true rfl⟩ ?_
    refine pv_aload_n C 0 dX11_originOf_17 rfl rfl ?_
    refine pv_geti (T := TX11) (N := 24) C 17 inu_X11_originOf_11 rfl (by decide) (by decide) (List.mem_of_getElem? (i := 1) rfl) rfl k0_ dX11_originOf_18 ?_
    exact pv_iret C hr hlk h dX11_originOf_21
  · have h := pq_it c14 h
    refine pv_iconst (v := 0) C dX11_originOf_9 (by decide) ?_
    exact pv_iret C hr hlk h dX11_originOf_10
def F_X11_pageOf (G : pq_G) (S : pq_N) (a0 : Nat) (x1 : Int32) (x2 : Int32) : Option (Int32 × pq_N) := (pq_bd (F_X11_isTold G S a0 x1 x2) fun v11 S12 => (if v11 = (0 : Int32) then some ((0 : Int32), S12) else (pq_bd (F_X11_source G S12 a0 x1 x2) fun v15 S16 => (pq_bd (F_X11_find G S16 a0 x1 x2 v15) fun _ S19 => some (((S19.1 a0 15) / (8 : Int32)), S19)))))
theorem inu_X11_pageOf_11 : ∀ w ∈ u_ws RX11 TX11 24, w ∈ wsX11_pageOf := pq_inu 60 rfl
set_option maxHeartbeats 4000000 in
set_option maxRecDepth 100000 in
theorem r_X11_pageOf {l : Launch} {D : va_G} {y : pq_Y} {G : pq_G} (W0 : pq_WT G) {S : pq_N} {a0 : Nat} {x1 : Int32} {x2 : Int32} (k0_ : pq_ok G 11 a0) {r : Int32} {S1 : pq_N} (h : F_X11_pageOf G S a0 x1 x2 = some (r, S1)) (sz : Nat) : Met l yX11_pageOf wsX11_pageOf ({ frames := 4, cells := 0, slots := 0, locals := 100 } : Room) (pq_P D y G S sz [.ref a0, .int x1, .int x2]) (pq_Qi D y G sz r S1) 0 0 (pq_A G sz) := by
  refine pq_enter RX11 3 (by decide) rfl rfl rfl ?_
  intro p e s m below meth c C hsz hr hlk
  subst hsz
  unfold F_X11_pageOf at h
  refine pv_sub (lo1 := [(0, .ref a0), (1, .int x1), (2, .int x2)]) [0, 1, 2] rfl ?_
  refine pv_aload_n C 0 dX11_pageOf_0 rfl rfl ?_
  refine pv_iload_n C 1 dX11_pageOf_1 rfl rfl ?_
  refine pv_iload_n C 2 dX11_pageOf_2 rfl rfl ?_
  obtain ⟨v11, S12, e13, h⟩ := pq_bs h
  refine pv_calliV C (ci := 11) rfl (by decide) k0_ [.int x1, .int x2] (fun sz => r_X11_isTold W0 k0_ e13 sz) (cwV 2 C.1.2.2.2.2 gX11_pageOf_X11_isTold rfl rfl rfl (by decide +kernel) ⟨Nat.le_of_ble_eq_true rfl, Nat.le_of_ble_eq_true rfl⟩) rfl rfl (Nat.le_of_ble_eq_true rfl) dX11_pageOf_3 ⟨Nat.le_of_ble_eq_true rfl, Nat.le_of_ble_eq_true rfl⟩ ?_
  refine pv_if_ne (tgt := 11) C dX11_pageOf_6 (by decide) (fun c14 => ?_) (fun c14 => ?_)
  · have h := pq_if c14 h
    refine pv_aload_n C 0 dX11_pageOf_11 rfl rfl ?_
    refine pv_iload_n C 1 dX11_pageOf_12 rfl rfl ?_
    refine pv_iload_n C 2 dX11_pageOf_13 rfl rfl ?_
    refine pv_aload_n C 0 dX11_pageOf_14 rfl rfl ?_
    refine pv_iload_n C 1 dX11_pageOf_15 rfl rfl ?_
    refine pv_iload_n C 2 dX11_pageOf_16 rfl rfl ?_
    obtain ⟨v15, S16, e17, h⟩ := pq_bs h
    refine pv_calliV C (ci := 11) rfl (by decide) k0_ [.int x1, .int x2] (fun sz => r_X11_source W0 k0_ e17 sz) (cwV 2 C.1.2.2.2.2 gX11_pageOf_X11_source rfl rfl rfl (by decide +kernel) ⟨Nat.le_of_ble_eq_true rfl, Nat.le_of_ble_eq_true rfl⟩) rfl rfl (Nat.le_of_ble_eq_true rfl) dX11_pageOf_17 ⟨Nat.le_of_ble_eq_true rfl, Nat.le_of_ble_eq_true rfl⟩ ?_
    obtain ⟨⟨⟩, S19, e20, h⟩ := pq_bs h
    refine pv_callvV C (ci := 11) rfl (by decide) k0_ [.int x1, .int x2, .int v15] (fun sz => r_X11_find W0 k0_ e20 sz) (cwV 3 C.1.2.2.2.2 gX11_pageOf_X11_find rfl rfl rfl (by decide +kernel) ⟨Nat.le_of_ble_eq_true rfl, Nat.le_of_ble_eq_true rfl⟩) rfl rfl (Nat.le_of_ble_eq_true rfl) dX11_pageOf_20 ⟨Nat.le_of_ble_eq_true rfl, Nat.le_of_ble_eq_true rfl⟩ ?_
    refine pv_aload_n C 0 dX11_pageOf_23 rfl rfl ?_
    refine pv_geti (T := TX11) (N := 24) C 15 inu_X11_pageOf_11 rfl (by decide) (by decide) (List.mem_of_getElem? (i := 1) rfl) rfl k0_ dX11_pageOf_24 ?_
    refine pv_bipush (v := 8) C dX11_pageOf_27 (by decide) ?_
    refine pv_idiv C dX11_pageOf_29 (by decide) ?_
    exact pv_iret C hr hlk h dX11_pageOf_30
  · have h := pq_it c14 h
    refine pv_iconst (v := 0) C dX11_pageOf_9 (by decide) ?_
    exact pv_iret C hr hlk h dX11_pageOf_10
def F_X11_pagesOf_b14 (G : pq_G)  (S : pq_N) (a0 : Nat) (x1 : Int32) (t0 : Int32) (t1 : Nat) : Option (Int32 × pq_N) := (pq_bd (F_X11_holds G S t1 t0) fun v15 S16 => (if v15 = (0 : Int32) then some ((0 : Int32), S16) else (pq_bd (F_X11_get G S16 a0 x1 (4 : Int32)) fun v19 S20 => some ((((v19 + (8 : Int32)) - (1 : Int32)) / (8 : Int32)), S20))))
def F_X11_pagesOf (G : pq_G) (S : pq_N) (a0 : Nat) (x1 : Int32) : Option (Int32 × pq_N) := (pq_bd (F_X11_isPamphlet G S a0 x1) fun v11 S12 => (if v11 = (0 : Int32) then F_X11_pagesOf_b14 G S12 a0 x1 (1 : Int32) a0 else F_X11_pagesOf_b14 G S12 a0 x1 (0 : Int32) a0))
set_option maxHeartbeats 4000000 in
set_option maxRecDepth 100000 in
theorem r_X11_pagesOf_b14 {p : Program} {l : Launch} {e : Env} {s : State} {m : MethodId} {av : Array Value} {below : List Frame} {meth : Method} {c : Code} {D : va_G} {y : pq_Y} {G : pq_G} {r : Int32} {S1 : pq_N} (W0 : pq_WT G) (C : pq_C p s m av c D y RX11 wsX11_pagesOf cX11_pagesOf 2) (hr : meth.sig.returnType = (some .int)) (hlk : meth.locks = false) : ∀ (S : pq_N) (a0 : Nat) (x1 : Int32) (t0 : Int32) (t1 : Nat), pq_ok G 11 a0 → pq_ok G 11 t1 → F_X11_pagesOf_b14 G S a0 x1 t0 t1 = some (r, S1) → pq_V p l e (headSpec wsX11_pagesOf ({ frames := 2, cells := 0, slots := 0, locals := 43 } : Room)).room s m av below meth c 0 0 (MQ below (pq_Qi D y G s.heap.size r S1) av s 0 0 (pq_A G s.heap.size)) D y 2 (pq_A G s.heap.size) (fun _ => True) G S 14 [(0, .ref a0), (1, .int x1)] [.int t0, .ref t1] := by
  intro S a0 x1 t0 t1 k0_ kt1_ h
  unfold F_X11_pagesOf_b14 at h
  obtain ⟨v15, S16, e17, h⟩ := pq_bs h
  refine pv_calliV C (ci := 11) rfl (by decide) kt1_ [.int t0] (fun sz => r_X11_holds W0 kt1_ e17 sz) (cwV 1 C.1.2.2.2.2 gX11_pagesOf_X11_holds rfl rfl rfl (by decide +kernel) ⟨Nat.le_of_ble_eq_true rfl, Nat.le_of_ble_eq_true rfl⟩) rfl rfl (Nat.le_of_ble_eq_true rfl) dX11_pagesOf_14 ⟨Nat.le_of_ble_eq_true rfl, Nat.le_of_ble_eq_true rfl⟩ ?_
  refine pv_if_eq (tgt := 37) C dX11_pagesOf_17 (by decide) (fun c18 => ?_) (fun c18 => ?_)
  · have h := pq_it c18 h
    refine pv_iconst (v := 0) C dX11_pagesOf_37 (by decide) ?_
    exact pv_iret C hr hlk h dX11_pagesOf_38
  · have h := pq_if c18 h
    refine pv_aload_n C 0 dX11_pagesOf_20 rfl rfl ?_
    refine pv_iload_n C 1 dX11_pagesOf_21 rfl rfl ?_
    refine pv_iconst (v := 4) C dX11_pagesOf_22 (by decide) ?_
    obtain ⟨v19, S20, e21, h⟩ := pq_bs h
    refine pv_calliV C (ci := 11) rfl (by decide) k0_ [.int x1, .int (4 : Int32)] (fun sz => r_X11_get W0 k0_ e21 sz) (cwV 2 C.1.2.2.2.2 gX11_pagesOf_X11_get rfl rfl rfl (by decide +kernel) ⟨Nat.le_of_ble_eq_true rfl, Nat.le_of_ble_eq_true rfl⟩) rfl rfl (Nat.le_of_ble_eq_true rfl) dX11_pagesOf_23 ⟨Nat.le_of_ble_eq_true rfl, Nat.le_of_ble_eq_true rfl⟩ ?_
    refine pv_bipush (v := 8) C dX11_pagesOf_26 (by decide) ?_
    refine pv_iadd C dX11_pagesOf_28 ?_
    refine pv_iconst (v := 1) C dX11_pagesOf_29 (by decide) ?_
    refine pv_isub C dX11_pagesOf_30 ?_
    refine pv_bipush (v := 8) C dX11_pagesOf_31 (by decide) ?_
    refine pv_idiv C dX11_pagesOf_33 (by decide) ?_
    refine pv_goto (tgt := 38) C dX11_pagesOf_34 (by decide) ?_
    exact pv_iret C hr hlk h dX11_pagesOf_38
set_option maxHeartbeats 4000000 in
set_option maxRecDepth 100000 in
theorem r_X11_pagesOf {l : Launch} {D : va_G} {y : pq_Y} {G : pq_G} (W0 : pq_WT G) {S : pq_N} {a0 : Nat} {x1 : Int32} (k0_ : pq_ok G 11 a0) {r : Int32} {S1 : pq_N} (h : F_X11_pagesOf G S a0 x1 = some (r, S1)) (sz : Nat) : Met l yX11_pagesOf wsX11_pagesOf ({ frames := 2, cells := 0, slots := 0, locals := 43 } : Room) (pq_P D y G S sz [.ref a0, .int x1]) (pq_Qi D y G sz r S1) 0 0 (pq_A G sz) := by
  refine pq_enter RX11 2 (by decide) rfl rfl rfl ?_
  intro p e s m below meth c C hsz hr hlk
  subst hsz
  unfold F_X11_pagesOf at h
  refine pv_sub (lo1 := [(0, .ref a0), (1, .int x1)]) [0, 1] rfl ?_
  refine pv_aload_n C 0 dX11_pagesOf_0 rfl rfl ?_
  refine pv_aload_n C 0 dX11_pagesOf_1 rfl rfl ?_
  refine pv_iload_n C 1 dX11_pagesOf_2 rfl rfl ?_
  obtain ⟨v11, S12, e13, h⟩ := pq_bs h
  refine pv_calliV C (ci := 11) rfl (by decide) k0_ [.int x1] (fun sz => r_X11_isPamphlet W0 k0_ e13 sz) (cwV 1 C.1.2.2.2.2 gX11_pagesOf_X11_isPamphlet rfl rfl rfl (by decide +kernel) ⟨Nat.le_of_ble_eq_true rfl, Nat.le_of_ble_eq_true rfl⟩) rfl rfl (Nat.le_of_ble_eq_true rfl) dX11_pagesOf_3 ⟨Nat.le_of_ble_eq_true rfl, Nat.le_of_ble_eq_true rfl⟩ ?_
  refine pv_if_eq (tgt := 13) C dX11_pagesOf_6 (by decide) (fun c14 => ?_) (fun c14 => ?_)
  · have h := pq_it c14 h
    refine pv_iconst (v := 1) C dX11_pagesOf_13 (by decide) ?_
    refine pv_sub [0, 1] rfl ?_
    exact r_X11_pagesOf_b14 W0 C hr hlk _ _ _ _ _ k0_ k0_ h
  · have h := pq_if c14 h
    refine pv_iconst (v := 0) C dX11_pagesOf_9 (by decide) ?_
    refine pv_goto (tgt := 14) C dX11_pagesOf_10 (by decide) ?_
    refine pv_sub [0, 1] rfl ?_
    exact r_X11_pagesOf_b14 W0 C hr hlk _ _ _ _ _ k0_ k0_ h
def F_X11_pamphlets (G : pq_G) (S : pq_N) (a0 : Nat) : Option (Int32 × pq_N) := (if (1 : Int32) < 0 ∨ pq_n G (pq_r G a0 0) ≤ (Int32.toNatClampNeg (1 : Int32)) then none else (pq_bd (F_X11_plain G S a0 (S.1 (pq_r G a0 0) (Int32.toNatClampNeg (1 : Int32)))) fun v13 S14 => some (v13, S14)))
theorem inu_X11_pamphlets_11 : ∀ w ∈ u_ws RX11 TX11 24, w ∈ wsX11_pamphlets := pq_inu 8 rfl
set_option maxHeartbeats 4000000 in
set_option maxRecDepth 100000 in
theorem r_X11_pamphlets {l : Launch} {D : va_G} {y : pq_Y} {G : pq_G} (W0 : pq_WT G) {S : pq_N} {a0 : Nat} (k0_ : pq_ok G 11 a0) {r : Int32} {S1 : pq_N} (h : F_X11_pamphlets G S a0 = some (r, S1)) (sz : Nat) : Met l yX11_pamphlets wsX11_pamphlets ({ frames := 1, cells := 0, slots := 0, locals := 21 } : Room) (pq_P D y G S sz [.ref a0]) (pq_Qi D y G sz r S1) 0 0 (pq_A G sz) := by
  refine pq_enter RX11 1 (by decide) rfl rfl rfl ?_
  intro p e s m below meth c C hsz hr hlk
  subst hsz
  unfold F_X11_pamphlets at h
  refine pv_sub (lo1 := [(0, .ref a0)]) [0] rfl ?_
  refine pv_aload_n C 0 dX11_pamphlets_0 rfl rfl ?_
  refine pv_aload_n C 0 dX11_pamphlets_1 rfl rfl ?_
  have k11 := pq_wt (k := 0) W0 k0_ rfl
  refine pv_getr (T := TX11) (N := 24) C 0 inu_X11_pamphlets_11 rfl (by decide) (by decide) (List.mem_of_getElem? (i := 1) rfl) rfl k0_ k11.1 dX11_pamphlets_2 ?_
  refine pv_iconst (v := 1) C dX11_pamphlets_5 (by decide) ?_
  obtain ⟨g12, h⟩ := pq_gd h
  refine pv_iaload C k11.2 g12 dX11_pamphlets_6 ?_
  obtain ⟨v13, S14, e15, h⟩ := pq_bs h
  refine pv_calliV C (ci := 11) rfl (by decide) k0_ [.int (S.1 (pq_r G a0 0) (Int32.toNatClampNeg (1 : Int32)))] (fun sz => r_X11_plain W0 k0_ e15 sz) (cwV 1 C.1.2.2.2.2 gX11_pamphlets_X11_plain rfl rfl rfl (by decide +kernel) ⟨Nat.le_of_ble_eq_true rfl, Nat.le_of_ble_eq_true rfl⟩) rfl rfl (Nat.le_of_ble_eq_true rfl) dX11_pamphlets_7 ⟨Nat.le_of_ble_eq_true rfl, Nat.le_of_ble_eq_true rfl⟩ ?_
  exact pv_iret C hr hlk h dX11_pamphlets_10
def F_X11_pass_b16 (G : pq_G)  (S : pq_N) (a0 : Nat) (x1 : Int32) (t0 : Int32) (t1 : Nat) : Option (Int32 × pq_N) := (pq_bd (F_X11_holds G S t1 t0) fun v15 S16 => (if v15 = (0 : Int32) then some ((0 : Int32), S16) else (pq_bd (F_X11_save G S16 a0) fun _ S20 => (if (0 : Int32) < 0 ∨ pq_n G (pq_r G a0 0) ≤ (Int32.toNatClampNeg (0 : Int32)) then none else (if (0 : Int32) < 0 ∨ pq_n G (pq_r G a0 0) ≤ (Int32.toNatClampNeg (0 : Int32)) then none else (pq_lt (pq_wi S20 (pq_r G a0 0) (Int32.toNatClampNeg (0 : Int32)) ((S20.1 (pq_r G a0 0) (Int32.toNatClampNeg (0 : Int32))) + x1)) fun S25 => (if (0 : Int32) < 0 ∨ pq_n G (pq_r G a0 0) ≤ (Int32.toNatClampNeg (0 : Int32)) then none else some ((S25.1 (pq_r G a0 0) (Int32.toNatClampNeg (0 : Int32))), S25))))))))
def F_X11_pass (G : pq_G) (S : pq_N) (a0 : Nat) (x1 : Int32) : Option (Int32 × pq_N) := (pq_bd (F_X11_in G S x1 (1 : Int32) (100 : Int32)) fun v11 S12 => (if v11 = (0 : Int32) then F_X11_pass_b16 G S12 a0 x1 (1 : Int32) a0 else F_X11_pass_b16 G S12 a0 x1 (0 : Int32) a0))
theorem inu_X11_pass_11 : ∀ w ∈ u_ws RX11 TX11 24, w ∈ wsX11_pass := pq_inu 23 rfl
set_option maxHeartbeats 4000000 in
set_option maxRecDepth 100000 in
theorem r_X11_pass_b16 {p : Program} {l : Launch} {e : Env} {s : State} {m : MethodId} {av : Array Value} {below : List Frame} {meth : Method} {c : Code} {D : va_G} {y : pq_Y} {G : pq_G} {r : Int32} {S1 : pq_N} (W0 : pq_WT G) (C : pq_C p s m av c D y RX11 wsX11_pass cX11_pass 2) (hr : meth.sig.returnType = (some .int)) (hlk : meth.locks = false) : ∀ (S : pq_N) (a0 : Nat) (x1 : Int32) (t0 : Int32) (t1 : Nat), pq_ok G 11 a0 → pq_ok G 11 t1 → F_X11_pass_b16 G S a0 x1 t0 t1 = some (r, S1) → pq_V p l e (headSpec wsX11_pass ({ frames := 2, cells := 0, slots := 0, locals := 43 } : Room)).room s m av below meth c 0 0 (MQ below (pq_Qi D y G s.heap.size r S1) av s 0 0 (pq_A G s.heap.size)) D y 2 (pq_A G s.heap.size) (fun _ => True) G S 16 [(0, .ref a0), (1, .int x1)] [.int t0, .ref t1] := by
  intro S a0 x1 t0 t1 k0_ kt1_ h
  unfold F_X11_pass_b16 at h
  obtain ⟨v15, S16, e17, h⟩ := pq_bs h
  refine pv_calliV C (ci := 11) rfl (by decide) kt1_ [.int t0] (fun sz => r_X11_holds W0 kt1_ e17 sz) (cwV 1 C.1.2.2.2.2 gX11_pass_X11_holds rfl rfl rfl (by decide +kernel) ⟨Nat.le_of_ble_eq_true rfl, Nat.le_of_ble_eq_true rfl⟩) rfl rfl (Nat.le_of_ble_eq_true rfl) dX11_pass_16 ⟨Nat.le_of_ble_eq_true rfl, Nat.le_of_ble_eq_true rfl⟩ ?_
  refine pv_if_ne (tgt := 24) C dX11_pass_19 (by decide) (fun c18 => ?_) (fun c18 => ?_)
  · have h := pq_if c18 h
    refine pv_aload_n C 0 dX11_pass_24 rfl rfl ?_
    obtain ⟨⟨⟩, S20, e21, h⟩ := pq_bs h
    refine pv_callvV C (ci := 11) rfl (by decide) k0_ [] (fun sz => r_X11_save W0 k0_ e21 sz) (cwV 0 C.1.2.2.2.2 gX11_pass_X11_save rfl rfl rfl (by decide +kernel) ⟨Nat.le_of_ble_eq_true rfl, Nat.le_of_ble_eq_true rfl⟩) rfl rfl (Nat.le_of_ble_eq_true rfl) dX11_pass_25 ⟨Nat.le_of_ble_eq_true rfl, Nat.le_of_ble_eq_true rfl⟩ ?_
    refine pv_aload_n C 0 dX11_pass_28 rfl rfl ?_
    have k22 := pq_wt (k := 0) W0 k0_ rfl
    refine pv_getr (T := TX11) (N := 24) C 0 inu_X11_pass_11 rfl (by decide) (by decide) (List.mem_of_getElem? (i := 1) rfl) rfl k0_ k22.1 dX11_pass_29 ?_
    refine pv_iconst (v := 0) C dX11_pass_32 (by decide) ?_
    refine pv_dup2 C dX11_pass_33 rfl rfl ?_
    obtain ⟨g23, h⟩ := pq_gd h
    refine pv_iaload C k22.2 g23 dX11_pass_34 ?_
    refine pv_iload_n C 1 dX11_pass_35 rfl rfl ?_
    refine pv_iadd C dX11_pass_36 ?_
    obtain ⟨g24, h⟩ := pq_gd h
    refine pv_iastore C k22.2 g24 dX11_pass_37 ?_
    refine pv_nm (fun S25 e26 => ?_)
    have h := pq_ls e26 h
    refine pv_aload_n C 0 dX11_pass_38 rfl rfl ?_
    have k27 := pq_wt (k := 0) W0 k0_ rfl
    refine pv_getr (T := TX11) (N := 24) C 0 inu_X11_pass_11 rfl (by decide) (by decide) (List.mem_of_getElem? (i := 1) rfl) rfl k0_ k27.1 dX11_pass_39 ?_
    refine pv_iconst (v := 0) C dX11_pass_42 (by decide) ?_
    obtain ⟨g28, h⟩ := pq_gd h
    refine pv_iaload C k27.2 g28 dX11_pass_43 ?_
    exact pv_iret C hr hlk h dX11_pass_44
  · have h := pq_it c18 h
    refine pv_iconst (v := 0) C dX11_pass_22 (by decide) ?_
    exact pv_iret C hr hlk h dX11_pass_23
set_option maxHeartbeats 4000000 in
set_option maxRecDepth 100000 in
theorem r_X11_pass {l : Launch} {D : va_G} {y : pq_Y} {G : pq_G} (W0 : pq_WT G) {S : pq_N} {a0 : Nat} {x1 : Int32} (k0_ : pq_ok G 11 a0) {r : Int32} {S1 : pq_N} (h : F_X11_pass G S a0 x1 = some (r, S1)) (sz : Nat) : Met l yX11_pass wsX11_pass ({ frames := 2, cells := 0, slots := 0, locals := 43 } : Room) (pq_P D y G S sz [.ref a0, .int x1]) (pq_Qi D y G sz r S1) 0 0 (pq_A G sz) := by
  refine pq_enter RX11 2 (by decide) rfl rfl rfl ?_
  intro p e s m below meth c C hsz hr hlk
  subst hsz
  unfold F_X11_pass at h
  refine pv_sub (lo1 := [(0, .ref a0), (1, .int x1)]) [0, 1] rfl ?_
  refine pv_aload_n C 0 dX11_pass_0 rfl rfl ?_
  refine pv_iload_n C 1 dX11_pass_1 rfl rfl ?_
  refine pv_iconst (v := 1) C dX11_pass_2 (by decide) ?_
  refine pv_bipush (v := 100) C dX11_pass_3 (by decide) ?_
  obtain ⟨v11, S12, e13, h⟩ := pq_bs h
  refine pv_calliS C [.int x1, .int (1 : Int32), .int (100 : Int32)] (fun sz => r_X11_in W0  e13 sz) (va_cwS 3 C.1.2.2.2.2 gX11_pass_X11_in rfl rfl rfl (by decide +kernel) ⟨Nat.le_of_ble_eq_true rfl, Nat.le_of_ble_eq_true rfl⟩) rfl rfl (Nat.le_of_ble_eq_true rfl) dX11_pass_5 ⟨Nat.le_of_ble_eq_true rfl, Nat.le_of_ble_eq_true rfl⟩ ?_
  refine pv_if_eq (tgt := 15) C dX11_pass_8 (by decide) (fun c14 => ?_) (fun c14 => ?_)
  · have h := pq_it c14 h
    refine pv_iconst (v := 1) C dX11_pass_15 (by decide) ?_
    refine pv_sub [0, 1] rfl ?_
    exact r_X11_pass_b16 W0 C hr hlk _ _ _ _ _ k0_ k0_ h
  · have h := pq_if c14 h
    refine pv_iconst (v := 0) C dX11_pass_11 (by decide) ?_
    refine pv_goto (tgt := 16) C dX11_pass_12 (by decide) ?_
    refine pv_sub [0, 1] rfl ?_
    exact r_X11_pass_b16 W0 C hr hlk _ _ _ _ _ k0_ k0_ h
def F_X11_passageLength (G : pq_G) (S : pq_N) (a0 : Nat) (x1 : Int32) (x2 : Int32) : Option (Int32 × pq_N) := (pq_bd (F_X11_isTold G S a0 x1 x2) fun v11 S12 => (if v11 = (0 : Int32) then some ((0 : Int32), S12) else (pq_bd (F_X11_source G S12 a0 x1 x2) fun v15 S16 => (pq_bd (F_X11_find G S16 a0 x1 x2 v15) fun _ S19 => some ((S19.1 a0 16), S19)))))
theorem inu_X11_passageLength_11 : ∀ w ∈ u_ws RX11 TX11 24, w ∈ wsX11_passageLength := pq_inu 60 rfl
set_option maxHeartbeats 4000000 in
set_option maxRecDepth 100000 in
theorem r_X11_passageLength {l : Launch} {D : va_G} {y : pq_Y} {G : pq_G} (W0 : pq_WT G) {S : pq_N} {a0 : Nat} {x1 : Int32} {x2 : Int32} (k0_ : pq_ok G 11 a0) {r : Int32} {S1 : pq_N} (h : F_X11_passageLength G S a0 x1 x2 = some (r, S1)) (sz : Nat) : Met l yX11_passageLength wsX11_passageLength ({ frames := 4, cells := 0, slots := 0, locals := 100 } : Room) (pq_P D y G S sz [.ref a0, .int x1, .int x2]) (pq_Qi D y G sz r S1) 0 0 (pq_A G sz) := by
  refine pq_enter RX11 3 (by decide) rfl rfl rfl ?_
  intro p e s m below meth c C hsz hr hlk
  subst hsz
  unfold F_X11_passageLength at h
  refine pv_sub (lo1 := [(0, .ref a0), (1, .int x1), (2, .int x2)]) [0, 1, 2] rfl ?_
  refine pv_aload_n C 0 dX11_passageLength_0 rfl rfl ?_
  refine pv_iload_n C 1 dX11_passageLength_1 rfl rfl ?_
  refine pv_iload_n C 2 dX11_passageLength_2 rfl rfl ?_
  obtain ⟨v11, S12, e13, h⟩ := pq_bs h
  refine pv_calliV C (ci := 11) rfl (by decide) k0_ [.int x1, .int x2] (fun sz => r_X11_isTold W0 k0_ e13 sz) (cwV 2 C.1.2.2.2.2 gX11_passageLength_X11_isTold rfl rfl rfl (by decide +kernel) ⟨Nat.le_of_ble_eq_true rfl, Nat.le_of_ble_eq_true rfl⟩) rfl rfl (Nat.le_of_ble_eq_true rfl) dX11_passageLength_3 ⟨Nat.le_of_ble_eq_true rfl, Nat.le_of_ble_eq_true rfl⟩ ?_
  refine pv_if_ne (tgt := 11) C dX11_passageLength_6 (by decide) (fun c14 => ?_) (fun c14 => ?_)
  · have h := pq_if c14 h
    refine pv_aload_n C 0 dX11_passageLength_11 rfl rfl ?_
    refine pv_iload_n C 1 dX11_passageLength_12 rfl rfl ?_
    refine pv_iload_n C 2 dX11_passageLength_13 rfl rfl ?_
    refine pv_aload_n C 0 dX11_passageLength_14 rfl rfl ?_
    refine pv_iload_n C 1 dX11_passageLength_15 rfl rfl ?_
    refine pv_iload_n C 2 dX11_passageLength_16 rfl rfl ?_
    obtain ⟨v15, S16, e17, h⟩ := pq_bs h
    refine pv_calliV C (ci := 11) rfl (by decide) k0_ [.int x1, .int x2] (fun sz => r_X11_source W0 k0_ e17 sz) (cwV 2 C.1.2.2.2.2 gX11_passageLength_X11_source rfl rfl rfl (by decide +kernel) ⟨Nat.le_of_ble_eq_true rfl, Nat.le_of_ble_eq_true rfl⟩) rfl rfl (Nat.le_of_ble_eq_true rfl) dX11_passageLength_17 ⟨Nat.le_of_ble_eq_true rfl, Nat.le_of_ble_eq_true rfl⟩ ?_
    obtain ⟨⟨⟩, S19, e20, h⟩ := pq_bs h
    refine pv_callvV C (ci := 11) rfl (by decide) k0_ [.int x1, .int x2, .int v15] (fun sz => r_X11_find W0 k0_ e20 sz) (cwV 3 C.1.2.2.2.2 gX11_passageLength_X11_find rfl rfl rfl (by decide +kernel) ⟨Nat.le_of_ble_eq_true rfl, Nat.le_of_ble_eq_true rfl⟩) rfl rfl (Nat.le_of_ble_eq_true rfl) dX11_passageLength_20 ⟨Nat.le_of_ble_eq_true rfl, Nat.le_of_ble_eq_true rfl⟩ ?_
    refine pv_aload_n C 0 dX11_passageLength_23 rfl rfl ?_
    refine pv_geti (T := TX11) (N := 24) C 16 inu_X11_passageLength_11 rfl (by decide) (by decide) (List.mem_of_getElem? (i := 1) rfl) rfl k0_ dX11_passageLength_24 ?_
    exact pv_iret C hr hlk h dX11_passageLength_27
  · have h := pq_it c14 h
    refine pv_iconst (v := 0) C dX11_passageLength_9 (by decide) ?_
    exact pv_iret C hr hlk h dX11_passageLength_10
def F_X11_passageOf (G : pq_G) (S : pq_N) (a0 : Nat) (x1 : Int32) (x2 : Int32) : Option (Int32 × pq_N) := (pq_bd (F_X11_isTold G S a0 x1 x2) fun v11 S12 => (if v11 = (0 : Int32) then some ((0 : Int32), S12) else (pq_bd (F_X11_source G S12 a0 x1 x2) fun v15 S16 => (pq_bd (F_X11_find G S16 a0 x1 x2 v15) fun _ S19 => some ((S19.1 a0 15), S19)))))
theorem inu_X11_passageOf_11 : ∀ w ∈ u_ws RX11 TX11 24, w ∈ wsX11_passageOf := pq_inu 60 rfl
set_option maxHeartbeats 4000000 in
set_option maxRecDepth 100000 in
theorem r_X11_passageOf {l : Launch} {D : va_G} {y : pq_Y} {G : pq_G} (W0 : pq_WT G) {S : pq_N} {a0 : Nat} {x1 : Int32} {x2 : Int32} (k0_ : pq_ok G 11 a0) {r : Int32} {S1 : pq_N} (h : F_X11_passageOf G S a0 x1 x2 = some (r, S1)) (sz : Nat) : Met l yX11_passageOf wsX11_passageOf ({ frames := 4, cells := 0, slots := 0, locals := 100 } : Room) (pq_P D y G S sz [.ref a0, .int x1, .int x2]) (pq_Qi D y G sz r S1) 0 0 (pq_A G sz) := by
  refine pq_enter RX11 3 (by decide) rfl rfl rfl ?_
  intro p e s m below meth c C hsz hr hlk
  subst hsz
  unfold F_X11_passageOf at h
  refine pv_sub (lo1 := [(0, .ref a0), (1, .int x1), (2, .int x2)]) [0, 1, 2] rfl ?_
  refine pv_aload_n C 0 dX11_passageOf_0 rfl rfl ?_
  refine pv_iload_n C 1 dX11_passageOf_1 rfl rfl ?_
  refine pv_iload_n C 2 dX11_passageOf_2 rfl rfl ?_
  obtain ⟨v11, S12, e13, h⟩ := pq_bs h
  refine pv_calliV C (ci := 11) rfl (by decide) k0_ [.int x1, .int x2] (fun sz => r_X11_isTold W0 k0_ e13 sz) (cwV 2 C.1.2.2.2.2 gX11_passageOf_X11_isTold rfl rfl rfl (by decide +kernel) ⟨Nat.le_of_ble_eq_true rfl, Nat.le_of_ble_eq_true rfl⟩) rfl rfl (Nat.le_of_ble_eq_true rfl) dX11_passageOf_3 ⟨Nat.le_of_ble_eq_true rfl, Nat.le_of_ble_eq_true rfl⟩ ?_
  refine pv_if_ne (tgt := 11) C dX11_passageOf_6 (by decide) (fun c14 => ?_) (fun c14 => ?_)
  · have h := pq_if c14 h
    refine pv_aload_n C 0 dX11_passageOf_11 rfl rfl ?_
    refine pv_iload_n C 1 dX11_passageOf_12 rfl rfl ?_
    refine pv_iload_n C 2 dX11_passageOf_13 rfl rfl ?_
    refine pv_aload_n C 0 dX11_passageOf_14 rfl rfl ?_
    refine pv_iload_n C 1 dX11_passageOf_15 rfl rfl ?_
    refine pv_iload_n C 2 dX11_passageOf_16 rfl rfl ?_
    obtain ⟨v15, S16, e17, h⟩ := pq_bs h
    refine pv_calliV C (ci := 11) rfl (by decide) k0_ [.int x1, .int x2] (fun sz => r_X11_source W0 k0_ e17 sz) (cwV 2 C.1.2.2.2.2 gX11_passageOf_X11_source rfl rfl rfl (by decide +kernel) ⟨Nat.le_of_ble_eq_true rfl, Nat.le_of_ble_eq_true rfl⟩) rfl rfl (Nat.le_of_ble_eq_true rfl) dX11_passageOf_17 ⟨Nat.le_of_ble_eq_true rfl, Nat.le_of_ble_eq_true rfl⟩ ?_
    obtain ⟨⟨⟩, S19, e20, h⟩ := pq_bs h
    refine pv_callvV C (ci := 11) rfl (by decide) k0_ [.int x1, .int x2, .int v15] (fun sz => r_X11_find W0 k0_ e20 sz) (cwV 3 C.1.2.2.2.2 gX11_passageOf_X11_find rfl rfl rfl (by decide +kernel) ⟨Nat.le_of_ble_eq_true rfl, Nat.le_of_ble_eq_true rfl⟩) rfl rfl (Nat.le_of_ble_eq_true rfl) dX11_passageOf_20 ⟨Nat.le_of_ble_eq_true rfl, Nat.le_of_ble_eq_true rfl⟩ ?_
    refine pv_aload_n C 0 dX11_passageOf_23 rfl rfl ?_
    refine pv_geti (T := TX11) (N := 24) C 15 inu_X11_passageOf_11 rfl (by decide) (by decide) (List.mem_of_getElem? (i := 1) rfl) rfl k0_ dX11_passageOf_24 ?_
    exact pv_iret C hr hlk h dX11_passageOf_27
  · have h := pq_it c14 h
    refine pv_iconst (v := 0) C dX11_passageOf_9 (by decide) ?_
    exact pv_iret C hr hlk h dX11_passageOf_10
def F_X11_why (G : pq_G) (S : pq_N) (a0 : Nat) : Option (Int32 × pq_N) := (if (1 : Int32) < 0 ∨ pq_n G (pq_r G a0 0) ≤ (Int32.toNatClampNeg (1 : Int32)) then none else (if (S.1 (pq_r G a0 0) (Int32.toNatClampNeg (1 : Int32))) = (20 : Int32) then some ((1 : Int32), S) else (pq_bd (F_X11_readText G S a0 (20 : Int32)) fun v14 S15 => (if v14 = (0 : Int32) then some ((2 : Int32), S15) else some ((S15.1 a0 10), S15)))))
theorem inu_X11_why_11 : ∀ w ∈ u_ws RX11 TX11 24, w ∈ wsX11_why := pq_inu 48 rfl
set_option maxHeartbeats 4000000 in
set_option maxRecDepth 100000 in
theorem r_X11_why {l : Launch} {D : va_G} {y : pq_Y} {G : pq_G} (W0 : pq_WT G) {S : pq_N} {a0 : Nat} (k0_ : pq_ok G 11 a0) {r : Int32} {S1 : pq_N} (h : F_X11_why G S a0 = some (r, S1)) (sz : Nat) : Met l yX11_why wsX11_why ({ frames := 5, cells := 0, slots := 0, locals := 118 } : Room) (pq_P D y G S sz [.ref a0]) (pq_Qi D y G sz r S1) 0 0 (pq_A G sz) := by
  refine pq_enter RX11 1 (by decide) rfl rfl rfl ?_
  intro p e s m below meth c C hsz hr hlk
  subst hsz
  unfold F_X11_why at h
  refine pv_sub (lo1 := [(0, .ref a0)]) [0] rfl ?_
  refine pv_aload_n C 0 dX11_why_0 rfl rfl ?_
  have k11 := pq_wt (k := 0) W0 k0_ rfl
  refine pv_getr (T := TX11) (N := 24) C 0 inu_X11_why_11 rfl (by decide) (by decide) (List.mem_of_getElem? (i := 1) rfl) rfl k0_ k11.1 dX11_why_1 ?_
  refine pv_iconst (v := 1) C dX11_why_4 (by decide) ?_
  obtain ⟨g12, h⟩ := pq_gd h
  refine pv_iaload C k11.2 g12 dX11_why_5 ?_
  refine pv_bipush (v := 20) C dX11_why_6 (by decide) ?_
  refine pv_icmp_ne (tgt := 13) C dX11_why_8 (by decide) (fun c13 => ?_) (fun c13 => ?_)
  · have h := pq_if c13 h
    refine pv_aload_n C 0 dX11_why_13 rfl rfl ?_
    refine pv_bipush (v := 20) C dX11_why_14 (by decide) ?_
    obtain ⟨v14, S15, e16, h⟩ := pq_bs h
    refine pv_calliV C (ci := 11) rfl (by decide) k0_ [.int (20 : Int32)] (fun sz => r_X11_readText W0 k0_ e16 sz) (cwV 1 C.1.2.2.2.2 gX11_why_X11_readText rfl rfl rfl (by decide +kernel) ⟨Nat.le_of_ble_eq_true rfl, Nat.le_of_ble_eq_true rfl⟩) rfl rfl (Nat.le_of_ble_eq_true rfl) dX11_why_16 ⟨Nat.le_of_ble_eq_true rfl, Nat.le_of_ble_eq_true rfl⟩ ?_
    refine pv_if_eq (tgt := 29) C dX11_why_19 (by decide) (fun c17 => ?_) (fun c17 => ?_)
    · have h := pq_it c17 h
      refine pv_iconst (v := 2) C dX11_why_29 (by decide) ?_
      exact pv_iret C hr hlk h dX11_why_30
    · have h := pq_if c17 h
      refine pv_aload_n C 0 dX11_why_22 rfl rfl ?_
      refine pv_geti (T := TX11) (N := 24) C 10 inu_X11_why_11 rfl (by decide) (by decide) (List.mem_of_getElem? (i := 2) rfl) rfl k0_ dX11_why_23 ?_
      refine pv_goto (tgt := 30) C dX11_why_26 (by decide) ?_
      exact pv_iret C hr hlk h dX11_why_30
  · have h := pq_it c13 h
    refine pv_iconst (v := 1) C dX11_why_11 (by decide) ?_
    exact pv_iret C hr hlk h dX11_why_12
def F_X11_print_b24 (G : pq_G)  (S : pq_N) (a0 : Nat) (x1 : Int32) (t0 : Int32) (t1 : Nat) : Option (Int32 × pq_N) := (pq_bd (F_X11_holds G S t1 t0) fun v19 S20 => (if v19 = (0 : Int32) then some ((0 : Int32), S20) else (pq_bd (F_X11_save G S20 a0) fun _ S24 => (if (1 : Int32) < 0 ∨ pq_n G (pq_r G a0 0) ≤ (Int32.toNatClampNeg (1 : Int32)) then none else (pq_lt (S24.1 (pq_r G a0 0) (Int32.toNatClampNeg (1 : Int32))) fun i28 => (pq_bd (F_X11_readText G S24 a0 i28) fun v30 S31 => (if (((52 : Int32) * i28) + (2 : Int32)) < 0 ∨ pq_n G (pq_r G a0 0) ≤ (Int32.toNatClampNeg (((52 : Int32) * i28) + (2 : Int32))) then none else (pq_lt (pq_wi S31 (pq_r G a0 0) (Int32.toNatClampNeg (((52 : Int32) * i28) + (2 : Int32))) x1) fun S35 => (if (0 : Int32) < 0 ∨ pq_n G (pq_r G a0 0) ≤ (Int32.toNatClampNeg (0 : Int32)) then none else (if (((52 : Int32) * i28) + (3 : Int32)) < 0 ∨ pq_n G (pq_r G a0 0) ≤ (Int32.toNatClampNeg (((52 : Int32) * i28) + (3 : Int32))) then none else (pq_lt (pq_wi S35 (pq_r G a0 0) (Int32.toNatClampNeg (((52 : Int32) * i28) + (3 : Int32))) (S35.1 (pq_r G a0 0) (Int32.toNatClampNeg (0 : Int32)))) fun S41 => (if (((52 : Int32) * i28) + (4 : Int32)) < 0 ∨ pq_n G (pq_r G a0 0) ≤ (Int32.toNatClampNeg (((52 : Int32) * i28) + (4 : Int32))) then none else (pq_lt (pq_wi S41 (pq_r G a0 0) (Int32.toNatClampNeg (((52 : Int32) * i28) + (4 : Int32))) (S41.1 a0 11)) fun S45 => (if (((52 : Int32) * i28) + (5 : Int32)) < 0 ∨ pq_n G (pq_r G a0 0) ≤ (Int32.toNatClampNeg (((52 : Int32) * i28) + (5 : Int32))) then none else (pq_lt (pq_wi S45 (pq_r G a0 0) (Int32.toNatClampNeg (((52 : Int32) * i28) + (5 : Int32))) (S45.1 a0 12)) fun S49 => (if (1 : Int32) < 0 ∨ pq_n G (pq_r G a0 0) ≤ (Int32.toNatClampNeg (1 : Int32)) then none else (if (1 : Int32) < 0 ∨ pq_n G (pq_r G a0 0) ≤ (Int32.toNatClampNeg (1 : Int32)) then none else (pq_lt (pq_wi S49 (pq_r G a0 0) (Int32.toNatClampNeg (1 : Int32)) ((S49.1 (pq_r G a0 0) (Int32.toNatClampNeg (1 : Int32))) + (1 : Int32))) fun S54 => (pq_lt (pq_wi S54 a0 7 (0 : Int32)) fun S56 => some (i28, S56))))))))))))))))))))
def F_X11_print (G : pq_G) (S : pq_N) (a0 : Nat) (x1 : Int32) : Option (Int32 × pq_N) := (pq_bd (F_X11_isAuthor G S x1) fun v11 S12 => (if v11 = (0 : Int32) then F_X11_print_b24 G S12 a0 x1 (1 : Int32) a0 else (pq_bd (F_X11_why G S12 a0) fun v15 S16 => (if v15 ≤ (0 : Int32) then F_X11_print_b24 G S16 a0 x1 (0 : Int32) a0 else F_X11_print_b24 G S16 a0 x1 (2 : Int32) a0))))
theorem inu_X11_print_11 : ∀ w ∈ u_ws RX11 TX11 24, w ∈ wsX11_print := pq_inu 71 rfl
set_option maxHeartbeats 4000000 in
set_option maxRecDepth 100000 in
theorem r_X11_print_b24 {p : Program} {l : Launch} {e : Env} {s : State} {m : MethodId} {av : Array Value} {below : List Frame} {meth : Method} {c : Code} {D : va_G} {y : pq_Y} {G : pq_G} {r : Int32} {S1 : pq_N} (W0 : pq_WT G) (C : pq_C p s m av c D y RX11 wsX11_print cX11_print 4) (hr : meth.sig.returnType = (some .int)) (hlk : meth.locks = false) : ∀ (S : pq_N) (a0 : Nat) (x1 : Int32) (t0 : Int32) (t1 : Nat), pq_ok G 11 a0 → pq_ok G 11 t1 → F_X11_print_b24 G S a0 x1 t0 t1 = some (r, S1) → pq_V p l e (headSpec wsX11_print ({ frames := 6, cells := 0, slots := 0, locals := 138 } : Room)).room s m av below meth c 0 0 (MQ below (pq_Qi D y G s.heap.size r S1) av s 0 0 (pq_A G s.heap.size)) D y 4 (pq_A G s.heap.size) (fun _ => True) G S 24 [(0, .ref a0), (1, .int x1)] [.int t0, .ref t1] := by
  intro S a0 x1 t0 t1 k0_ kt1_ h
  unfold F_X11_print_b24 at h
  obtain ⟨v19, S20, e21, h⟩ := pq_bs h
  refine pv_calliV C (ci := 11) rfl (by decide) kt1_ [.int t0] (fun sz => r_X11_holds W0 kt1_ e21 sz) (cwV 1 C.1.2.2.2.2 gX11_print_X11_holds rfl rfl rfl (by decide +kernel) ⟨Nat.le_of_ble_eq_true rfl, Nat.le_of_ble_eq_true rfl⟩) rfl rfl (Nat.le_of_ble_eq_true rfl) dX11_print_24 ⟨Nat.le_of_ble_eq_true rfl, Nat.le_of_ble_eq_true rfl⟩ ?_
  refine pv_if_ne (tgt := 32) C dX11_print_27 (by decide) (fun c22 => ?_) (fun c22 => ?_)
  · have h := pq_if c22 h
    refine pv_aload_n C 0 dX11_print_32 rfl rfl ?_
    obtain ⟨⟨⟩, S24, e25, h⟩ := pq_bs h
    refine pv_callvV C (ci := 11) rfl (by decide) k0_ [] (fun sz => r_X11_save W0 k0_ e25 sz) (cwV 0 C.1.2.2.2.2 gX11_print_X11_save rfl rfl rfl (by decide +kernel) ⟨Nat.le_of_ble_eq_true rfl, Nat.le_of_ble_eq_true rfl⟩) rfl rfl (Nat.le_of_ble_eq_true rfl) dX11_print_33 ⟨Nat.le_of_ble_eq_true rfl, Nat.le_of_ble_eq_true rfl⟩ ?_
    refine pv_aload_n C 0 dX11_print_36 rfl rfl ?_
    have k26 := pq_wt (k := 0) W0 k0_ rfl
    refine pv_getr (T := TX11) (N := 24) C 0 inu_X11_print_11 rfl (by decide) (by decide) (List.mem_of_getElem? (i := 1) rfl) rfl k0_ k26.1 dX11_print_37 ?_
    refine pv_iconst (v := 1) C dX11_print_40 (by decide) ?_
    obtain ⟨g27, h⟩ := pq_gd h
    refine pv_iaload C k26.2 g27 dX11_print_41 ?_
    refine pv_nmi (fun i28 e29 => ?_)
    have h := pq_ls e29 h
    refine pv_istore_n C [(2, .int i28), (0, .ref a0), (1, .int x1)] dX11_print_42 rfl (by decide) rfl ?_
    refine pv_aload_n C 1 dX11_print_43 rfl rfl ?_
    refine pv_iload_n C 0 dX11_print_44 rfl rfl ?_
    obtain ⟨v30, S31, e32, h⟩ := pq_bs h
    refine pv_calliV C (ci := 11) rfl (by decide) k0_ [.int i28] (fun sz => r_X11_readText W0 k0_ e32 sz) (cwV 1 C.1.2.2.2.2 gX11_print_X11_readText rfl rfl rfl (by decide +kernel) ⟨Nat.le_of_ble_eq_true rfl, Nat.le_of_ble_eq_true rfl⟩) rfl rfl (Nat.le_of_ble_eq_true rfl) dX11_print_45 ⟨Nat.le_of_ble_eq_true rfl, Nat.le_of_ble_eq_true rfl⟩ ?_
    refine pv_istore_n C [(3, .int v30), (2, .int i28), (0, .ref a0), (1, .int x1)] dX11_print_48 rfl (by decide) rfl ?_
    refine pv_aload_n C 2 dX11_print_49 rfl rfl ?_
    have k33 := pq_wt (k := 0) W0 k0_ rfl
    refine pv_getr (T := TX11) (N := 24) C 0 inu_X11_print_11 rfl (by decide) (by decide) (List.mem_of_getElem? (i := 1) rfl) rfl k0_ k33.1 dX11_print_50 ?_
    refine pv_bipush (v := 52) C dX11_print_53 (by decide) ?_
    refine pv_iload_n C 1 dX11_print_55 rfl rfl ?_
    refine pv_imul C dX11_print_56 ?_
    refine pv_iconst (v := 2) C dX11_print_57 (by decide) ?_
    refine pv_iadd C dX11_print_58 ?_
    refine pv_iload_n C 3 dX11_print_59 rfl rfl ?_
    obtain ⟨g34, h⟩ := pq_gd h
    refine pv_iastore C k33.2 g34 dX11_print_60 ?_
    refine pv_nm (fun S35 e36 => ?_)
    have h := pq_ls e36 h
    refine pv_aload_n C 2 dX11_print_61 rfl rfl ?_
    have k37 := pq_wt (k := 0) W0 k0_ rfl
    refine pv_getr (T := TX11) (N := 24) C 0 inu_X11_print_11 rfl (by decide) (by decide) (List.mem_of_getElem? (i := 1) rfl) rfl k0_ k37.1 dX11_print_62 ?_
    refine pv_bipush (v := 52) C dX11_print_65 (by decide) ?_
    refine pv_iload_n C 1 dX11_print_67 rfl rfl ?_
    refine pv_imul C dX11_print_68 ?_
    refine pv_iconst (v := 3) C dX11_print_69 (by decide) ?_
    refine pv_iadd C dX11_print_70 ?_
    refine pv_aload_n C 2 dX11_print_71 rfl rfl ?_
    have k38 := pq_wt (k := 0) W0 k0_ rfl
    refine pv_getr (T := TX11) (N := 24) C 0 inu_X11_print_11 rfl (by decide) (by decide) (List.mem_of_getElem? (i := 1) rfl) rfl k0_ k38.1 dX11_print_72 ?_
    refine pv_iconst (v := 0) C dX11_print_75 (by decide) ?_
    obtain ⟨g39, h⟩ := pq_gd h
    refine pv_iaload C k38.2 g39 dX11_print_76 ?_
    obtain ⟨g40, h⟩ := pq_gd h
    refine pv_iastore C k37.2 g40 dX11_print_77 ?_
    refine pv_nm (fun S41 e42 => ?_)
    have h := pq_ls e42 h
    refine pv_aload_n C 2 dX11_print_78 rfl rfl ?_
    have k43 := pq_wt (k := 0) W0 k0_ rfl
    refine pv_getr (T := TX11) (N := 24) C 0 inu_X11_print_11 rfl (by decide) (by decide) (List.mem_of_getElem? (i := 1) rfl) rfl k0_ k43.1 dX11_print_79 ?_
    refine pv_bipush (v := 52) C dX11_print_82 (by decide) ?_
    refine pv_iload_n C 1 dX11_print_84 rfl rfl ?_
    refine pv_imul C dX11_print_85 ?_
    refine pv_iconst (v := 4) C dX11_print_86 (by decide) ?_
    refine pv_iadd C dX11_print_87 ?_
    refine pv_aload_n C 2 dX11_print_88 rfl rfl ?_
    refine pv_geti (T := TX11) (N := 24) C 11 inu_X11_print_11 rfl (by decide) (by decide) (List.mem_of_getElem? (i := 2) rfl) rfl k0_ dX11_print_89 ?_
    obtain ⟨g44, h⟩ := pq_gd h
    refine pv_iastore C k43.2 g44 dX11_print_92 ?_
    refine pv_nm (fun S45 e46 => ?_)
    have h := pq_ls e46 h
    refine pv_aload_n C 2 dX11_print_93 rfl rfl ?_
    have k47 := pq_wt (k := 0) W0 k0_ rfl
    refine pv_getr (T := TX11) (N := 24) C 0 inu_X11_print_11 rfl (by decide) (by decide) (List.mem_of_getElem? (i := 1) rfl) rfl k0_ k47.1 dX11_print_94 ?_
    refine pv_bipush (v := 52) C dX11_print_97 (by decide) ?_
    refine pv_iload_n C 1 dX11_print_99 rfl rfl ?_
    refine pv_imul C dX11_print_100 ?_
    refine pv_iconst (v := 5) C dX11_print_101 (by decide) ?_
    refine pv_iadd C dX11_print_102 ?_
    refine pv_aload_n C 2 dX11_print_103 rfl rfl ?_
    refine pv_geti (T := TX11) (N := 24) C 12 inu_X11_print_11 rfl (by decide) (by decide) (List.mem_of_getElem? (i := 3) rfl) rfl k0_ dX11_print_104 ?_
    obtain ⟨g48, h⟩ := pq_gd h
    refine pv_iastore C k47.2 g48 dX11_print_107 ?_
    refine pv_nm (fun S49 e50 => ?_)
    have h := pq_ls e50 h
    refine pv_aload_n C 2 dX11_print_108 rfl rfl ?_
    have k51 := pq_wt (k := 0) W0 k0_ rfl
    refine pv_getr (T := TX11) (N := 24) C 0 inu_X11_print_11 rfl (by decide) (by decide) (List.mem_of_getElem? (i := 1) rfl) rfl k0_ k51.1 dX11_print_109 ?_
    refine pv_iconst (v := 1) C dX11_print_112 (by decide) ?_
    refine pv_dup2 C dX11_print_113 rfl rfl ?_
    obtain ⟨g52, h⟩ := pq_gd h
    refine pv_iaload C k51.2 g52 dX11_print_114 ?_
    refine pv_iconst (v := 1) C dX11_print_115 (by decide) ?_
    refine pv_iadd C dX11_print_116 ?_
    obtain ⟨g53, h⟩ := pq_gd h
    refine pv_iastore C k51.2 g53 dX11_print_117 ?_
    refine pv_nm (fun S54 e55 => ?_)
    have h := pq_ls e55 h
    refine pv_aload_n C 2 dX11_print_118 rfl rfl ?_
    refine pv_iconst (v := 0) C dX11_print_119 (by decide) ?_
    refine pv_put (T := TX11) (N := 24) (ty := .int) C 7 inu_X11_print_11 rfl (by decide) tyX11 tyX11_ok nmX11 (by decide) (List.mem_of_getElem? (i := 4) rfl) rfl k0_ rfl (by decide +kernel) rfl rfl dX11_print_120 ?_
    refine pv_nm (fun S56 e57 => ?_)
    have h := pq_ls e57 h
    refine pv_iload_n C 1 dX11_print_123 rfl rfl ?_
    exact pv_iret C hr hlk h dX11_print_124
  · have h := pq_it c22 h
    refine pv_iconst (v := 0) C dX11_print_30 (by decide) ?_
    exact pv_iret C hr hlk h dX11_print_31
set_option maxHeartbeats 4000000 in
set_option maxRecDepth 100000 in
theorem r_X11_print {l : Launch} {D : va_G} {y : pq_Y} {G : pq_G} (W0 : pq_WT G) {S : pq_N} {a0 : Nat} {x1 : Int32} (k0_ : pq_ok G 11 a0) {r : Int32} {S1 : pq_N} (h : F_X11_print G S a0 x1 = some (r, S1)) (sz : Nat) : Met l yX11_print wsX11_print ({ frames := 6, cells := 0, slots := 0, locals := 138 } : Room) (pq_P D y G S sz [.ref a0, .int x1]) (pq_Qi D y G sz r S1) 0 0 (pq_A G sz) := by
  refine pq_enter RX11 4 (by decide) rfl rfl rfl ?_
  intro p e s m below meth c C hsz hr hlk
  subst hsz
  unfold F_X11_print at h
  refine pv_sub (lo1 := [(0, .ref a0), (1, .int x1)]) [0, 1] rfl ?_
  refine pv_aload_n C 0 dX11_print_0 rfl rfl ?_
  refine pv_iload_n C 1 dX11_print_1 rfl rfl ?_
  obtain ⟨v11, S12, e13, h⟩ := pq_bs h
  refine pv_calliS C [.int x1] (fun sz => r_X11_isAuthor W0  e13 sz) (va_cwS 1 C.1.2.2.2.2 gX11_print_X11_isAuthor rfl rfl rfl (by decide +kernel) ⟨Nat.le_of_ble_eq_true rfl, Nat.le_of_ble_eq_true rfl⟩) rfl rfl (Nat.le_of_ble_eq_true rfl) dX11_print_2 ⟨Nat.le_of_ble_eq_true rfl, Nat.le_of_ble_eq_true rfl⟩ ?_
  refine pv_if_ne (tgt := 12) C dX11_print_5 (by decide) (fun c14 => ?_) (fun c14 => ?_)
  · have h := pq_if c14 h
    refine pv_aload_n C 0 dX11_print_12 rfl rfl ?_
    obtain ⟨v15, S16, e17, h⟩ := pq_bs h
    refine pv_calliV C (ci := 11) rfl (by decide) k0_ [] (fun sz => r_X11_why W0 k0_ e17 sz) (cwV 0 C.1.2.2.2.2 gX11_print_X11_why rfl rfl rfl (by decide +kernel) ⟨Nat.le_of_ble_eq_true rfl, Nat.le_of_ble_eq_true rfl⟩) rfl rfl (Nat.le_of_ble_eq_true rfl) dX11_print_13 ⟨Nat.le_of_ble_eq_true rfl, Nat.le_of_ble_eq_true rfl⟩ ?_
    refine pv_if_le (tgt := 23) C dX11_print_16 (by decide) (fun c18 => ?_) (fun c18 => ?_)
    · have h := pq_it c18 h
      refine pv_iconst (v := 0) C dX11_print_23 (by decide) ?_
      refine pv_sub [0, 1] rfl ?_
      exact r_X11_print_b24 W0 C hr hlk _ _ _ _ _ k0_ k0_ h
    · have h := pq_if c18 h
      refine pv_iconst (v := 2) C dX11_print_19 (by decide) ?_
      refine pv_goto (tgt := 24) C dX11_print_20 (by decide) ?_
      refine pv_sub [0, 1] rfl ?_
      exact r_X11_print_b24 W0 C hr hlk _ _ _ _ _ k0_ k0_ h
  · have h := pq_it c14 h
    refine pv_iconst (v := 1) C dX11_print_8 (by decide) ?_
    refine pv_goto (tgt := 24) C dX11_print_9 (by decide) ?_
    refine pv_sub [0, 1] rfl ?_
    exact r_X11_print_b24 W0 C hr hlk _ _ _ _ _ k0_ k0_ h
def F_X11_quotationsOf (G : pq_G) (S : pq_N) (a0 : Nat) (x1 : Int32) : Option (Int32 × pq_N) := (pq_bd (F_X11_told G S a0 x1 (5 : Int32)) fun v11 S12 => some (v11, S12))
set_option maxHeartbeats 4000000 in
set_option maxRecDepth 100000 in
theorem r_X11_quotationsOf {l : Launch} {D : va_G} {y : pq_Y} {G : pq_G} (W0 : pq_WT G) {S : pq_N} {a0 : Nat} {x1 : Int32} (k0_ : pq_ok G 11 a0) {r : Int32} {S1 : pq_N} (h : F_X11_quotationsOf G S a0 x1 = some (r, S1)) (sz : Nat) : Met l yX11_quotationsOf wsX11_quotationsOf ({ frames := 3, cells := 0, slots := 0, locals := 65 } : Room) (pq_P D y G S sz [.ref a0, .int x1]) (pq_Qi D y G sz r S1) 0 0 (pq_A G sz) := by
  refine pq_enter RX11 2 (by decide) rfl rfl rfl ?_
  intro p e s m below meth c C hsz hr hlk
  subst hsz
  unfold F_X11_quotationsOf at h
  refine pv_sub (lo1 := [(0, .ref a0), (1, .int x1)]) [0, 1] rfl ?_
  refine pv_aload_n C 0 dX11_quotationsOf_0 rfl rfl ?_
  refine pv_iload_n C 1 dX11_quotationsOf_1 rfl rfl ?_
  refine pv_iconst (v := 5) C dX11_quotationsOf_2 (by decide) ?_
  obtain ⟨v11, S12, e13, h⟩ := pq_bs h
  refine pv_calliV C (ci := 11) rfl (by decide) k0_ [.int x1, .int (5 : Int32)] (fun sz => r_X11_told W0 k0_ e13 sz) (cwV 2 C.1.2.2.2.2 gX11_quotationsOf_X11_told rfl rfl rfl (by decide +kernel) ⟨Nat.le_of_ble_eq_true rfl, Nat.le_of_ble_eq_true rfl⟩) rfl rfl (Nat.le_of_ble_eq_true rfl) dX11_quotationsOf_3 ⟨Nat.le_of_ble_eq_true rfl, Nat.le_of_ble_eq_true rfl⟩ ?_
  exact pv_iret C hr hlk h dX11_quotationsOf_6
def F_X11_quotedAgain_b30 (G : pq_G) (c16 : pq_N → Nat → Int32 → Int32 → Int32 → Int32 → Option (Int32 × pq_N)) : Nat → pq_N → Nat → Int32 → Int32 → Int32 → Int32 → Int32 → Option (Int32 × pq_N)
  | 0, _, _, _, _, _, _, _ => none
  | n + 1, S, a0, x1, x2, x3, x4, x5 => (pq_bd (F_X11_get G S a0 x4 (5 : Int32)) fun v18 S19 => (if v18 ≤ x5 then c16 S19 a0 x1 x2 x3 (x4 + (1 : Int32)) else (pq_bd (F_X11_source G S19 a0 x4 x5) fun v22 S23 => (if v22 = x1 then (pq_bd (F_X11_from G S23 a0 x4 x5) fun v26 S27 => (if v26 = x2 then (F_X11_quotedAgain_b30 G c16 n) S27 a0 x1 x2 (x3 + (1 : Int32)) x4 (x5 + (1 : Int32)) else (F_X11_quotedAgain_b30 G c16 n) S27 a0 x1 x2 (x3 + (0 : Int32)) x4 (x5 + (1 : Int32)))) else (F_X11_quotedAgain_b30 G c16 n) S23 a0 x1 x2 (x3 + (0 : Int32)) x4 (x5 + (1 : Int32))))))
def F_X11_quotedAgain_b16 (G : pq_G)  : Nat → pq_N → Nat → Int32 → Int32 → Int32 → Int32 → Option (Int32 × pq_N)
  | 0, _, _, _, _, _, _ => none
  | n + 1, S, a0, x1, x2, x3, x4 => (if (1 : Int32) < 0 ∨ pq_n G (pq_r G a0 0) ≤ (Int32.toNatClampNeg (1 : Int32)) then none else (if (S.1 (pq_r G a0 0) (Int32.toNatClampNeg (1 : Int32))) ≤ x4 then some (x3, S) else F_X11_quotedAgain_b30 G ((F_X11_quotedAgain_b16 G n)) pq_fuel S a0 x1 x2 x3 x4 (0 : Int32)))
def F_X11_quotedAgain (G : pq_G) (S : pq_N) (a0 : Nat) (x1 : Int32) (x2 : Int32) : Option (Int32 × pq_N) := (pq_bd (F_X11_isTold G S a0 x1 x2) fun v11 S12 => (if v11 = (0 : Int32) then some ((0 : Int32), S12) else F_X11_quotedAgain_b16 G pq_fuel S12 a0 x1 x2 (0 : Int32) (0 : Int32)))
theorem inu_X11_quotedAgain_11 : ∀ w ∈ u_ws RX11 TX11 24, w ∈ wsX11_quotedAgain := pq_inu 64 rfl
set_option maxHeartbeats 4000000 in
set_option maxRecDepth 100000 in
theorem r_X11_quotedAgain_b30 {p : Program} {l : Launch} {e : Env} {s : State} {m : MethodId} {av : Array Value} {below : List Frame} {meth : Method} {c : Code} {D : va_G} {y : pq_Y} {G : pq_G} {r : Int32} {S1 : pq_N} (W0 : pq_WT G) (C : pq_C p s m av c D y RX11 wsX11_quotedAgain cX11_quotedAgain 6) (hr : meth.sig.returnType = (some .int)) (hlk : meth.locks = false) {c16 : pq_N → Nat → Int32 → Int32 → Int32 → Int32 → Option (Int32 × pq_N)} (hk16 : ∀ (S : pq_N) (a0 : Nat) (x1 : Int32) (x2 : Int32) (x3 : Int32) (x4 : Int32), pq_ok G 11 a0 → c16 S a0 x1 x2 x3 x4 = some (r, S1) → pq_V p l e (headSpec wsX11_quotedAgain ({ frames := 5, cells := 0, slots := 0, locals := 126 } : Room)).room s m av below meth c 0 0 (MQ below (pq_Qi D y G s.heap.size r S1) av s 0 0 (pq_A G s.heap.size)) D y 6 (pq_A G s.heap.size) (fun _ => True) G S 16 [(0, .ref a0), (1, .int x1), (2, .int x2), (3, .int x3), (4, .int x4)] []) (n : Nat) : ∀ (S : pq_N) (a0 : Nat) (x1 : Int32) (x2 : Int32) (x3 : Int32) (x4 : Int32) (x5 : Int32), pq_ok G 11 a0 → F_X11_quotedAgain_b30 G c16 n S a0 x1 x2 x3 x4 x5 = some (r, S1) → pq_V p l e (headSpec wsX11_quotedAgain ({ frames := 5, cells := 0, slots := 0, locals := 126 } : Room)).room s m av below meth c 0 0 (MQ below (pq_Qi D y G s.heap.size r S1) av s 0 0 (pq_A G s.heap.size)) D y 6 (pq_A G s.heap.size) (fun _ => True) G S 30 [(0, .ref a0), (1, .int x1), (2, .int x2), (3, .int x3), (4, .int x4), (5, .int x5)] [] := by
  induction n with
  | zero =>
    intro S a0 x1 x2 x3 x4 x5 k0_ h
    rw [F_X11_quotedAgain_b30.eq_1] at h; cases h
  | succ n ih =>
    intro S a0 x1 x2 x3 x4 x5 k0_ h
    rw [F_X11_quotedAgain_b30.eq_2] at h
    refine pv_iload C 5 dX11_quotedAgain_30 rfl ?_
    refine pv_aload_n C 0 dX11_quotedAgain_32 rfl rfl ?_
    refine pv_iload C 4 dX11_quotedAgain_33 rfl ?_
    refine pv_iconst (v := 5) C dX11_quotedAgain_35 (by decide) ?_
    obtain ⟨v18, S19, e20, h⟩ := pq_bs h
    refine pv_calliV C (ci := 11) rfl (by decide) k0_ [.int x4, .int (5 : Int32)] (fun sz => r_X11_get W0 k0_ e20 sz) (cwV 2 C.1.2.2.2.2 gX11_quotedAgain_X11_get rfl rfl rfl (by decide +kernel) ⟨Nat.le_of_ble_eq_true rfl, Nat.le_of_ble_eq_true rfl⟩) rfl rfl (Nat.le_of_ble_eq_true rfl) dX11_quotedAgain_36 ⟨Nat.le_of_ble_eq_true rfl, Nat.le_of_ble_eq_true rfl⟩ ?_
    refine pv_icmp_ge (tgt := 80) C dX11_quotedAgain_39 (by decide) (fun c21 => ?_) (fun c21 => ?_)
    · have h := pq_it c21 h
      refine pv_iinc (v := (x4 + (1 : Int32))) C 4 [(4, .int (x4 + (1 : Int32))), (0, .ref a0), (1, .int x1), (2, .int x2), (3, .int x3), (5, .int x5)] dX11_quotedAgain_80 rfl rfl (by decide) rfl ?_
      refine pv_goto (tgt := 16) C dX11_quotedAgain_83 (by decide) ?_
      refine pv_sub [1, 2, 3, 4, 0] rfl ?_
      exact hk16 _ _ _ _ _ _ k0_ h
    · have h := pq_if c21 h
      refine pv_iload_n C 3 dX11_quotedAgain_42 rfl rfl ?_
      refine pv_aload_n C 0 dX11_quotedAgain_43 rfl rfl ?_
      refine pv_iload C 4 dX11_quotedAgain_44 rfl ?_
      refine pv_iload C 5 dX11_quotedAgain_46 rfl ?_
      obtain ⟨v22, S23, e24, h⟩ := pq_bs h
      refine pv_calliV C (ci := 11) rfl (by decide) k0_ [.int x4, .int x5] (fun sz => r_X11_source W0 k0_ e24 sz) (cwV 2 C.1.2.2.2.2 gX11_quotedAgain_X11_source rfl rfl rfl (by decide +kernel) ⟨Nat.le_of_ble_eq_true rfl, Nat.le_of_ble_eq_true rfl⟩) rfl rfl (Nat.le_of_ble_eq_true rfl) dX11_quotedAgain_48 ⟨Nat.le_of_ble_eq_true rfl, Nat.le_of_ble_eq_true rfl⟩ ?_
      refine pv_iload_n C 1 dX11_quotedAgain_51 rfl rfl ?_
      refine pv_icmp_ne (tgt := 71) C dX11_quotedAgain_52 (by decide) (fun c25 => ?_) (fun c25 => ?_)
      · have h := pq_if c25 h
        refine pv_iconst (v := 0) C dX11_quotedAgain_71 (by decide) ?_
        refine pv_iadd C dX11_quotedAgain_72 ?_
        refine pv_istore_n C [(3, .int (x3 + (0 : Int32))), (0, .ref a0), (1, .int x1), (2, .int x2), (4, .int x4), (5, .int x5)] dX11_quotedAgain_73 rfl (by decide) rfl ?_
        refine pv_iinc (v := (x5 + (1 : Int32))) C 5 [(5, .int (x5 + (1 : Int32))), (3, .int (x3 + (0 : Int32))), (0, .ref a0), (1, .int x1), (2, .int x2), (4, .int x4)] dX11_quotedAgain_74 rfl rfl (by decide) rfl ?_
        refine pv_goto (tgt := 30) C dX11_quotedAgain_77 (by decide) ?_
        refine pv_sub [2, 3, 4, 1, 5, 0] rfl ?_
        exact ih _ _ _ _ _ _ _ k0_ h
      · have h := pq_it c25 h
        refine pv_aload_n C 0 dX11_quotedAgain_55 rfl rfl ?_
        refine pv_iload C 4 dX11_quotedAgain_56 rfl ?_
        refine pv_iload C 5 dX11_quotedAgain_58 rfl ?_
        obtain ⟨v26, S27, e28, h⟩ := pq_bs h
        refine pv_calliV C (ci := 11) rfl (by decide) k0_ [.int x4, .int x5] (fun sz => r_X11_from W0 k0_ e28 sz) (cwV 2 C.1.2.2.2.2 gX11_quotedAgain_X11_from rfl rfl rfl (by decide +kernel) ⟨Nat.le_of_ble_eq_true rfl, Nat.le_of_ble_eq_true rfl⟩) rfl rfl (Nat.le_of_ble_eq_true rfl) dX11_quotedAgain_60 ⟨Nat.le_of_ble_eq_true rfl, Nat.le_of_ble_eq_true rfl⟩ ?_
        refine pv_iload_n C 2 dX11_quotedAgain_63 rfl rfl ?_
        refine pv_icmp_ne (tgt := 71) C dX11_quotedAgain_64 (by decide) (fun c29 => ?_) (fun c29 => ?_)
        · have h := pq_if c29 h
          refine pv_iconst (v := 0) C dX11_quotedAgain_71 (by decide) ?_
          refine pv_iadd C dX11_quotedAgain_72 ?_
          refine pv_istore_n C [(3, .int (x3 + (0 : Int32))), (0, .ref a0), (1, .int x1), (2, .int x2), (4, .int x4), (5, .int x5)] dX11_quotedAgain_73 rfl (by decide) rfl ?_
          refine pv_iinc (v := (x5 + (1 : Int32))) C 5 [(5, .int (x5 + (1 : Int32))), (3, .int (x3 + (0 : Int32))), (0, .ref a0), (1, .int x1), (2, .int x2), (4, .int x4)] dX11_quotedAgain_74 rfl rfl (by decide) rfl ?_
          refine pv_goto (tgt := 30) C dX11_quotedAgain_77 (by decide) ?_
          refine pv_sub [2, 3, 4, 1, 5, 0] rfl ?_
          exact ih _ _ _ _ _ _ _ k0_ h
        · have h := pq_it c29 h
          refine pv_iconst (v := 1) C dX11_quotedAgain_67 (by decide) ?_
          refine pv_goto (tgt := 72) C dX11_quotedAgain_68 (by decide) ?_
          refine pv_iadd C dX11_quotedAgain_72 ?_
          refine pv_istore_n C [(3, .int (x3 + (1 : Int32))), (0, .ref a0), (1, .int x1), (2, .int x2), (4, .int x4), (5, .int x5)] dX11_quotedAgain_73 rfl (by decide) rfl ?_
          refine pv_iinc (v := (x5 + (1 : Int32))) C 5 [(5, .int (x5 + (1 : Int32))), (3, .int (x3 + (1 : Int32))), (0, .ref a0), (1, .int x1), (2, .int x2), (4, .int x4)] dX11_quotedAgain_74 rfl rfl (by decide) rfl ?_
          refine pv_goto (tgt := 30) C dX11_quotedAgain_77 (by decide) ?_
          refine pv_sub [2, 3, 4, 1, 5, 0] rfl ?_
          exact ih _ _ _ _ _ _ _ k0_ h
set_option maxHeartbeats 4000000 in
set_option maxRecDepth 100000 in
theorem r_X11_quotedAgain_b16 {p : Program} {l : Launch} {e : Env} {s : State} {m : MethodId} {av : Array Value} {below : List Frame} {meth : Method} {c : Code} {D : va_G} {y : pq_Y} {G : pq_G} {r : Int32} {S1 : pq_N} (W0 : pq_WT G) (C : pq_C p s m av c D y RX11 wsX11_quotedAgain cX11_quotedAgain 6) (hr : meth.sig.returnType = (some .int)) (hlk : meth.locks = false) (n : Nat) : ∀ (S : pq_N) (a0 : Nat) (x1 : Int32) (x2 : Int32) (x3 : Int32) (x4 : Int32), pq_ok G 11 a0 → F_X11_quotedAgain_b16 G n S a0 x1 x2 x3 x4 = some (r, S1) → pq_V p l e (headSpec wsX11_quotedAgain ({ frames := 5, cells := 0, slots := 0, locals := 126 } : Room)).room s m av below meth c 0 0 (MQ below (pq_Qi D y G s.heap.size r S1) av s 0 0 (pq_A G s.heap.size)) D y 6 (pq_A G s.heap.size) (fun _ => True) G S 16 [(0, .ref a0), (1, .int x1), (2, .int x2), (3, .int x3), (4, .int x4)] [] := by
  induction n with
  | zero =>
    intro S a0 x1 x2 x3 x4 k0_ h
    rw [F_X11_quotedAgain_b16.eq_1] at h; cases h
  | succ n ih =>
    intro S a0 x1 x2 x3 x4 k0_ h
    rw [F_X11_quotedAgain_b16.eq_2] at h
    refine pv_iload C 4 dX11_quotedAgain_16 rfl ?_
    refine pv_aload_n C 0 dX11_quotedAgain_18 rfl rfl ?_
    have k15 := pq_wt (k := 0) W0 k0_ rfl
    refine pv_getr (T := TX11) (N := 24) C 0 inu_X11_quotedAgain_11 rfl (by decide) (by decide) (List.mem_of_getElem? (i := 1) rfl) rfl k0_ k15.1 dX11_quotedAgain_19 ?_
    refine pv_iconst (v := 1) C dX11_quotedAgain_22 (by decide) ?_
    obtain ⟨g16, h⟩ := pq_gd h
    refine pv_iaload C k15.2 g16 dX11_quotedAgain_23 ?_
    refine pv_icmp_ge (tgt := 86) C dX11_quotedAgain_24 (by decide) (fun c17 => ?_) (fun c17 => ?_)
    · have h := pq_it c17 h
      refine pv_iload_n C 3 dX11_quotedAgain_86 rfl rfl ?_
      exact pv_iret C hr hlk h dX11_quotedAgain_87
    · have h := pq_if c17 h
      refine pv_iconst (v := 0) C dX11_quotedAgain_27 (by decide) ?_
      refine pv_istore C [(5, .int (0 : Int32)), (0, .ref a0), (1, .int x1), (2, .int x2), (3, .int x3), (4, .int x4)] dX11_quotedAgain_28 (by decide) rfl ?_
      refine pv_sub [1, 2, 3, 4, 5, 0] rfl ?_
      exact r_X11_quotedAgain_b30 W0 C hr hlk ih pq_fuel _ _ _ _ _ _ _ k0_ h
set_option maxHeartbeats 4000000 in
set_option maxRecDepth 100000 in
theorem r_X11_quotedAgain {l : Launch} {D : va_G} {y : pq_Y} {G : pq_G} (W0 : pq_WT G) {S : pq_N} {a0 : Nat} {x1 : Int32} {x2 : Int32} (k0_ : pq_ok G 11 a0) {r : Int32} {S1 : pq_N} (h : F_X11_quotedAgain G S a0 x1 x2 = some (r, S1)) (sz : Nat) : Met l yX11_quotedAgain wsX11_quotedAgain ({ frames := 5, cells := 0, slots := 0, locals := 126 } : Room) (pq_P D y G S sz [.ref a0, .int x1, .int x2]) (pq_Qi D y G sz r S1) 0 0 (pq_A G sz) := by
  refine pq_enter RX11 6 (by decide) rfl rfl rfl ?_
  intro p e s m below meth c C hsz hr hlk
  subst hsz
  unfold F_X11_quotedAgain at h
  refine pv_sub (lo1 := [(0, .ref a0), (1, .int x1), (2, .int x2)]) [0, 1, 2] rfl ?_
  refine pv_aload_n C 0 dX11_quotedAgain_0 rfl rfl ?_
  refine pv_iload_n C 1 dX11_quotedAgain_1 rfl rfl ?_
  refine pv_iload_n C 2 dX11_quotedAgain_2 rfl rfl ?_
  obtain ⟨v11, S12, e13, h⟩ := pq_bs h
  refine pv_calliV C (ci := 11) rfl (by decide) k0_ [.int x1, .int x2] (fun sz => r_X11_isTold W0 k0_ e13 sz) (cwV 2 C.1.2.2.2.2 gX11_quotedAgain_X11_isTold rfl rfl rfl (by decide +kernel) ⟨Nat.le_of_ble_eq_true rfl, Nat.le_of_ble_eq_true rfl⟩) rfl rfl (Nat.le_of_ble_eq_true rfl) dX11_quotedAgain_3 ⟨Nat.le_of_ble_eq_true rfl, Nat.le_of_ble_eq_true rfl⟩ ?_
  refine pv_if_ne (tgt := 11) C dX11_quotedAgain_6 (by decide) (fun c14 => ?_) (fun c14 => ?_)
  · have h := pq_if c14 h
    refine pv_iconst (v := 0) C dX11_quotedAgain_11 (by decide) ?_
    refine pv_istore_n C [(3, .int (0 : Int32)), (0, .ref a0), (1, .int x1), (2, .int x2)] dX11_quotedAgain_12 rfl (by decide) rfl ?_
    refine pv_iconst (v := 0) C dX11_quotedAgain_13 (by decide) ?_
    refine pv_istore C [(4, .int (0 : Int32)), (3, .int (0 : Int32)), (0, .ref a0), (1, .int x1), (2, .int x2)] dX11_quotedAgain_14 (by decide) rfl ?_
    refine pv_sub [2, 3, 4, 1, 0] rfl ?_
    exact r_X11_quotedAgain_b16 W0 C hr hlk pq_fuel _ _ _ _ _ _ k0_ h
  · have h := pq_it c14 h
    refine pv_iconst (v := 0) C dX11_quotedAgain_9 (by decide) ?_
    exact pv_iret C hr hlk h dX11_quotedAgain_10
def F_X11_reading_b13 (G : pq_G) (c6 : pq_N → Nat → Int32 → Int32 → Option (Int32 × pq_N)) : Nat → pq_N → Nat → Int32 → Int32 → Int32 → Option (Int32 × pq_N)
  | 0, _, _, _, _, _ => none
  | n + 1, S, a0, x2, x3, x4 => (pq_bd (F_X11_get G S a0 x3 (5 : Int32)) fun v12 S13 => (if v12 ≤ x4 then c6 S13 a0 x2 (x3 + (-1 : Int32)) else (if ((x2 >>> (x3 &&& 31)) &&& (1 : Int32)) = (1 : Int32) then (pq_bd (F_X11_source G S13 a0 x3 x4) fun v17 S18 => (pq_lt (x2 ||| ((1 : Int32) <<< (v17 &&& 31))) fun i20 => (F_X11_reading_b13 G c6 n) S18 a0 i20 x3 (x4 + (1 : Int32)))) else c6 S13 a0 x2 (x3 + (-1 : Int32)))))
def F_X11_reading_b6 (G : pq_G)  : Nat → pq_N → Nat → Int32 → Int32 → Option (Int32 × pq_N)
  | 0, _, _, _, _ => none
  | n + 1, S, a0, x2, x3 => (if x3 ≤ (0 : Int32) then some (x2, S) else F_X11_reading_b13 G ((F_X11_reading_b6 G n)) pq_fuel S a0 x2 x3 (0 : Int32))
def F_X11_reading (G : pq_G) (S : pq_N) (a0 : Nat) (x1 : Int32) : Option (Int32 × pq_N) := F_X11_reading_b6 G pq_fuel S a0 ((1 : Int32) <<< (x1 &&& 31)) x1
set_option maxHeartbeats 4000000 in
set_option maxRecDepth 100000 in
theorem r_X11_reading_b13 {p : Program} {l : Launch} {e : Env} {s : State} {m : MethodId} {av : Array Value} {below : List Frame} {meth : Method} {c : Code} {D : va_G} {y : pq_Y} {G : pq_G} {r : Int32} {S1 : pq_N} (W0 : pq_WT G) (C : pq_C p s m av c D y RX11 wsX11_reading cX11_reading 5) (hr : meth.sig.returnType = (some .int)) (hlk : meth.locks = false) {c6 : pq_N → Nat → Int32 → Int32 → Option (Int32 × pq_N)} (hk6 : ∀ (S : pq_N) (a0 : Nat) (x2 : Int32) (x3 : Int32), pq_ok G 11 a0 → c6 S a0 x2 x3 = some (r, S1) → pq_V p l e (headSpec wsX11_reading ({ frames := 2, cells := 0, slots := 0, locals := 44 } : Room)).room s m av below meth c 0 0 (MQ below (pq_Qi D y G s.heap.size r S1) av s 0 0 (pq_A G s.heap.size)) D y 5 (pq_A G s.heap.size) (fun _ => True) G S 6 [(0, .ref a0), (2, .int x2), (3, .int x3)] []) (n : Nat) : ∀ (S : pq_N) (a0 : Nat) (x2 : Int32) (x3 : Int32) (x4 : Int32), pq_ok G 11 a0 → F_X11_reading_b13 G c6 n S a0 x2 x3 x4 = some (r, S1) → pq_V p l e (headSpec wsX11_reading ({ frames := 2, cells := 0, slots := 0, locals := 44 } : Room)).room s m av below meth c 0 0 (MQ below (pq_Qi D y G s.heap.size r S1) av s 0 0 (pq_A G s.heap.size)) D y 5 (pq_A G s.heap.size) (fun _ => True) G S 13 [(0, .ref a0), (2, .int x2), (3, .int x3), (4, .int x4)] [] := by
  induction n with
  | zero =>
    intro S a0 x2 x3 x4 k0_ h
    rw [F_X11_reading_b13.eq_1] at h; cases h
  | succ n ih =>
    intro S a0 x2 x3 x4 k0_ h
    rw [F_X11_reading_b13.eq_2] at h
    refine pv_iload C 3 dX11_reading_13 rfl ?_
    refine pv_aload_n C 0 dX11_reading_15 rfl rfl ?_
    refine pv_iload_n C 2 dX11_reading_16 rfl rfl ?_
    refine pv_iconst (v := 5) C dX11_reading_17 (by decide) ?_
    obtain ⟨v12, S13, e14, h⟩ := pq_bs h
    refine pv_calliV C (ci := 11) rfl (by decide) k0_ [.int x3, .int (5 : Int32)] (fun sz => r_X11_get W0 k0_ e14 sz) (cwV 2 C.1.2.2.2.2 gX11_reading_X11_get rfl rfl rfl (by decide +kernel) ⟨Nat.le_of_ble_eq_true rfl, Nat.le_of_ble_eq_true rfl⟩) rfl rfl (Nat.le_of_ble_eq_true rfl) dX11_reading_18 ⟨Nat.le_of_ble_eq_true rfl, Nat.le_of_ble_eq_true rfl⟩ ?_
    refine pv_icmp_ge (tgt := 51) C dX11_reading_21 (by decide) (fun c15 => ?_) (fun c15 => ?_)
    · have h := pq_it c15 h
      refine pv_iinc (v := (x3 + (-1 : Int32))) C 2 [(3, .int (x3 + (-1 : Int32))), (0, .ref a0), (2, .int x2), (4, .int x4)] dX11_reading_51 rfl rfl (by decide) rfl ?_
      refine pv_goto (tgt := 6) C dX11_reading_54 (by decide) ?_
      refine pv_sub [1, 2, 0] rfl ?_
      exact hk6 _ _ _ _ k0_ h
    · have h := pq_if c15 h
      refine pv_iload_n C 1 dX11_reading_24 rfl rfl ?_
      refine pv_iload_n C 2 dX11_reading_25 rfl rfl ?_
      refine pv_ishr C dX11_reading_26 ?_
      refine pv_iconst (v := 1) C dX11_reading_27 (by decide) ?_
      refine pv_iand C dX11_reading_28 ?_
      refine pv_iconst (v := 1) C dX11_reading_29 (by decide) ?_
      refine pv_icmp_ne (tgt := 51) C dX11_reading_30 (by decide) (fun c16 => ?_) (fun c16 => ?_)
      · have h := pq_if c16 h
        refine pv_iinc (v := (x3 + (-1 : Int32))) C 2 [(3, .int (x3 + (-1 : Int32))), (0, .ref a0), (2, .int x2), (4, .int x4)] dX11_reading_51 rfl rfl (by decide) rfl ?_
        refine pv_goto (tgt := 6) C dX11_reading_54 (by decide) ?_
        refine pv_sub [1, 2, 0] rfl ?_
        exact hk6 _ _ _ _ k0_ h
      · have h := pq_it c16 h
        refine pv_iload_n C 1 dX11_reading_33 rfl rfl ?_
        refine pv_iconst (v := 1) C dX11_reading_34 (by decide) ?_
        refine pv_aload_n C 0 dX11_reading_35 rfl rfl ?_
        refine pv_iload_n C 2 dX11_reading_36 rfl rfl ?_
        refine pv_iload C 3 dX11_reading_37 rfl ?_
        obtain ⟨v17, S18, e19, h⟩ := pq_bs h
        refine pv_calliV C (ci := 11) rfl (by decide) k0_ [.int x3, .int x4] (fun sz => r_X11_source W0 k0_ e19 sz) (cwV 2 C.1.2.2.2.2 gX11_reading_X11_source rfl rfl rfl (by decide +kernel) ⟨Nat.le_of_ble_eq_true rfl, Nat.le_of_ble_eq_true rfl⟩) rfl rfl (Nat.le_of_ble_eq_true rfl) dX11_reading_39 ⟨Nat.le_of_ble_eq_true rfl, Nat.le_of_ble_eq_true rfl⟩ ?_
        refine pv_ishl C dX11_reading_42 ?_
        refine pv_ior C dX11_reading_43 ?_
        refine pv_nmi (fun i20 e21 => ?_)
        have h := pq_ls e21 h
        refine pv_istore_n C [(2, .int i20), (0, .ref a0), (3, .int x3), (4, .int x4)] dX11_reading_44 rfl (by decide) rfl ?_
        refine pv_iinc (v := (x4 + (1 : Int32))) C 3 [(4, .int (x4 + (1 : Int32))), (2, .int i20), (0, .ref a0), (3, .int x3)] dX11_reading_45 rfl rfl (by decide) rfl ?_
        refine pv_goto (tgt := 13) C dX11_reading_48 (by decide) ?_
        refine pv_sub [2, 1, 3, 0] rfl ?_
        exact ih _ _ _ _ _ k0_ h
set_option maxHeartbeats 4000000 in
set_option maxRecDepth 100000 in
theorem r_X11_reading_b6 {p : Program} {l : Launch} {e : Env} {s : State} {m : MethodId} {av : Array Value} {below : List Frame} {meth : Method} {c : Code} {D : va_G} {y : pq_Y} {G : pq_G} {r : Int32} {S1 : pq_N} (W0 : pq_WT G) (C : pq_C p s m av c D y RX11 wsX11_reading cX11_reading 5) (hr : meth.sig.returnType = (some .int)) (hlk : meth.locks = false) (n : Nat) : ∀ (S : pq_N) (a0 : Nat) (x2 : Int32) (x3 : Int32), pq_ok G 11 a0 → F_X11_reading_b6 G n S a0 x2 x3 = some (r, S1) → pq_V p l e (headSpec wsX11_reading ({ frames := 2, cells := 0, slots := 0, locals := 44 } : Room)).room s m av below meth c 0 0 (MQ below (pq_Qi D y G s.heap.size r S1) av s 0 0 (pq_A G s.heap.size)) D y 5 (pq_A G s.heap.size) (fun _ => True) G S 6 [(0, .ref a0), (2, .int x2), (3, .int x3)] [] := by
  induction n with
  | zero =>
    intro S a0 x2 x3 k0_ h
    rw [F_X11_reading_b6.eq_1] at h; cases h
  | succ n ih =>
    intro S a0 x2 x3 k0_ h
    rw [F_X11_reading_b6.eq_2] at h
    refine pv_iload_n C 2 dX11_reading_6 rfl rfl ?_
    refine pv_if_le (tgt := 57) C dX11_reading_7 (by decide) (fun c11 => ?_) (fun c11 => ?_)
    · have h := pq_it c11 h
      refine pv_iload_n C 1 dX11_reading_57 rfl rfl ?_
      exact pv_iret C hr hlk h dX11_reading_58
    · have h := pq_if c11 h
      refine pv_iconst (v := 0) C dX11_reading_10 (by decide) ?_
      refine pv_istore C [(4, .int (0 : Int32)), (0, .ref a0), (2, .int x2), (3, .int x3)] dX11_reading_11 (by decide) rfl ?_
      refine pv_sub [1, 2, 3, 0] rfl ?_
      exact r_X11_reading_b13 W0 C hr hlk ih pq_fuel _ _ _ _ _ k0_ h
set_option maxHeartbeats 4000000 in
set_option maxRecDepth 100000 in
theorem r_X11_reading {l : Launch} {D : va_G} {y : pq_Y} {G : pq_G} (W0 : pq_WT G) {S : pq_N} {a0 : Nat} {x1 : Int32} (k0_ : pq_ok G 11 a0) {r : Int32} {S1 : pq_N} (h : F_X11_reading G S a0 x1 = some (r, S1)) (sz : Nat) : Met l yX11_reading wsX11_reading ({ frames := 2, cells := 0, slots := 0, locals := 44 } : Room) (pq_P D y G S sz [.ref a0, .int x1]) (pq_Qi D y G sz r S1) 0 0 (pq_A G sz) := by
  refine pq_enter RX11 5 (by decide) rfl rfl rfl ?_
  intro p e s m below meth c C hsz hr hlk
  subst hsz
  unfold F_X11_reading at h
  refine pv_sub (lo1 := [(0, .ref a0), (1, .int x1)]) [0, 1] rfl ?_
  refine pv_iconst (v := 1) C dX11_reading_0 (by decide) ?_
  refine pv_iload_n C 1 dX11_reading_1 rfl rfl ?_
  refine pv_ishl C dX11_reading_2 ?_
  refine pv_istore_n C [(2, .int ((1 : Int32) <<< (x1 &&& 31))), (0, .ref a0), (1, .int x1)] dX11_reading_3 rfl (by decide) rfl ?_
  refine pv_iload_n C 2 dX11_reading_4 rfl rfl ?_
  refine pv_istore_n C [(3, .int x1), (2, .int ((1 : Int32) <<< (x1 &&& 31))), (0, .ref a0), (1, .int x1)] dX11_reading_5 rfl (by decide) rfl ?_
  refine pv_sub [2, 1, 0] rfl ?_
  exact r_X11_reading_b6 W0 C hr hlk pq_fuel _ _ _ _ k0_ h
def F_X11_readAt_b61 (G : pq_G) (c52 : pq_N → Int32 → Int32 → Int32 → Int32 → Option (Int32 × pq_N)) : Nat → pq_N → Int32 → Int32 → Int32 → Int32 → Option (Int32 × pq_N)
  | 0, _, _, _, _, _ => none
  | n + 1, S, x2, x3, x4, x5 => (if ((x3 >>> (x4 &&& 31)) &&& (1 : Int32)) = (0 : Int32) then (F_X11_readAt_b61 G c52 n) S x2 x3 (x4 + (1 : Int32)) x5 else c52 S x2 x3 x4 (x5 + (1 : Int32)))
def F_X11_readAt_b52 (G : pq_G)  : Nat → pq_N → Int32 → Int32 → Int32 → Int32 → Option (Int32 × pq_N)
  | 0, _, _, _, _, _ => none
  | n + 1, S, x2, x3, x4, x5 => (if x2 < x5 then some (x4, S) else F_X11_readAt_b61 G ((F_X11_readAt_b52 G n)) pq_fuel S x2 x3 (x4 + (1 : Int32)) x5)
def F_X11_readAt_b32 (G : pq_G)  (S : pq_N) (a0 : Nat) (x1 : Int32) (x2 : Int32) (t0 : Int32) (t1 : Nat) : Option (Int32 × pq_N) := (pq_bd (F_X11_holds G S t1 t0) fun v25 S26 => (if v25 = (0 : Int32) then some ((0 : Int32), S26) else (pq_bd (F_X11_reading G S26 a0 x1) fun v29 S30 => F_X11_readAt_b52 G pq_fuel S30 x2 v29 (-1 : Int32) (0 : Int32))))
def F_X11_readAt (G : pq_G) (S : pq_N) (a0 : Nat) (x1 : Int32) (x2 : Int32) : Option (Int32 × pq_N) := (pq_bd (F_X11_isPamphlet G S a0 x1) fun v11 S12 => (if v11 = (0 : Int32) then F_X11_readAt_b32 G S12 a0 x1 x2 (1 : Int32) a0 else (pq_bd (F_X11_reading G S12 a0 x1) fun v15 S16 => (pq_bd (F_X11_many G S16 v15) fun v18 S19 => (pq_bd (F_X11_in G S19 x2 (0 : Int32) (v18 - (1 : Int32))) fun v21 S22 => (if v21 = (0 : Int32) then F_X11_readAt_b32 G S22 a0 x1 x2 (1 : Int32) a0 else F_X11_readAt_b32 G S22 a0 x1 x2 (0 : Int32) a0))))))
set_option maxHeartbeats 4000000 in
set_option maxRecDepth 100000 in
theorem r_X11_readAt_b61 {p : Program} {l : Launch} {e : Env} {s : State} {m : MethodId} {av : Array Value} {below : List Frame} {meth : Method} {c : Code} {D : va_G} {y : pq_Y} {G : pq_G} {r : Int32} {S1 : pq_N} (W0 : pq_WT G) (C : pq_C p s m av c D y RX11 wsX11_readAt cX11_readAt 6) (hr : meth.sig.returnType = (some .int)) (hlk : meth.locks = false) {c52 : pq_N → Int32 → Int32 → Int32 → Int32 → Option (Int32 × pq_N)} (hk52 : ∀ (S : pq_N) (x2 : Int32) (x3 : Int32) (x4 : Int32) (x5 : Int32), c52 S x2 x3 x4 x5 = some (r, S1) → pq_V p l e (headSpec wsX11_readAt ({ frames := 3, cells := 0, slots := 0, locals := 68 } : Room)).room s m av below meth c 0 0 (MQ below (pq_Qi D y G s.heap.size r S1) av s 0 0 (pq_A G s.heap.size)) D y 6 (pq_A G s.heap.size) (fun _ => True) G S 52 [(2, .int x2), (3, .int x3), (4, .int x4), (5, .int x5)] []) (n : Nat) : ∀ (S : pq_N) (x2 : Int32) (x3 : Int32) (x4 : Int32) (x5 : Int32), F_X11_readAt_b61 G c52 n S x2 x3 x4 x5 = some (r, S1) → pq_V p l e (headSpec wsX11_readAt ({ frames := 3, cells := 0, slots := 0, locals := 68 } : Room)).room s m av below meth c 0 0 (MQ below (pq_Qi D y G s.heap.size r S1) av s 0 0 (pq_A G s.heap.size)) D y 6 (pq_A G s.heap.size) (fun _ => True) G S 61 [(2, .int x2), (3, .int x3), (4, .int x4), (5, .int x5)] [] := by
  induction n with
  | zero =>
    intro S x2 x3 x4 x5  h
    rw [F_X11_readAt_b61.eq_1] at h; cases h
  | succ n ih =>
    intro S x2 x3 x4 x5  h
    rw [F_X11_readAt_b61.eq_2] at h
    refine pv_iload_n C 1 dX11_readAt_61 rfl rfl ?_
    refine pv_iload C 2 dX11_readAt_62 rfl ?_
    refine pv_ishr C dX11_readAt_64 ?_
    refine pv_iconst (v := 1) C dX11_readAt_65 (by decide) ?_
    refine pv_iand C dX11_readAt_66 ?_
    refine pv_if_ne (tgt := 76) C dX11_readAt_67 (by decide) (fun c33 => ?_) (fun c33 => ?_)
    · have h := pq_if c33 h
      refine pv_iinc (v := (x5 + (1 : Int32))) C 3 [(5, .int (x5 + (1 : Int32))), (2, .int x2), (3, .int x3), (4, .int x4)] dX11_readAt_76 rfl rfl (by decide) rfl ?_
      refine pv_goto (tgt := 52) C dX11_readAt_79 (by decide) ?_
      refine pv_sub [1, 2, 3, 0] rfl ?_
      exact hk52 _ _ _ _ _  h
    · have h := pq_it c33 h
      refine pv_iinc (v := (x4 + (1 : Int32))) C 2 [(4, .int (x4 + (1 : Int32))), (2, .int x2), (3, .int x3), (5, .int x5)] dX11_readAt_70 rfl rfl (by decide) rfl ?_
      refine pv_goto (tgt := 61) C dX11_readAt_73 (by decide) ?_
      refine pv_sub [1, 2, 0, 3] rfl ?_
      exact ih _ _ _ _ _  h
set_option maxHeartbeats 4000000 in
set_option maxRecDepth 100000 in
theorem r_X11_readAt_b52 {p : Program} {l : Launch} {e : Env} {s : State} {m : MethodId} {av : Array Value} {below : List Frame} {meth : Method} {c : Code} {D : va_G} {y : pq_Y} {G : pq_G} {r : Int32} {S1 : pq_N} (W0 : pq_WT G) (C : pq_C p s m av c D y RX11 wsX11_readAt cX11_readAt 6) (hr : meth.sig.returnType = (some .int)) (hlk : meth.locks = false) (n : Nat) : ∀ (S : pq_N) (x2 : Int32) (x3 : Int32) (x4 : Int32) (x5 : Int32), F_X11_readAt_b52 G n S x2 x3 x4 x5 = some (r, S1) → pq_V p l e (headSpec wsX11_readAt ({ frames := 3, cells := 0, slots := 0, locals := 68 } : Room)).room s m av below meth c 0 0 (MQ below (pq_Qi D y G s.heap.size r S1) av s 0 0 (pq_A G s.heap.size)) D y 6 (pq_A G s.heap.size) (fun _ => True) G S 52 [(2, .int x2), (3, .int x3), (4, .int x4), (5, .int x5)] [] := by
  induction n with
  | zero =>
    intro S x2 x3 x4 x5  h
    rw [F_X11_readAt_b52.eq_1] at h; cases h
  | succ n ih =>
    intro S x2 x3 x4 x5  h
    rw [F_X11_readAt_b52.eq_2] at h
    refine pv_iload C 3 dX11_readAt_52 rfl ?_
    refine pv_iload_n C 0 dX11_readAt_54 rfl rfl ?_
    refine pv_icmp_gt (tgt := 82) C dX11_readAt_55 (by decide) (fun c32 => ?_) (fun c32 => ?_)
    · have h := pq_it c32 h
      refine pv_iload C 2 dX11_readAt_82 rfl ?_
      exact pv_iret C hr hlk h dX11_readAt_84
    · have h := pq_if c32 h
      refine pv_iinc (v := (x4 + (1 : Int32))) C 2 [(4, .int (x4 + (1 : Int32))), (2, .int x2), (3, .int x3), (5, .int x5)] dX11_readAt_58 rfl rfl (by decide) rfl ?_
      refine pv_sub [1, 2, 0, 3] rfl ?_
      exact r_X11_readAt_b61 W0 C hr hlk ih pq_fuel _ _ _ _ _  h
set_option maxHeartbeats 4000000 in
set_option maxRecDepth 100000 in
theorem r_X11_readAt_b32 {p : Program} {l : Launch} {e : Env} {s : State} {m : MethodId} {av : Array Value} {below : List Frame} {meth : Method} {c : Code} {D : va_G} {y : pq_Y} {G : pq_G} {r : Int32} {S1 : pq_N} (W0 : pq_WT G) (C : pq_C p s m av c D y RX11 wsX11_readAt cX11_readAt 6) (hr : meth.sig.returnType = (some .int)) (hlk : meth.locks = false) : ∀ (S : pq_N) (a0 : Nat) (x1 : Int32) (x2 : Int32) (t0 : Int32) (t1 : Nat), pq_ok G 11 a0 → pq_ok G 11 t1 → F_X11_readAt_b32 G S a0 x1 x2 t0 t1 = some (r, S1) → pq_V p l e (headSpec wsX11_readAt ({ frames := 3, cells := 0, slots := 0, locals := 68 } : Room)).room s m av below meth c 0 0 (MQ below (pq_Qi D y G s.heap.size r S1) av s 0 0 (pq_A G s.heap.size)) D y 6 (pq_A G s.heap.size) (fun _ => True) G S 32 [(0, .ref a0), (1, .int x1), (2, .int x2)] [.int t0, .ref t1] := by
  intro S a0 x1 x2 t0 t1 k0_ kt1_ h
  unfold F_X11_readAt_b32 at h
  obtain ⟨v25, S26, e27, h⟩ := pq_bs h
  refine pv_calliV C (ci := 11) rfl (by decide) kt1_ [.int t0] (fun sz => r_X11_holds W0 kt1_ e27 sz) (cwV 1 C.1.2.2.2.2 gX11_readAt_X11_holds rfl rfl rfl (by decide +kernel) ⟨Nat.le_of_ble_eq_true rfl, Nat.le_of_ble_eq_true rfl⟩) rfl rfl (Nat.le_of_ble_eq_true rfl) dX11_readAt_32 ⟨Nat.le_of_ble_eq_true rfl, Nat.le_of_ble_eq_true rfl⟩ ?_
  refine pv_if_ne (tgt := 40) C dX11_readAt_35 (by decide) (fun c28 => ?_) (fun c28 => ?_)
  · have h := pq_if c28 h
    refine pv_aload_n C 0 dX11_readAt_40 rfl rfl ?_
    refine pv_iload_n C 1 dX11_readAt_41 rfl rfl ?_
    obtain ⟨v29, S30, e31, h⟩ := pq_bs h
    refine pv_calliV C (ci := 11) rfl (by decide) k0_ [.int x1] (fun sz => r_X11_reading W0 k0_ e31 sz) (cwV 1 C.1.2.2.2.2 gX11_readAt_X11_reading rfl rfl rfl (by decide +kernel) ⟨Nat.le_of_ble_eq_true rfl, Nat.le_of_ble_eq_true rfl⟩) rfl rfl (Nat.le_of_ble_eq_true rfl) dX11_readAt_42 ⟨Nat.le_of_ble_eq_true rfl, Nat.le_of_ble_eq_true rfl⟩ ?_
    refine pv_istore_n C [(3, .int v29), (0, .ref a0), (1, .int x1), (2, .int x2)] dX11_readAt_45 rfl (by decide) rfl ?_
    refine pv_iconst (v := -1) C dX11_readAt_46 (by decide) ?_
    refine pv_istore C [(4, .int (-1 : Int32)), (3, .int v29), (0, .ref a0), (1, .int x1), (2, .int x2)] dX11_readAt_47 (by decide) rfl ?_
    refine pv_iconst (v := 0) C dX11_readAt_49 (by decide) ?_
    refine pv_istore C [(5, .int (0 : Int32)), (4, .int (-1 : Int32)), (3, .int v29), (0, .ref a0), (1, .int x1), (2, .int x2)] dX11_readAt_50 (by decide) rfl ?_
    refine pv_sub [5, 2, 1, 0] rfl ?_
    exact r_X11_readAt_b52 W0 C hr hlk pq_fuel _ _ _ _ _  h
  · have h := pq_it c28 h
    refine pv_iconst (v := 0) C dX11_readAt_38 (by decide) ?_
    exact pv_iret C hr hlk h dX11_readAt_39
set_option maxHeartbeats 4000000 in
set_option maxRecDepth 100000 in
theorem r_X11_readAt {l : Launch} {D : va_G} {y : pq_Y} {G : pq_G} (W0 : pq_WT G) {S : pq_N} {a0 : Nat} {x1 : Int32} {x2 : Int32} (k0_ : pq_ok G 11 a0) {r : Int32} {S1 : pq_N} (h : F_X11_readAt G S a0 x1 x2 = some (r, S1)) (sz : Nat) : Met l yX11_readAt wsX11_readAt ({ frames := 3, cells := 0, slots := 0, locals := 68 } : Room) (pq_P D y G S sz [.ref a0, .int x1, .int x2]) (pq_Qi D y G sz r S1) 0 0 (pq_A G sz) := by
  refine pq_enter RX11 6 (by decide) rfl rfl rfl ?_
  intro p e s m below meth c C hsz hr hlk
  subst hsz
  unfold F_X11_readAt at h
  refine pv_sub (lo1 := [(0, .ref a0), (1, .int x1), (2, .int x2)]) [0, 1, 2] rfl ?_
  refine pv_aload_n C 0 dX11_readAt_0 rfl rfl ?_
  refine pv_aload_n C 0 dX11_readAt_1 rfl rfl ?_
  refine pv_iload_n C 1 dX11_readAt_2 rfl rfl ?_
  obtain ⟨v11, S12, e13, h⟩ := pq_bs h
  refine pv_calliV C (ci := 11) rfl (by decide) k0_ [.int x1] (fun sz => r_X11_isPamphlet W0 k0_ e13 sz) (cwV 1 C.1.2.2.2.2 gX11_readAt_X11_isPamphlet rfl rfl rfl (by decide +kernel) ⟨Nat.le_of_ble_eq_true rfl, Nat.le_of_ble_eq_true rfl⟩) rfl rfl (Nat.le_of_ble_eq_true rfl) dX11_readAt_3 ⟨Nat.le_of_ble_eq_true rfl, Nat.le_of_ble_eq_true rfl⟩ ?_
  refine pv_if_eq (tgt := 31) C dX11_readAt_6 (by decide) (fun c14 => ?_) (fun c14 => ?_)
  · have h := pq_it c14 h
    refine pv_iconst (v := 1) C dX11_readAt_31 (by decide) ?_
    refine pv_sub [0, 1, 2] rfl ?_
    exact r_X11_readAt_b32 W0 C hr hlk _ _ _ _ _ _ k0_ k0_ h
  · have h := pq_if c14 h
    refine pv_iload_n C 2 dX11_readAt_9 rfl rfl ?_
    refine pv_iconst (v := 0) C dX11_readAt_10 (by decide) ?_
    refine pv_aload_n C 0 dX11_readAt_11 rfl rfl ?_
    refine pv_iload_n C 1 dX11_readAt_12 rfl rfl ?_
    obtain ⟨v15, S16, e17, h⟩ := pq_bs h
    refine pv_calliV C (ci := 11) rfl (by decide) k0_ [.int x1] (fun sz => r_X11_reading W0 k0_ e17 sz) (cwV 1 C.1.2.2.2.2 gX11_readAt_X11_reading rfl rfl rfl (by decide +kernel) ⟨Nat.le_of_ble_eq_true rfl, Nat.le_of_ble_eq_true rfl⟩) rfl rfl (Nat.le_of_ble_eq_true rfl) dX11_readAt_13 ⟨Nat.le_of_ble_eq_true rfl, Nat.le_of_ble_eq_true rfl⟩ ?_
    obtain ⟨v18, S19, e20, h⟩ := pq_bs h
    refine pv_calliS C [.int v15] (fun sz => r_X11_many W0  e20 sz) (va_cwS 1 C.1.2.2.2.2 gX11_readAt_X11_many rfl rfl rfl (by decide +kernel) ⟨Nat.le_of_ble_eq_true rfl, Nat.le_of_ble_eq_true rfl⟩) rfl rfl (Nat.le_of_ble_eq_true rfl) dX11_readAt_16 ⟨Nat.le_of_ble_eq_true rfl, Nat.le_of_ble_eq_true rfl⟩ ?_
    refine pv_iconst (v := 1) C dX11_readAt_19 (by decide) ?_
    refine pv_isub C dX11_readAt_20 ?_
    obtain ⟨v21, S22, e23, h⟩ := pq_bs h
    refine pv_calliS C [.int x2, .int (0 : Int32), .int (v18 - (1 : Int32))] (fun sz => r_X11_in W0  e23 sz) (va_cwS 3 C.1.2.2.2.2 gX11_readAt_X11_in rfl rfl rfl (by decide +kernel) ⟨Nat.le_of_ble_eq_true rfl, Nat.le_of_ble_eq_true rfl⟩) rfl rfl (Nat.le_of_ble_eq_true rfl) dX11_readAt_21 ⟨Nat.le_of_ble_eq_true rfl, Nat.le_of_ble_eq_true rfl⟩ ?_
    refine pv_if_eq (tgt := 31) C dX11_readAt_24 (by decide) (fun c24 => ?_) (fun c24 => ?_)
    · have h := pq_it c24 h
      refine pv_iconst (v := 1) C dX11_readAt_31 (by decide) ?_
      refine pv_sub [0, 1, 2] rfl ?_
      exact r_X11_readAt_b32 W0 C hr hlk _ _ _ _ _ _ k0_ k0_ h
    · have h := pq_if c24 h
      refine pv_iconst (v := 0) C dX11_readAt_27 (by decide) ?_
      refine pv_goto (tgt := 32) C dX11_readAt_28 (by decide) ?_
      refine pv_sub [0, 1, 2] rfl ?_
      exact r_X11_readAt_b32 W0 C hr hlk _ _ _ _ _ _ k0_ k0_ h
def F_X11_readingOf_b14 (G : pq_G)  (S : pq_N) (a0 : Nat) (x1 : Int32) (t0 : Int32) (t1 : Nat) : Option (Int32 × pq_N) := (pq_bd (F_X11_holds G S t1 t0) fun v15 S16 => (if v15 = (0 : Int32) then some ((0 : Int32), S16) else (pq_bd (F_X11_reading G S16 a0 x1) fun v19 S20 => (pq_bd (F_X11_many G S20 v19) fun v22 S23 => some (v22, S23)))))
def F_X11_readingOf (G : pq_G) (S : pq_N) (a0 : Nat) (x1 : Int32) : Option (Int32 × pq_N) := (pq_bd (F_X11_isPamphlet G S a0 x1) fun v11 S12 => (if v11 = (0 : Int32) then F_X11_readingOf_b14 G S12 a0 x1 (1 : Int32) a0 else F_X11_readingOf_b14 G S12 a0 x1 (0 : Int32) a0))
set_option maxHeartbeats 4000000 in
set_option maxRecDepth 100000 in
theorem r_X11_readingOf_b14 {p : Program} {l : Launch} {e : Env} {s : State} {m : MethodId} {av : Array Value} {below : List Frame} {meth : Method} {c : Code} {D : va_G} {y : pq_Y} {G : pq_G} {r : Int32} {S1 : pq_N} (W0 : pq_WT G) (C : pq_C p s m av c D y RX11 wsX11_readingOf cX11_readingOf 2) (hr : meth.sig.returnType = (some .int)) (hlk : meth.locks = false) : ∀ (S : pq_N) (a0 : Nat) (x1 : Int32) (t0 : Int32) (t1 : Nat), pq_ok G 11 a0 → pq_ok G 11 t1 → F_X11_readingOf_b14 G S a0 x1 t0 t1 = some (r, S1) → pq_V p l e (headSpec wsX11_readingOf ({ frames := 3, cells := 0, slots := 0, locals := 68 } : Room)).room s m av below meth c 0 0 (MQ below (pq_Qi D y G s.heap.size r S1) av s 0 0 (pq_A G s.heap.size)) D y 2 (pq_A G s.heap.size) (fun _ => True) G S 14 [(0, .ref a0), (1, .int x1)] [.int t0, .ref t1] := by
  intro S a0 x1 t0 t1 k0_ kt1_ h
  unfold F_X11_readingOf_b14 at h
  obtain ⟨v15, S16, e17, h⟩ := pq_bs h
  refine pv_calliV C (ci := 11) rfl (by decide) kt1_ [.int t0] (fun sz => r_X11_holds W0 kt1_ e17 sz) (cwV 1 C.1.2.2.2.2 gX11_readingOf_X11_holds rfl rfl rfl (by decide +kernel) ⟨Nat.le_of_ble_eq_true rfl, Nat.le_of_ble_eq_true rfl⟩) rfl rfl (Nat.le_of_ble_eq_true rfl) dX11_readingOf_14 ⟨Nat.le_of_ble_eq_true rfl, Nat.le_of_ble_eq_true rfl⟩ ?_
  refine pv_if_eq (tgt := 31) C dX11_readingOf_17 (by decide) (fun c18 => ?_) (fun c18 => ?_)
  · have h := pq_it c18 h
    refine pv_iconst (v := 0) C dX11_readingOf_31 (by decide) ?_
    exact pv_iret C hr hlk h dX11_readingOf_32
  · have h := pq_if c18 h
    refine pv_aload_n C 0 dX11_readingOf_20 rfl rfl ?_
    refine pv_iload_n C 1 dX11_readingOf_21 rfl rfl ?_
    obtain ⟨v19, S20, e21, h⟩ := pq_bs h
    refine pv_calliV C (ci := 11) rfl (by decide) k0_ [.int x1] (fun sz => r_X11_reading W0 k0_ e21 sz) (cwV 1 C.1.2.2.2.2 gX11_readingOf_X11_reading rfl rfl rfl (by decide +kernel) ⟨Nat.le_of_ble_eq_true rfl, Nat.le_of_ble_eq_true rfl⟩) rfl rfl (Nat.le_of_ble_eq_true rfl) dX11_readingOf_22 ⟨Nat.le_of_ble_eq_true rfl, Nat.le_of_ble_eq_true rfl⟩ ?_
    obtain ⟨v22, S23, e24, h⟩ := pq_bs h
    refine pv_calliS C [.int v19] (fun sz => r_X11_many W0  e24 sz) (va_cwS 1 C.1.2.2.2.2 gX11_readingOf_X11_many rfl rfl rfl (by decide +kernel) ⟨Nat.le_of_ble_eq_true rfl, Nat.le_of_ble_eq_true rfl⟩) rfl rfl (Nat.le_of_ble_eq_true rfl) dX11_readingOf_25 ⟨Nat.le_of_ble_eq_true rfl, Nat.le_of_ble_eq_true rfl⟩ ?_
    refine pv_goto (tgt := 32) C dX11_readingOf_28 (by decide) ?_
    exact pv_iret C hr hlk h dX11_readingOf_32
set_option maxHeartbeats 4000000 in
set_option maxRecDepth 100000 in
theorem r_X11_readingOf {l : Launch} {D : va_G} {y : pq_Y} {G : pq_G} (W0 : pq_WT G) {S : pq_N} {a0 : Nat} {x1 : Int32} (k0_ : pq_ok G 11 a0) {r : Int32} {S1 : pq_N} (h : F_X11_readingOf G S a0 x1 = some (r, S1)) (sz : Nat) : Met l yX11_readingOf wsX11_readingOf ({ frames := 3, cells := 0, slots := 0, locals := 68 } : Room) (pq_P D y G S sz [.ref a0, .int x1]) (pq_Qi D y G sz r S1) 0 0 (pq_A G sz) := by
  refine pq_enter RX11 2 (by decide) rfl rfl rfl ?_
  intro p e s m below meth c C hsz hr hlk
  subst hsz
  unfold F_X11_readingOf at h
  refine pv_sub (lo1 := [(0, .ref a0), (1, .int x1)]) [0, 1] rfl ?_
  refine pv_aload_n C 0 dX11_readingOf_0 rfl rfl ?_
  refine pv_aload_n C 0 dX11_readingOf_1 rfl rfl ?_
  refine pv_iload_n C 1 dX11_readingOf_2 rfl rfl ?_
  obtain ⟨v11, S12, e13, h⟩ := pq_bs h
  refine pv_calliV C (ci := 11) rfl (by decide) k0_ [.int x1] (fun sz => r_X11_isPamphlet W0 k0_ e13 sz) (cwV 1 C.1.2.2.2.2 gX11_readingOf_X11_isPamphlet rfl rfl rfl (by decide +kernel) ⟨Nat.le_of_ble_eq_true rfl, Nat.le_of_ble_eq_true rfl⟩) rfl rfl (Nat.le_of_ble_eq_true rfl) dX11_readingOf_3 ⟨Nat.le_of_ble_eq_true rfl, Nat.le_of_ble_eq_true rfl⟩ ?_
  refine pv_if_eq (tgt := 13) C dX11_readingOf_6 (by decide) (fun c14 => ?_) (fun c14 => ?_)
  · have h := pq_it c14 h
    refine pv_iconst (v := 1) C dX11_readingOf_13 (by decide) ?_
    refine pv_sub [0, 1] rfl ?_
    exact r_X11_readingOf_b14 W0 C hr hlk _ _ _ _ _ k0_ k0_ h
  · have h := pq_if c14 h
    refine pv_iconst (v := 0) C dX11_readingOf_9 (by decide) ?_
    refine pv_goto (tgt := 14) C dX11_readingOf_10 (by decide) ?_
    refine pv_sub [0, 1] rfl ?_
    exact r_X11_readingOf_b14 W0 C hr hlk _ _ _ _ _ k0_ k0_ h
def F_X11_takeFrom_b35 (G : pq_G)  : Nat → pq_N → Nat → Int32 → Int32 → Option (Unit × pq_N)
  | 0, _, _, _, _ => none
  | n + 1, S, a0, x1, x2 => (if (1200 : Int32) ≤ x2 then some ((), S) else (if (((1200 : Int32) * x1) + x2) < 0 ∨ pq_n G (pq_r G a0 3) ≤ (Int32.toNatClampNeg (((1200 : Int32) * x1) + x2)) then none else (if x2 < 0 ∨ pq_n G (pq_r G a0 1) ≤ (Int32.toNatClampNeg x2) then none else (pq_lt (pq_wj S (pq_r G a0 1) (Int32.toNatClampNeg x2) (S.2 (pq_r G a0 3) (Int32.toNatClampNeg (((1200 : Int32) * x1) + x2)))) fun S23 => (F_X11_takeFrom_b35 G n) S23 a0 x1 (x2 + (1 : Int32))))))
def F_X11_takeFrom_b2 (G : pq_G)  : Nat → pq_N → Nat → Int32 → Int32 → Option (Unit × pq_N)
  | 0, _, _, _, _ => none
  | n + 1, S, a0, x1, x2 => (if (1042 : Int32) ≤ x2 then F_X11_takeFrom_b35 G pq_fuel S a0 x1 (0 : Int32) else (if (((1042 : Int32) * x1) + x2) < 0 ∨ pq_n G (pq_r G a0 2) ≤ (Int32.toNatClampNeg (((1042 : Int32) * x1) + x2)) then none else (if x2 < 0 ∨ pq_n G (pq_r G a0 0) ≤ (Int32.toNatClampNeg x2) then none else (pq_lt (pq_wi S (pq_r G a0 0) (Int32.toNatClampNeg x2) (S.1 (pq_r G a0 2) (Int32.toNatClampNeg (((1042 : Int32) * x1) + x2)))) fun S16 => (F_X11_takeFrom_b2 G n) S16 a0 x1 (x2 + (1 : Int32))))))
def F_X11_takeFrom (G : pq_G) (S : pq_N) (a0 : Nat) (x1 : Int32) : Option (Unit × pq_N) := F_X11_takeFrom_b2 G pq_fuel S a0 x1 (0 : Int32)
theorem inu_X11_takeFrom_11 : ∀ w ∈ u_ws RX11 TX11 24, w ∈ wsX11_takeFrom := pq_inu 5 rfl
set_option maxHeartbeats 4000000 in
set_option maxRecDepth 100000 in
theorem r_X11_takeFrom_b35 {p : Program} {l : Launch} {e : Env} {s : State} {m : MethodId} {av : Array Value} {below : List Frame} {meth : Method} {c : Code} {D : va_G} {y : pq_Y} {G : pq_G} {S1 : pq_N} (W0 : pq_WT G) (C : pq_C p s m av c D y RX11 wsX11_takeFrom cX11_takeFrom 3) (hr : meth.sig.returnType = none) (hlk : meth.locks = false) (n : Nat) : ∀ (S : pq_N) (a0 : Nat) (x1 : Int32) (x2 : Int32), pq_ok G 11 a0 → F_X11_takeFrom_b35 G n S a0 x1 x2 = some ((), S1) → pq_V p l e (headSpec wsX11_takeFrom ({ frames := 0, cells := 0, slots := 0, locals := 0 } : Room)).room s m av below meth c 0 0 (MQ below (pq_Qv D y G s.heap.size S1) av s 0 0 (pq_A G s.heap.size)) D y 3 (pq_A G s.heap.size) (fun _ => True) G S 35 [(0, .ref a0), (1, .int x1), (2, .int x2)] [] := by
  induction n with
  | zero =>
    intro S a0 x1 x2 k0_ h
    rw [F_X11_takeFrom_b35.eq_1] at h; cases h
  | succ n ih =>
    intro S a0 x1 x2 k0_ h
    rw [F_X11_takeFrom_b35.eq_2] at h
    refine pv_iload_n C 2 dX11_takeFrom_35 rfl rfl ?_
    refine pv_sipush (v := 1200) C dX11_takeFrom_36 (by decide) ?_
    refine pv_icmp_ge (tgt := 66) C dX11_takeFrom_39 (by decide) (fun c18 => ?_) (fun c18 => ?_)
    · have h := pq_it c18 h
      exact pv_vret C hr hlk h dX11_takeFrom_66
    · have h := pq_if c18 h
      refine pv_aload_n C 0 dX11_takeFrom_42 rfl rfl ?_
      have k19 := pq_wt (k := 1) W0 k0_ rfl
      refine pv_getr (T := TX11) (N := 24) C 1 inu_X11_takeFrom_11 rfl (by decide) (by decide) (List.mem_of_getElem? (i := 3) rfl) rfl k0_ k19.1 dX11_takeFrom_43 ?_
      refine pv_iload_n C 2 dX11_takeFrom_46 rfl rfl ?_
      refine pv_aload_n C 0 dX11_takeFrom_47 rfl rfl ?_
      have k20 := pq_wt (k := 3) W0 k0_ rfl
      refine pv_getr (T := TX11) (N := 24) C 3 inu_X11_takeFrom_11 rfl (by decide) (by decide) (List.mem_of_getElem? (i := 4) rfl) rfl k0_ k20.1 dX11_takeFrom_48 ?_
      refine pv_sipush (v := 1200) C dX11_takeFrom_51 (by decide) ?_
      refine pv_iload_n C 1 dX11_takeFrom_54 rfl rfl ?_
      refine pv_imul C dX11_takeFrom_55 ?_
      refine pv_iload_n C 2 dX11_takeFrom_56 rfl rfl ?_
      refine pv_iadd C dX11_takeFrom_57 ?_
      obtain ⟨g21, h⟩ := pq_gd h
      refine pv_laload C k20.2 g21 dX11_takeFrom_58 ?_
      obtain ⟨g22, h⟩ := pq_gd h
      refine pv_lastore C k19.2 g22 dX11_takeFrom_59 ?_
      refine pv_nm (fun S23 e24 => ?_)
      have h := pq_ls e24 h
      refine pv_iinc (v := (x2 + (1 : Int32))) C 2 [(2, .int (x2 + (1 : Int32))), (0, .ref a0), (1, .int x1)] dX11_takeFrom_60 rfl rfl (by decide) rfl ?_
      refine pv_goto (tgt := 35) C dX11_takeFrom_63 (by decide) ?_
      refine pv_sub [1, 2, 0] rfl ?_
      exact ih _ _ _ _ k0_ h
set_option maxHeartbeats 4000000 in
set_option maxRecDepth 100000 in
theorem r_X11_takeFrom_b2 {p : Program} {l : Launch} {e : Env} {s : State} {m : MethodId} {av : Array Value} {below : List Frame} {meth : Method} {c : Code} {D : va_G} {y : pq_Y} {G : pq_G} {S1 : pq_N} (W0 : pq_WT G) (C : pq_C p s m av c D y RX11 wsX11_takeFrom cX11_takeFrom 3) (hr : meth.sig.returnType = none) (hlk : meth.locks = false) (n : Nat) : ∀ (S : pq_N) (a0 : Nat) (x1 : Int32) (x2 : Int32), pq_ok G 11 a0 → F_X11_takeFrom_b2 G n S a0 x1 x2 = some ((), S1) → pq_V p l e (headSpec wsX11_takeFrom ({ frames := 0, cells := 0, slots := 0, locals := 0 } : Room)).room s m av below meth c 0 0 (MQ below (pq_Qv D y G s.heap.size S1) av s 0 0 (pq_A G s.heap.size)) D y 3 (pq_A G s.heap.size) (fun _ => True) G S 2 [(0, .ref a0), (1, .int x1), (2, .int x2)] [] := by
  induction n with
  | zero =>
    intro S a0 x1 x2 k0_ h
    rw [F_X11_takeFrom_b2.eq_1] at h; cases h
  | succ n ih =>
    intro S a0 x1 x2 k0_ h
    rw [F_X11_takeFrom_b2.eq_2] at h
    refine pv_iload_n C 2 dX11_takeFrom_2 rfl rfl ?_
    refine pv_sipush (v := 1042) C dX11_takeFrom_3 (by decide) ?_
    refine pv_icmp_ge (tgt := 33) C dX11_takeFrom_6 (by decide) (fun c11 => ?_) (fun c11 => ?_)
    · have h := pq_it c11 h
      refine pv_iconst (v := 0) C dX11_takeFrom_33 (by decide) ?_
      refine pv_istore_n C [(2, .int (0 : Int32)), (0, .ref a0), (1, .int x1)] dX11_takeFrom_34 rfl (by decide) rfl ?_
      refine pv_sub [1, 2, 0] rfl ?_
      exact r_X11_takeFrom_b35 W0 C hr hlk pq_fuel _ _ _ _ k0_ h
    · have h := pq_if c11 h
      refine pv_aload_n C 0 dX11_takeFrom_9 rfl rfl ?_
      have k12 := pq_wt (k := 0) W0 k0_ rfl
      refine pv_getr (T := TX11) (N := 24) C 0 inu_X11_takeFrom_11 rfl (by decide) (by decide) (List.mem_of_getElem? (i := 1) rfl) rfl k0_ k12.1 dX11_takeFrom_10 ?_
      refine pv_iload_n C 2 dX11_takeFrom_13 rfl rfl ?_
      refine pv_aload_n C 0 dX11_takeFrom_14 rfl rfl ?_
      have k13 := pq_wt (k := 2) W0 k0_ rfl
      refine pv_getr (T := TX11) (N := 24) C 2 inu_X11_takeFrom_11 rfl (by decide) (by decide) (List.mem_of_getElem? (i := 2) rfl) rfl k0_ k13.1 dX11_takeFrom_15 ?_
      refine pv_sipush (v := 1042) C dX11_takeFrom_18 (by decide) ?_
      refine pv_iload_n C 1 dX11_takeFrom_21 rfl rfl ?_
      refine pv_imul C dX11_takeFrom_22 ?_
      refine pv_iload_n C 2 dX11_takeFrom_23 rfl rfl ?_
      refine pv_iadd C dX11_takeFrom_24 ?_
      obtain ⟨g14, h⟩ := pq_gd h
      refine pv_iaload C k13.2 g14 dX11_takeFrom_25 ?_
      obtain ⟨g15, h⟩ := pq_gd h
      refine pv_iastore C k12.2 g15 dX11_takeFrom_26 ?_
      refine pv_nm (fun S16 e17 => ?_)
      have h := pq_ls e17 h
      refine pv_iinc (v := (x2 + (1 : Int32))) C 2 [(2, .int (x2 + (1 : Int32))), (0, .ref a0), (1, .int x1)] dX11_takeFrom_27 rfl rfl (by decide) rfl ?_
      refine pv_goto (tgt := 2) C dX11_takeFrom_30 (by decide) ?_
      refine pv_sub [1, 2, 0] rfl ?_
      exact ih _ _ _ _ k0_ h
set_option maxHeartbeats 4000000 in
set_option maxRecDepth 100000 in
theorem r_X11_takeFrom {l : Launch} {D : va_G} {y : pq_Y} {G : pq_G} (W0 : pq_WT G) {S : pq_N} {a0 : Nat} {x1 : Int32} (k0_ : pq_ok G 11 a0) {S1 : pq_N} (h : F_X11_takeFrom G S a0 x1 = some ((), S1)) (sz : Nat) : Met l yX11_takeFrom wsX11_takeFrom ({ frames := 0, cells := 0, slots := 0, locals := 0 } : Room) (pq_P D y G S sz [.ref a0, .int x1]) (pq_Qv D y G sz S1) 0 0 (pq_A G sz) := by
  refine pq_enter RX11 3 (by decide) rfl rfl rfl ?_
  intro p e s m below meth c C hsz hr hlk
  subst hsz
  unfold F_X11_takeFrom at h
  refine pv_sub (lo1 := [(0, .ref a0), (1, .int x1)]) [0, 1] rfl ?_
  refine pv_iconst (v := 0) C dX11_takeFrom_0 (by decide) ?_
  refine pv_istore_n C [(2, .int (0 : Int32)), (0, .ref a0), (1, .int x1)] dX11_takeFrom_1 rfl (by decide) rfl ?_
  refine pv_sub [1, 2, 0] rfl ?_
  exact r_X11_takeFrom_b2 W0 C hr hlk pq_fuel _ _ _ _ k0_ h
def F_X11_restoreSnapshot_b13 (G : pq_G)  (S : pq_N) (a0 : Nat) (t0 : Int32) (t1 : Nat) : Option (Int32 × pq_N) := (pq_bd (F_X11_holds G S t1 t0) fun v12 S13 => (if v12 = (0 : Int32) then some ((0 : Int32), S13) else (pq_bd (F_X11_save G S13 a0) fun _ S17 => (pq_bd (F_X11_takeFrom G S17 a0 (5 : Int32)) fun _ S20 => (if (1 : Int32) < 0 ∨ pq_n G (pq_r G a0 0) ≤ (Int32.toNatClampNeg (1 : Int32)) then none else some ((S20.1 (pq_r G a0 0) (Int32.toNatClampNeg (1 : Int32))), S20))))))
def F_X11_restoreSnapshot (G : pq_G) (S : pq_N) (a0 : Nat) : Option (Int32 × pq_N) := (if (S.1 a0 5) = (0 : Int32) then F_X11_restoreSnapshot_b13 G S a0 (1 : Int32) a0 else F_X11_restoreSnapshot_b13 G S a0 (0 : Int32) a0)
theorem inu_X11_restoreSnapshot_11 : ∀ w ∈ u_ws RX11 TX11 24, w ∈ wsX11_restoreSnapshot := pq_inu 25 rfl
set_option maxHeartbeats 4000000 in
set_option maxRecDepth 100000 in
theorem r_X11_restoreSnapshot_b13 {p : Program} {l : Launch} {e : Env} {s : State} {m : MethodId} {av : Array Value} {below : List Frame} {meth : Method} {c : Code} {D : va_G} {y : pq_Y} {G : pq_G} {r : Int32} {S1 : pq_N} (W0 : pq_WT G) (C : pq_C p s m av c D y RX11 wsX11_restoreSnapshot cX11_restoreSnapshot 1) (hr : meth.sig.returnType = (some .int)) (hlk : meth.locks = false) : ∀ (S : pq_N) (a0 : Nat) (t0 : Int32) (t1 : Nat), pq_ok G 11 a0 → pq_ok G 11 t1 → F_X11_restoreSnapshot_b13 G S a0 t0 t1 = some (r, S1) → pq_V p l e (headSpec wsX11_restoreSnapshot ({ frames := 2, cells := 0, slots := 0, locals := 43 } : Room)).room s m av below meth c 0 0 (MQ below (pq_Qi D y G s.heap.size r S1) av s 0 0 (pq_A G s.heap.size)) D y 1 (pq_A G s.heap.size) (fun _ => True) G S 13 [(0, .ref a0)] [.int t0, .ref t1] := by
  intro S a0 t0 t1 k0_ kt1_ h
  unfold F_X11_restoreSnapshot_b13 at h
  obtain ⟨v12, S13, e14, h⟩ := pq_bs h
  refine pv_calliV C (ci := 11) rfl (by decide) kt1_ [.int t0] (fun sz => r_X11_holds W0 kt1_ e14 sz) (cwV 1 C.1.2.2.2.2 gX11_restoreSnapshot_X11_holds rfl rfl rfl (by decide +kernel) ⟨Nat.le_of_ble_eq_true rfl, Nat.le_of_ble_eq_true rfl⟩) rfl rfl (Nat.le_of_ble_eq_true rfl) dX11_restoreSnapshot_13 ⟨Nat.le_of_ble_eq_true rfl, Nat.le_of_ble_eq_true rfl⟩ ?_
  refine pv_if_ne (tgt := 21) C dX11_restoreSnapshot_16 (by decide) (fun c15 => ?_) (fun c15 => ?_)
  · have h := pq_if c15 h
    refine pv_aload_n C 0 dX11_restoreSnapshot_21 rfl rfl ?_
    obtain ⟨⟨⟩, S17, e18, h⟩ := pq_bs h
    refine pv_callvV C (ci := 11) rfl (by decide) k0_ [] (fun sz => r_X11_save W0 k0_ e18 sz) (cwV 0 C.1.2.2.2.2 gX11_restoreSnapshot_X11_save rfl rfl rfl (by decide +kernel) ⟨Nat.le_of_ble_eq_true rfl, Nat.le_of_ble_eq_true rfl⟩) rfl rfl (Nat.le_of_ble_eq_true rfl) dX11_restoreSnapshot_22 ⟨Nat.le_of_ble_eq_true rfl, Nat.le_of_ble_eq_true rfl⟩ ?_
    refine pv_aload_n C 0 dX11_restoreSnapshot_25 rfl rfl ?_
    refine pv_iconst (v := 5) C dX11_restoreSnapshot_26 (by decide) ?_
    obtain ⟨⟨⟩, S20, e21, h⟩ := pq_bs h
    refine pv_callvV C (ci := 11) rfl (by decide) k0_ [.int (5 : Int32)] (fun sz => r_X11_takeFrom W0 k0_ e21 sz) (cwV 1 C.1.2.2.2.2 gX11_restoreSnapshot_X11_takeFrom rfl rfl rfl (by decide +kernel) ⟨Nat.le_of_ble_eq_true rfl, Nat.le_of_ble_eq_true rfl⟩) rfl rfl (Nat.le_of_ble_eq_true rfl) dX11_restoreSnapshot_27 ⟨Nat.le_of_ble_eq_true rfl, Nat.le_of_ble_eq_true rfl⟩ ?_
    refine pv_aload_n C 0 dX11_restoreSnapshot_30 rfl rfl ?_
    have k22 := pq_wt (k := 0) W0 k0_ rfl
    refine pv_getr (T := TX11) (N := 24) C 0 inu_X11_restoreSnapshot_11 rfl (by decide) (by decide) (List.mem_of_getElem? (i := 2) rfl) rfl k0_ k22.1 dX11_restoreSnapshot_31 ?_
    refine pv_iconst (v := 1) C dX11_restoreSnapshot_34 (by decide) ?_
    obtain ⟨g23, h⟩ := pq_gd h
    refine pv_iaload C k22.2 g23 dX11_restoreSnapshot_35 ?_
    exact pv_iret C hr hlk h dX11_restoreSnapshot_36
  · have h := pq_it c15 h
    refine pv_iconst (v := 0) C dX11_restoreSnapshot_19 (by decide) ?_
    exact pv_iret C hr hlk h dX11_restoreSnapshot_20
set_option maxHeartbeats 4000000 in
set_option maxRecDepth 100000 in
theorem r_X11_restoreSnapshot {l : Launch} {D : va_G} {y : pq_Y} {G : pq_G} (W0 : pq_WT G) {S : pq_N} {a0 : Nat} (k0_ : pq_ok G 11 a0) {r : Int32} {S1 : pq_N} (h : F_X11_restoreSnapshot G S a0 = some (r, S1)) (sz : Nat) : Met l yX11_restoreSnapshot wsX11_restoreSnapshot ({ frames := 2, cells := 0, slots := 0, locals := 43 } : Room) (pq_P D y G S sz [.ref a0]) (pq_Qi D y G sz r S1) 0 0 (pq_A G sz) := by
  refine pq_enter RX11 1 (by decide) rfl rfl rfl ?_
  intro p e s m below meth c C hsz hr hlk
  subst hsz
  unfold F_X11_restoreSnapshot at h
  refine pv_sub (lo1 := [(0, .ref a0)]) [0] rfl ?_
  refine pv_aload_n C 0 dX11_restoreSnapshot_0 rfl rfl ?_
  refine pv_aload_n C 0 dX11_restoreSnapshot_1 rfl rfl ?_
  refine pv_geti (T := TX11) (N := 24) C 5 inu_X11_restoreSnapshot_11 rfl (by decide) (by decide) (List.mem_of_getElem? (i := 1) rfl) rfl k0_ dX11_restoreSnapshot_2 ?_
  refine pv_if_eq (tgt := 12) C dX11_restoreSnapshot_5 (by decide) (fun c11 => ?_) (fun c11 => ?_)
  · have h := pq_it c11 h
    refine pv_iconst (v := 1) C dX11_restoreSnapshot_12 (by decide) ?_
    refine pv_sub [0] rfl ?_
    exact r_X11_restoreSnapshot_b13 W0 C hr hlk _ _ _ _ k0_ k0_ h
  · have h := pq_if c11 h
    refine pv_iconst (v := 0) C dX11_restoreSnapshot_8 (by decide) ?_
    refine pv_goto (tgt := 13) C dX11_restoreSnapshot_9 (by decide) ?_
    refine pv_sub [0] rfl ?_
    exact r_X11_restoreSnapshot_b13 W0 C hr hlk _ _ _ _ k0_ k0_ h
def F_X11_savedStates (G : pq_G) (S : pq_N) (a0 : Nat) : Option (Int32 × pq_N) := (pq_bd (F_X11_plain G S a0 (S.1 a0 4)) fun v11 S12 => some (v11, S12))
theorem inu_X11_savedStates_11 : ∀ w ∈ u_ws RX11 TX11 24, w ∈ wsX11_savedStates := pq_inu 8 rfl
set_option maxHeartbeats 4000000 in
set_option maxRecDepth 100000 in
theorem r_X11_savedStates {l : Launch} {D : va_G} {y : pq_Y} {G : pq_G} (W0 : pq_WT G) {S : pq_N} {a0 : Nat} (k0_ : pq_ok G 11 a0) {r : Int32} {S1 : pq_N} (h : F_X11_savedStates G S a0 = some (r, S1)) (sz : Nat) : Met l yX11_savedStates wsX11_savedStates ({ frames := 1, cells := 0, slots := 0, locals := 21 } : Room) (pq_P D y G S sz [.ref a0]) (pq_Qi D y G sz r S1) 0 0 (pq_A G sz) := by
  refine pq_enter RX11 1 (by decide) rfl rfl rfl ?_
  intro p e s m below meth c C hsz hr hlk
  subst hsz
  unfold F_X11_savedStates at h
  refine pv_sub (lo1 := [(0, .ref a0)]) [0] rfl ?_
  refine pv_aload_n C 0 dX11_savedStates_0 rfl rfl ?_
  refine pv_aload_n C 0 dX11_savedStates_1 rfl rfl ?_
  refine pv_geti (T := TX11) (N := 24) C 4 inu_X11_savedStates_11 rfl (by decide) (by decide) (List.mem_of_getElem? (i := 1) rfl) rfl k0_ dX11_savedStates_2 ?_
  obtain ⟨v11, S12, e13, h⟩ := pq_bs h
  refine pv_calliV C (ci := 11) rfl (by decide) k0_ [.int (S.1 a0 4)] (fun sz => r_X11_plain W0 k0_ e13 sz) (cwV 1 C.1.2.2.2.2 gX11_savedStates_X11_plain rfl rfl rfl (by decide +kernel) ⟨Nat.le_of_ble_eq_true rfl, Nat.le_of_ble_eq_true rfl⟩) rfl rfl (Nat.le_of_ble_eq_true rfl) dX11_savedStates_5 ⟨Nat.le_of_ble_eq_true rfl, Nat.le_of_ble_eq_true rfl⟩ ?_
  exact pv_iret C hr hlk h dX11_savedStates_8
def F_X11_sourceOf (G : pq_G) (S : pq_N) (a0 : Nat) (x1 : Int32) (x2 : Int32) : Option (Int32 × pq_N) := (pq_bd (F_X11_isTold G S a0 x1 x2) fun v11 S12 => (if v11 = (0 : Int32) then some ((0 : Int32), S12) else (pq_bd (F_X11_source G S12 a0 x1 x2) fun v15 S16 => some (v15, S16))))
set_option maxHeartbeats 4000000 in
set_option maxRecDepth 100000 in
theorem r_X11_sourceOf {l : Launch} {D : va_G} {y : pq_Y} {G : pq_G} (W0 : pq_WT G) {S : pq_N} {a0 : Nat} {x1 : Int32} {x2 : Int32} (k0_ : pq_ok G 11 a0) {r : Int32} {S1 : pq_N} (h : F_X11_sourceOf G S a0 x1 x2 = some (r, S1)) (sz : Nat) : Met l yX11_sourceOf wsX11_sourceOf ({ frames := 4, cells := 0, slots := 0, locals := 87 } : Room) (pq_P D y G S sz [.ref a0, .int x1, .int x2]) (pq_Qi D y G sz r S1) 0 0 (pq_A G sz) := by
  refine pq_enter RX11 3 (by decide) rfl rfl rfl ?_
  intro p e s m below meth c C hsz hr hlk
  subst hsz
  unfold F_X11_sourceOf at h
  refine pv_sub (lo1 := [(0, .ref a0), (1, .int x1), (2, .int x2)]) [0, 1, 2] rfl ?_
  refine pv_aload_n C 0 dX11_sourceOf_0 rfl rfl ?_
  refine pv_iload_n C 1 dX11_sourceOf_1 rfl rfl ?_
  refine pv_iload_n C 2 dX11_sourceOf_2 rfl rfl ?_
  obtain ⟨v11, S12, e13, h⟩ := pq_bs h
  refine pv_calliV C (ci := 11) rfl (by decide) k0_ [.int x1, .int x2] (fun sz => r_X11_isTold W0 k0_ e13 sz) (cwV 2 C.1.2.2.2.2 gX11_sourceOf_X11_isTold rfl rfl rfl (by decide +kernel) ⟨Nat.le_of_ble_eq_true rfl, Nat.le_of_ble_eq_true rfl⟩) rfl rfl (Nat.le_of_ble_eq_true rfl) dX11_sourceOf_3 ⟨Nat.le_of_ble_eq_true rfl, Nat.le_of_ble_eq_true rfl⟩ ?_
  refine pv_if_eq (tgt := 18) C dX11_sourceOf_6 (by decide) (fun c14 => ?_) (fun c14 => ?_)
  · have h := pq_it c14 h
    refine pv_iconst (v := 0) C dX11_sourceOf_18 (by decide) ?_
    exact pv_iret C hr hlk h dX11_sourceOf_19
  · have h := pq_if c14 h
    refine pv_aload_n C 0 dX11_sourceOf_9 rfl rfl ?_
    refine pv_iload_n C 1 dX11_sourceOf_10 rfl rfl ?_
    refine pv_iload_n C 2 dX11_sourceOf_11 rfl rfl ?_
    obtain ⟨v15, S16, e17, h⟩ := pq_bs h
    refine pv_calliV C (ci := 11) rfl (by decide) k0_ [.int x1, .int x2] (fun sz => r_X11_source W0 k0_ e17 sz) (cwV 2 C.1.2.2.2.2 gX11_sourceOf_X11_source rfl rfl rfl (by decide +kernel) ⟨Nat.le_of_ble_eq_true rfl, Nat.le_of_ble_eq_true rfl⟩) rfl rfl (Nat.le_of_ble_eq_true rfl) dX11_sourceOf_12 ⟨Nat.le_of_ble_eq_true rfl, Nat.le_of_ble_eq_true rfl⟩ ?_
    refine pv_goto (tgt := 19) C dX11_sourceOf_15 (by decide) ?_
    exact pv_iret C hr hlk h dX11_sourceOf_19
def F_X11_takeSnapshot (G : pq_G) (S : pq_N) (a0 : Nat) : Option (Int32 × pq_N) := (pq_lt (pq_wi S a0 8 (0 : Int32)) fun S11 => (pq_bd (F_X11_keepAt G S11 a0 (5 : Int32)) fun _ S14 => (pq_lt (pq_wi S14 a0 5 (1 : Int32)) fun S16 => (if (1 : Int32) < 0 ∨ pq_n G (pq_r G a0 0) ≤ (Int32.toNatClampNeg (1 : Int32)) then none else some ((S16.1 (pq_r G a0 0) (Int32.toNatClampNeg (1 : Int32))), S16)))))
theorem inu_X11_takeSnapshot_11 : ∀ w ∈ u_ws RX11 TX11 24, w ∈ wsX11_takeSnapshot := pq_inu 12 rfl
set_option maxHeartbeats 4000000 in
set_option maxRecDepth 100000 in
theorem r_X11_takeSnapshot {l : Launch} {D : va_G} {y : pq_Y} {G : pq_G} (W0 : pq_WT G) {S : pq_N} {a0 : Nat} (k0_ : pq_ok G 11 a0) {r : Int32} {S1 : pq_N} (h : F_X11_takeSnapshot G S a0 = some (r, S1)) (sz : Nat) : Met l yX11_takeSnapshot wsX11_takeSnapshot ({ frames := 1, cells := 0, slots := 0, locals := 22 } : Room) (pq_P D y G S sz [.ref a0]) (pq_Qi D y G sz r S1) 0 0 (pq_A G sz) := by
  refine pq_enter RX11 1 (by decide) rfl rfl rfl ?_
  intro p e s m below meth c C hsz hr hlk
  subst hsz
  unfold F_X11_takeSnapshot at h
  refine pv_sub (lo1 := [(0, .ref a0)]) [0] rfl ?_
  refine pv_aload_n C 0 dX11_takeSnapshot_0 rfl rfl ?_
  refine pv_iconst (v := 0) C dX11_takeSnapshot_1 (by decide) ?_
  refine pv_put (T := TX11) (N := 24) (ty := .int) C 8 inu_X11_takeSnapshot_11 rfl (by decide) tyX11 tyX11_ok nmX11 (by decide) (List.mem_of_getElem? (i := 1) rfl) rfl k0_ rfl (by decide +kernel) rfl rfl dX11_takeSnapshot_2 ?_
  refine pv_nm (fun S11 e12 => ?_)
  have h := pq_ls e12 h
  refine pv_aload_n C 0 dX11_takeSnapshot_5 rfl rfl ?_
  refine pv_iconst (v := 5) C dX11_takeSnapshot_6 (by decide) ?_
  obtain ⟨⟨⟩, S14, e15, h⟩ := pq_bs h
  refine pv_callvV C (ci := 11) rfl (by decide) k0_ [.int (5 : Int32)] (fun sz => r_X11_keepAt W0 k0_ e15 sz) (cwV 1 C.1.2.2.2.2 gX11_takeSnapshot_X11_keepAt rfl rfl rfl (by decide +kernel) ⟨Nat.le_of_ble_eq_true rfl, Nat.le_of_ble_eq_true rfl⟩) rfl rfl (Nat.le_of_ble_eq_true rfl) dX11_takeSnapshot_7 ⟨Nat.le_of_ble_eq_true rfl, Nat.le_of_ble_eq_true rfl⟩ ?_
  refine pv_aload_n C 0 dX11_takeSnapshot_10 rfl rfl ?_
  refine pv_iconst (v := 1) C dX11_takeSnapshot_11 (by decide) ?_
  refine pv_put (T := TX11) (N := 24) (ty := .boolean) C 5 inu_X11_takeSnapshot_11 rfl (by decide) tyX11 tyX11_ok nmX11 (by decide) (List.mem_of_getElem? (i := 2) rfl) rfl k0_ rfl (by decide +kernel) rfl rfl dX11_takeSnapshot_12 ?_
  refine pv_nm (fun S16 e17 => ?_)
  have h := pq_ls e17 h
  refine pv_aload_n C 0 dX11_takeSnapshot_15 rfl rfl ?_
  have k18 := pq_wt (k := 0) W0 k0_ rfl
  refine pv_getr (T := TX11) (N := 24) C 0 inu_X11_takeSnapshot_11 rfl (by decide) (by decide) (List.mem_of_getElem? (i := 3) rfl) rfl k0_ k18.1 dX11_takeSnapshot_16 ?_
  refine pv_iconst (v := 1) C dX11_takeSnapshot_19 (by decide) ?_
  obtain ⟨g19, h⟩ := pq_gd h
  refine pv_iaload C k18.2 g19 dX11_takeSnapshot_20 ?_
  exact pv_iret C hr hlk h dX11_takeSnapshot_21
def F_X11_thrown (G : pq_G) (S : pq_N) (a0 : Nat) : Option (Int32 × pq_N) := some ((S.1 a0 8), S)
theorem inu_X11_thrown_11 : ∀ w ∈ u_ws RX11 TX11 24, w ∈ wsX11_thrown := pq_inu 2 rfl
set_option maxHeartbeats 4000000 in
set_option maxRecDepth 100000 in
theorem r_X11_thrown {l : Launch} {D : va_G} {y : pq_Y} {G : pq_G} (W0 : pq_WT G) {S : pq_N} {a0 : Nat} (k0_ : pq_ok G 11 a0) {r : Int32} {S1 : pq_N} (h : F_X11_thrown G S a0 = some (r, S1)) (sz : Nat) : Met l yX11_thrown wsX11_thrown ({ frames := 0, cells := 0, slots := 0, locals := 0 } : Room) (pq_P D y G S sz [.ref a0]) (pq_Qi D y G sz r S1) 0 0 (pq_A G sz) := by
  refine pq_enter RX11 1 (by decide) rfl rfl rfl ?_
  intro p e s m below meth c C hsz hr hlk
  subst hsz
  unfold F_X11_thrown at h
  refine pv_sub (lo1 := [(0, .ref a0)]) [0] rfl ?_
  refine pv_aload_n C 0 dX11_thrown_0 rfl rfl ?_
  refine pv_geti (T := TX11) (N := 24) C 8 inu_X11_thrown_11 rfl (by decide) (by decide) (List.mem_of_getElem? (i := 1) rfl) rfl k0_ dX11_thrown_1 ?_
  exact pv_iret C hr hlk h dX11_thrown_4
def F_X11_timesOf_b24 (G : pq_G)  (S : pq_N) (a0 : Nat) (x1 : Int32) (t0 : Int32) (t1 : Nat) : Option (Int32 × pq_N) := (pq_bd (F_X11_holds G S t1 t0) fun v18 S19 => (if v18 = (0 : Int32) then some ((0 : Int32), S19) else (if x1 < 0 ∨ pq_n G (pq_r G a0 22) ≤ (Int32.toNatClampNeg x1) then none else some ((S19.1 (pq_r G a0 22) (Int32.toNatClampNeg x1)), S19))))
def F_X11_timesOf (G : pq_G) (S : pq_N) (a0 : Nat) (x1 : Int32) : Option (Int32 × pq_N) := (pq_bd (F_X11_gloss G S a0) fun _ S12 => (pq_bd (F_X11_in G S12 x1 (0 : Int32) ((S12.1 a0 23) - (1 : Int32))) fun v14 S15 => (if v14 = (0 : Int32) then F_X11_timesOf_b24 G S15 a0 x1 (1 : Int32) a0 else F_X11_timesOf_b24 G S15 a0 x1 (0 : Int32) a0)))
theorem inu_X11_timesOf_11 : ∀ w ∈ u_ws RX11 TX11 24, w ∈ wsX11_timesOf := pq_inu 34 rfl
set_option maxHeartbeats 4000000 in
set_option maxRecDepth 100000 in
theorem r_X11_timesOf_b24 {p : Program} {l : Launch} {e : Env} {s : State} {m : MethodId} {av : Array Value} {below : List Frame} {meth : Method} {c : Code} {D : va_G} {y : pq_Y} {G : pq_G} {r : Int32} {S1 : pq_N} (W0 : pq_WT G) (C : pq_C p s m av c D y RX11 wsX11_timesOf cX11_timesOf 2) (hr : meth.sig.returnType = (some .int)) (hlk : meth.locks = false) : ∀ (S : pq_N) (a0 : Nat) (x1 : Int32) (t0 : Int32) (t1 : Nat), pq_ok G 11 a0 → pq_ok G 11 t1 → F_X11_timesOf_b24 G S a0 x1 t0 t1 = some (r, S1) → pq_V p l e (headSpec wsX11_timesOf ({ frames := 2, cells := 0, slots := 0, locals := 50 } : Room)).room s m av below meth c 0 0 (MQ below (pq_Qi D y G s.heap.size r S1) av s 0 0 (pq_A G s.heap.size)) D y 2 (pq_A G s.heap.size) (fun _ => True) G S 24 [(0, .ref a0), (1, .int x1)] [.int t0, .ref t1] := by
  intro S a0 x1 t0 t1 k0_ kt1_ h
  unfold F_X11_timesOf_b24 at h
  obtain ⟨v18, S19, e20, h⟩ := pq_bs h
  refine pv_calliV C (ci := 11) rfl (by decide) kt1_ [.int t0] (fun sz => r_X11_holds W0 kt1_ e20 sz) (cwV 1 C.1.2.2.2.2 gX11_timesOf_X11_holds rfl rfl rfl (by decide +kernel) ⟨Nat.le_of_ble_eq_true rfl, Nat.le_of_ble_eq_true rfl⟩) rfl rfl (Nat.le_of_ble_eq_true rfl) dX11_timesOf_24 ⟨Nat.le_of_ble_eq_true rfl, Nat.le_of_ble_eq_true rfl⟩ ?_
  refine pv_if_eq (tgt := 39) C dX11_timesOf_27 (by decide) (fun c21 => ?_) (fun c21 => ?_)
  · have h := pq_it c21 h
    refine pv_iconst (v := 0) C dX11_timesOf_39 (by decide) ?_
    exact pv_iret C hr hlk h dX11_timesOf_40
  · have h := pq_if c21 h
    refine pv_aload_n C 0 dX11_timesOf_30 rfl rfl ?_
    have k22 := pq_wt (k := 22) W0 k0_ rfl
    refine pv_getr (T := TX11) (N := 24) C 22 inu_X11_timesOf_11 rfl (by decide) (by decide) (List.mem_of_getElem? (i := 2) rfl) rfl k0_ k22.1 dX11_timesOf_31 ?_
    refine pv_iload_n C 1 dX11_timesOf_34 rfl rfl ?_
    obtain ⟨g23, h⟩ := pq_gd h
    refine pv_iaload C k22.2 g23 dX11_timesOf_35 ?_
    refine pv_goto (tgt := 40) C dX11_timesOf_36 (by decide) ?_
    exact pv_iret C hr hlk h dX11_timesOf_40
set_option maxHeartbeats 4000000 in
set_option maxRecDepth 100000 in
theorem r_X11_timesOf {l : Launch} {D : va_G} {y : pq_Y} {G : pq_G} (W0 : pq_WT G) {S : pq_N} {a0 : Nat} {x1 : Int32} (k0_ : pq_ok G 11 a0) {r : Int32} {S1 : pq_N} (h : F_X11_timesOf G S a0 x1 = some (r, S1)) (sz : Nat) : Met l yX11_timesOf wsX11_timesOf ({ frames := 2, cells := 0, slots := 0, locals := 50 } : Room) (pq_P D y G S sz [.ref a0, .int x1]) (pq_Qi D y G sz r S1) 0 0 (pq_A G sz) := by
  refine pq_enter RX11 2 (by decide) rfl rfl rfl ?_
  intro p e s m below meth c C hsz hr hlk
  subst hsz
  unfold F_X11_timesOf at h
  refine pv_sub (lo1 := [(0, .ref a0), (1, .int x1)]) [0, 1] rfl ?_
  refine pv_aload_n C 0 dX11_timesOf_0 rfl rfl ?_
  obtain ⟨⟨⟩, S12, e13, h⟩ := pq_bs h
  refine pv_callvV C (ci := 11) rfl (by decide) k0_ [] (fun sz => r_X11_gloss W0 k0_ e13 sz) (cwV 0 C.1.2.2.2.2 gX11_timesOf_X11_gloss rfl rfl rfl (by decide +kernel) ⟨Nat.le_of_ble_eq_true rfl, Nat.le_of_ble_eq_true rfl⟩) rfl rfl (Nat.le_of_ble_eq_true rfl) dX11_timesOf_1 ⟨Nat.le_of_ble_eq_true rfl, Nat.le_of_ble_eq_true rfl⟩ ?_
  refine pv_aload_n C 0 dX11_timesOf_4 rfl rfl ?_
  refine pv_iload_n C 1 dX11_timesOf_5 rfl rfl ?_
  refine pv_iconst (v := 0) C dX11_timesOf_6 (by decide) ?_
  refine pv_aload_n C 0 dX11_timesOf_7 rfl rfl ?_
  refine pv_geti (T := TX11) (N := 24) C 23 inu_X11_timesOf_11 rfl (by decide) (by decide) (List.mem_of_getElem? (i := 1) rfl) rfl k0_ dX11_timesOf_8 ?_
  refine pv_iconst (v := 1) C dX11_timesOf_11 (by decide) ?_
  refine pv_isub C dX11_timesOf_12 ?_
  obtain ⟨v14, S15, e16, h⟩ := pq_bs h
  refine pv_calliS C [.int x1, .int (0 : Int32), .int ((S12.1 a0 23) - (1 : Int32))] (fun sz => r_X11_in W0  e16 sz) (va_cwS 3 C.1.2.2.2.2 gX11_timesOf_X11_in rfl rfl rfl (by decide +kernel) ⟨Nat.le_of_ble_eq_true rfl, Nat.le_of_ble_eq_true rfl⟩) rfl rfl (Nat.le_of_ble_eq_true rfl) dX11_timesOf_13 ⟨Nat.le_of_ble_eq_true rfl, Nat.le_of_ble_eq_true rfl⟩ ?_
  refine pv_if_eq (tgt := 23) C dX11_timesOf_16 (by decide) (fun c17 => ?_) (fun c17 => ?_)
  · have h := pq_it c17 h
    refine pv_iconst (v := 1) C dX11_timesOf_23 (by decide) ?_
    refine pv_sub [0, 1] rfl ?_
    exact r_X11_timesOf_b24 W0 C hr hlk _ _ _ _ _ k0_ k0_ h
  · have h := pq_if c17 h
    refine pv_iconst (v := 0) C dX11_timesOf_19 (by decide) ?_
    refine pv_goto (tgt := 24) C dX11_timesOf_20 (by decide) ?_
    refine pv_sub [0, 1] rfl ?_
    exact r_X11_timesOf_b24 W0 C hr hlk _ _ _ _ _ k0_ k0_ h
def F_X11_traceOf (G : pq_G) (S : pq_N) (a0 : Nat) (x1 : Int32) (x2 : Int32) : Option (Int32 × pq_N) := (pq_bd (F_X11_isTold G S a0 x1 x2) fun v11 S12 => (if v11 = (0 : Int32) then some ((0 : Int32), S12) else (pq_bd (F_X11_trace G S12 a0 x1 x2) fun _ S16 => some ((S16.1 a0 18), S16))))
theorem inu_X11_traceOf_11 : ∀ w ∈ u_ws RX11 TX11 24, w ∈ wsX11_traceOf := pq_inu 70 rfl
set_option maxHeartbeats 4000000 in
set_option maxRecDepth 100000 in
theorem r_X11_traceOf {l : Launch} {D : va_G} {y : pq_Y} {G : pq_G} (W0 : pq_WT G) {S : pq_N} {a0 : Nat} {x1 : Int32} {x2 : Int32} (k0_ : pq_ok G 11 a0) {r : Int32} {S1 : pq_N} (h : F_X11_traceOf G S a0 x1 x2 = some (r, S1)) (sz : Nat) : Met l yX11_traceOf wsX11_traceOf ({ frames := 6, cells := 0, slots := 0, locals := 151 } : Room) (pq_P D y G S sz [.ref a0, .int x1, .int x2]) (pq_Qi D y G sz r S1) 0 0 (pq_A G sz) := by
  refine pq_enter RX11 3 (by decide) rfl rfl rfl ?_
  intro p e s m below meth c C hsz hr hlk
  subst hsz
  unfold F_X11_traceOf at h
  refine pv_sub (lo1 := [(0, .ref a0), (1, .int x1), (2, .int x2)]) [0, 1, 2] rfl ?_
  refine pv_aload_n C 0 dX11_traceOf_0 rfl rfl ?_
  refine pv_iload_n C 1 dX11_traceOf_1 rfl rfl ?_
  refine pv_iload_n C 2 dX11_traceOf_2 rfl rfl ?_
  obtain ⟨v11, S12, e13, h⟩ := pq_bs h
  refine pv_calliV C (ci := 11) rfl (by decide) k0_ [.int x1, .int x2] (fun sz => r_X11_isTold W0 k0_ e13 sz) (cwV 2 C.1.2.2.2.2 gX11_traceOf_X11_isTold rfl rfl rfl (by decide +kernel) ⟨Nat.le_of_ble_eq_true rfl, Nat.le_of_ble_eq_true rfl⟩) rfl rfl (Nat.le_of_ble_eq_true rfl) dX11_traceOf_3 ⟨Nat.le_of_ble_eq_true rfl, Nat.le_of_ble_eq_true rfl⟩ ?_
  refine pv_if_ne (tgt := 11) C dX11_traceOf_6 (by decide) (fun c14 => ?_) (fun c14 => ?_)
  · have h := pq_if c14 h
    refine pv_aload_n C 0 dX11_traceOf_11 rfl rfl ?_
    refine pv_iload_n C 1 dX11_traceOf_12 rfl rfl ?_
    refine pv_iload_n C 2 dX11_traceOf_13 rfl rfl ?_
    obtain ⟨⟨⟩, S16, e17, h⟩ := pq_bs h
    refine pv_callvV C (ci := 11) rfl (by decide) k0_ [.int x1, .int x2] (fun sz => r_X11_trace W0 k0_ e17 sz) (cwV 2 C.1.2.2.2.2 gX11_traceOf_X11_trace rfl rfl rfl (by decide +kernel) ⟨Nat.le_of_ble_eq_true rfl, Nat.le_of_ble_eq_true rfl⟩) rfl rfl (Nat.le_of_ble_eq_true rfl) dX11_traceOf_14 ⟨Nat.le_of_ble_eq_true rfl, Nat.le_of_ble_eq_true rfl⟩ ?_
    refine pv_aload_n C 0 dX11_traceOf_17 rfl rfl ?_
    refine pv_geti (T := TX11) (N := 24) C 18 inu_X11_traceOf_11 rfl (by decide) (by decide) (List.mem_of_getElem? (i := 1) rfl) rfl k0_ dX11_traceOf_18 ?_
    exact pv_iret C hr hlk h dX11_traceOf_21
  · have h := pq_it c14 h
    refine pv_iconst (v := 0) C dX11_traceOf_9 (by decide) ?_
    exact pv_iret C hr hlk h dX11_traceOf_10
def F_X11_undo_b13 (G : pq_G)  (S : pq_N) (a0 : Nat) (t0 : Int32) (t1 : Nat) : Option (Int32 × pq_N) := (pq_bd (F_X11_holds G S t1 t0) fun v12 S13 => (if v12 = (0 : Int32) then some ((0 : Int32), S13) else (pq_lt (pq_wi S13 a0 4 ((S13.1 a0 4) - (1 : Int32))) fun S16 => (pq_bd (F_X11_takeFrom G S16 a0 (S16.1 a0 4)) fun _ S19 => some ((S19.1 a0 4), S19)))))
def F_X11_undo (G : pq_G) (S : pq_N) (a0 : Nat) : Option (Int32 × pq_N) := (if (S.1 a0 4) ≤ (0 : Int32) then F_X11_undo_b13 G S a0 (1 : Int32) a0 else F_X11_undo_b13 G S a0 (0 : Int32) a0)
theorem inu_X11_undo_11 : ∀ w ∈ u_ws RX11 TX11 24, w ∈ wsX11_undo := pq_inu 16 rfl
set_option maxHeartbeats 4000000 in
set_option maxRecDepth 100000 in
theorem r_X11_undo_b13 {p : Program} {l : Launch} {e : Env} {s : State} {m : MethodId} {av : Array Value} {below : List Frame} {meth : Method} {c : Code} {D : va_G} {y : pq_Y} {G : pq_G} {r : Int32} {S1 : pq_N} (W0 : pq_WT G) (C : pq_C p s m av c D y RX11 wsX11_undo cX11_undo 1) (hr : meth.sig.returnType = (some .int)) (hlk : meth.locks = false) : ∀ (S : pq_N) (a0 : Nat) (t0 : Int32) (t1 : Nat), pq_ok G 11 a0 → pq_ok G 11 t1 → F_X11_undo_b13 G S a0 t0 t1 = some (r, S1) → pq_V p l e (headSpec wsX11_undo ({ frames := 1, cells := 0, slots := 0, locals := 22 } : Room)).room s m av below meth c 0 0 (MQ below (pq_Qi D y G s.heap.size r S1) av s 0 0 (pq_A G s.heap.size)) D y 1 (pq_A G s.heap.size) (fun _ => True) G S 13 [(0, .ref a0)] [.int t0, .ref t1] := by
  intro S a0 t0 t1 k0_ kt1_ h
  unfold F_X11_undo_b13 at h
  obtain ⟨v12, S13, e14, h⟩ := pq_bs h
  refine pv_calliV C (ci := 11) rfl (by decide) kt1_ [.int t0] (fun sz => r_X11_holds W0 kt1_ e14 sz) (cwV 1 C.1.2.2.2.2 gX11_undo_X11_holds rfl rfl rfl (by decide +kernel) ⟨Nat.le_of_ble_eq_true rfl, Nat.le_of_ble_eq_true rfl⟩) rfl rfl (Nat.le_of_ble_eq_true rfl) dX11_undo_13 ⟨Nat.le_of_ble_eq_true rfl, Nat.le_of_ble_eq_true rfl⟩ ?_
  refine pv_if_ne (tgt := 21) C dX11_undo_16 (by decide) (fun c15 => ?_) (fun c15 => ?_)
  · have h := pq_if c15 h
    refine pv_aload_n C 0 dX11_undo_21 rfl rfl ?_
    refine pv_dup C dX11_undo_22 rfl ?_
    refine pv_geti (T := TX11) (N := 24) C 4 inu_X11_undo_11 rfl (by decide) (by decide) (List.mem_of_getElem? (i := 1) rfl) rfl k0_ dX11_undo_23 ?_
    refine pv_iconst (v := 1) C dX11_undo_26 (by decide) ?_
    refine pv_isub C dX11_undo_27 ?_
    refine pv_put (T := TX11) (N := 24) (ty := .int) C 4 inu_X11_undo_11 rfl (by decide) tyX11 tyX11_ok nmX11 (by decide) (List.mem_of_getElem? (i := 1) rfl) rfl k0_ rfl (by decide +kernel) rfl rfl dX11_undo_28 ?_
    refine pv_nm (fun S16 e17 => ?_)
    have h := pq_ls e17 h
    refine pv_aload_n C 0 dX11_undo_31 rfl rfl ?_
    refine pv_aload_n C 0 dX11_undo_32 rfl rfl ?_
    refine pv_geti (T := TX11) (N := 24) C 4 inu_X11_undo_11 rfl (by decide) (by decide) (List.mem_of_getElem? (i := 1) rfl) rfl k0_ dX11_undo_33 ?_
    obtain ⟨⟨⟩, S19, e20, h⟩ := pq_bs h
    refine pv_callvV C (ci := 11) rfl (by decide) k0_ [.int (S16.1 a0 4)] (fun sz => r_X11_takeFrom W0 k0_ e20 sz) (cwV 1 C.1.2.2.2.2 gX11_undo_X11_takeFrom rfl rfl rfl (by decide +kernel) ⟨Nat.le_of_ble_eq_true rfl, Nat.le_of_ble_eq_true rfl⟩) rfl rfl (Nat.le_of_ble_eq_true rfl) dX11_undo_36 ⟨Nat.le_of_ble_eq_true rfl, Nat.le_of_ble_eq_true rfl⟩ ?_
    refine pv_aload_n C 0 dX11_undo_39 rfl rfl ?_
    refine pv_geti (T := TX11) (N := 24) C 4 inu_X11_undo_11 rfl (by decide) (by decide) (List.mem_of_getElem? (i := 1) rfl) rfl k0_ dX11_undo_40 ?_
    exact pv_iret C hr hlk h dX11_undo_43
  · have h := pq_it c15 h
    refine pv_iconst (v := 0) C dX11_undo_19 (by decide) ?_
    exact pv_iret C hr hlk h dX11_undo_20
set_option maxHeartbeats 4000000 in
set_option maxRecDepth 100000 in
theorem r_X11_undo {l : Launch} {D : va_G} {y : pq_Y} {G : pq_G} (W0 : pq_WT G) {S : pq_N} {a0 : Nat} (k0_ : pq_ok G 11 a0) {r : Int32} {S1 : pq_N} (h : F_X11_undo G S a0 = some (r, S1)) (sz : Nat) : Met l yX11_undo wsX11_undo ({ frames := 1, cells := 0, slots := 0, locals := 22 } : Room) (pq_P D y G S sz [.ref a0]) (pq_Qi D y G sz r S1) 0 0 (pq_A G sz) := by
  refine pq_enter RX11 1 (by decide) rfl rfl rfl ?_
  intro p e s m below meth c C hsz hr hlk
  subst hsz
  unfold F_X11_undo at h
  refine pv_sub (lo1 := [(0, .ref a0)]) [0] rfl ?_
  refine pv_aload_n C 0 dX11_undo_0 rfl rfl ?_
  refine pv_aload_n C 0 dX11_undo_1 rfl rfl ?_
  refine pv_geti (T := TX11) (N := 24) C 4 inu_X11_undo_11 rfl (by decide) (by decide) (List.mem_of_getElem? (i := 1) rfl) rfl k0_ dX11_undo_2 ?_
  refine pv_if_le (tgt := 12) C dX11_undo_5 (by decide) (fun c11 => ?_) (fun c11 => ?_)
  · have h := pq_it c11 h
    refine pv_iconst (v := 1) C dX11_undo_12 (by decide) ?_
    refine pv_sub [0] rfl ?_
    exact r_X11_undo_b13 W0 C hr hlk _ _ _ _ k0_ k0_ h
  · have h := pq_if c11 h
    refine pv_iconst (v := 0) C dX11_undo_8 (by decide) ?_
    refine pv_goto (tgt := 13) C dX11_undo_9 (by decide) ?_
    refine pv_sub [0] rfl ?_
    exact r_X11_undo_b13 W0 C hr hlk _ _ _ _ k0_ k0_ h
def F_X11_whyNotPrinted (G : pq_G) (S : pq_N) (a0 : Nat) : Option (Int32 × pq_N) := (pq_bd (F_X11_why G S a0) fun v11 S12 => (pq_bd (F_X11_plain G S12 a0 v11) fun v14 S15 => some (v14, S15)))
set_option maxHeartbeats 4000000 in
set_option maxRecDepth 100000 in
theorem r_X11_whyNotPrinted {l : Launch} {D : va_G} {y : pq_Y} {G : pq_G} (W0 : pq_WT G) {S : pq_N} {a0 : Nat} (k0_ : pq_ok G 11 a0) {r : Int32} {S1 : pq_N} (h : F_X11_whyNotPrinted G S a0 = some (r, S1)) (sz : Nat) : Met l yX11_whyNotPrinted wsX11_whyNotPrinted ({ frames := 6, cells := 0, slots := 0, locals := 138 } : Room) (pq_P D y G S sz [.ref a0]) (pq_Qi D y G sz r S1) 0 0 (pq_A G sz) := by
  refine pq_enter RX11 1 (by decide) rfl rfl rfl ?_
  intro p e s m below meth c C hsz hr hlk
  subst hsz
  unfold F_X11_whyNotPrinted at h
  refine pv_sub (lo1 := [(0, .ref a0)]) [0] rfl ?_
  refine pv_aload_n C 0 dX11_whyNotPrinted_0 rfl rfl ?_
  refine pv_aload_n C 0 dX11_whyNotPrinted_1 rfl rfl ?_
  obtain ⟨v11, S12, e13, h⟩ := pq_bs h
  refine pv_calliV C (ci := 11) rfl (by decide) k0_ [] (fun sz => r_X11_why W0 k0_ e13 sz) (cwV 0 C.1.2.2.2.2 gX11_whyNotPrinted_X11_why rfl rfl rfl (by decide +kernel) ⟨Nat.le_of_ble_eq_true rfl, Nat.le_of_ble_eq_true rfl⟩) rfl rfl (Nat.le_of_ble_eq_true rfl) dX11_whyNotPrinted_2 ⟨Nat.le_of_ble_eq_true rfl, Nat.le_of_ble_eq_true rfl⟩ ?_
  obtain ⟨v14, S15, e16, h⟩ := pq_bs h
  refine pv_calliV C (ci := 11) rfl (by decide) k0_ [.int v11] (fun sz => r_X11_plain W0 k0_ e16 sz) (cwV 1 C.1.2.2.2.2 gX11_whyNotPrinted_X11_plain rfl rfl rfl (by decide +kernel) ⟨Nat.le_of_ble_eq_true rfl, Nat.le_of_ble_eq_true rfl⟩) rfl rfl (Nat.le_of_ble_eq_true rfl) dX11_whyNotPrinted_5 ⟨Nat.le_of_ble_eq_true rfl, Nat.le_of_ble_eq_true rfl⟩ ?_
  exact pv_iret C hr hlk h dX11_whyNotPrinted_8
def F_X11_withdraw_b34 (G : pq_G)  (S : pq_N) (a0 : Nat) (t0 : Int32) (t1 : Nat) : Option (Int32 × pq_N) := (pq_bd (F_X11_holds G S t1 t0) fun v22 S23 => (if v22 = (0 : Int32) then some ((0 : Int32), S23) else (pq_bd (F_X11_save G S23 a0) fun _ S27 => (if (1 : Int32) < 0 ∨ pq_n G (pq_r G a0 0) ≤ (Int32.toNatClampNeg (1 : Int32)) then none else (if (1 : Int32) < 0 ∨ pq_n G (pq_r G a0 0) ≤ (Int32.toNatClampNeg (1 : Int32)) then none else (pq_lt (pq_wi S27 (pq_r G a0 0) (Int32.toNatClampNeg (1 : Int32)) ((S27.1 (pq_r G a0 0) (Int32.toNatClampNeg (1 : Int32))) - (1 : Int32))) fun S32 => (if (1 : Int32) < 0 ∨ pq_n G (pq_r G a0 0) ≤ (Int32.toNatClampNeg (1 : Int32)) then none else some ((S32.1 (pq_r G a0 0) (Int32.toNatClampNeg (1 : Int32))), S32))))))))
def F_X11_withdraw (G : pq_G) (S : pq_N) (a0 : Nat) : Option (Int32 × pq_N) := (if (1 : Int32) < 0 ∨ pq_n G (pq_r G a0 0) ≤ (Int32.toNatClampNeg (1 : Int32)) then none else (pq_lt ((S.1 (pq_r G a0 0) (Int32.toNatClampNeg (1 : Int32))) - (1 : Int32)) fun i13 => (if i13 < (0 : Int32) then F_X11_withdraw_b34 G S a0 (1 : Int32) a0 else (pq_bd (F_X11_get G S a0 i13 (3 : Int32)) fun v16 S17 => (if (0 : Int32) < 0 ∨ pq_n G (pq_r G a0 0) ≤ (Int32.toNatClampNeg (0 : Int32)) then none else (if v16 = (S17.1 (pq_r G a0 0) (Int32.toNatClampNeg (0 : Int32))) then F_X11_withdraw_b34 G S17 a0 (0 : Int32) a0 else F_X11_withdraw_b34 G S17 a0 (1 : Int32) a0))))))
theorem inu_X11_withdraw_11 : ∀ w ∈ u_ws RX11 TX11 24, w ∈ wsX11_withdraw := pq_inu 24 rfl
set_option maxHeartbeats 4000000 in
set_option maxRecDepth 100000 in
theorem r_X11_withdraw_b34 {p : Program} {l : Launch} {e : Env} {s : State} {m : MethodId} {av : Array Value} {below : List Frame} {meth : Method} {c : Code} {D : va_G} {y : pq_Y} {G : pq_G} {r : Int32} {S1 : pq_N} (W0 : pq_WT G) (C : pq_C p s m av c D y RX11 wsX11_withdraw cX11_withdraw 2) (hr : meth.sig.returnType = (some .int)) (hlk : meth.locks = false) : ∀ (S : pq_N) (a0 : Nat) (t0 : Int32) (t1 : Nat), pq_ok G 11 a0 → pq_ok G 11 t1 → F_X11_withdraw_b34 G S a0 t0 t1 = some (r, S1) → pq_V p l e (headSpec wsX11_withdraw ({ frames := 2, cells := 0, slots := 0, locals := 43 } : Room)).room s m av below meth c 0 0 (MQ below (pq_Qi D y G s.heap.size r S1) av s 0 0 (pq_A G s.heap.size)) D y 2 (pq_A G s.heap.size) (fun _ => True) G S 34 [(0, .ref a0)] [.int t0, .ref t1] := by
  intro S a0 t0 t1 k0_ kt1_ h
  unfold F_X11_withdraw_b34 at h
  obtain ⟨v22, S23, e24, h⟩ := pq_bs h
  refine pv_calliV C (ci := 11) rfl (by decide) kt1_ [.int t0] (fun sz => r_X11_holds W0 kt1_ e24 sz) (cwV 1 C.1.2.2.2.2 gX11_withdraw_X11_holds rfl rfl rfl (by decide +kernel) ⟨Nat.le_of_ble_eq_true rfl, Nat.le_of_ble_eq_true rfl⟩) rfl rfl (Nat.le_of_ble_eq_true rfl) dX11_withdraw_34 ⟨Nat.le_of_ble_eq_true rfl, Nat.le_of_ble_eq_true rfl⟩ ?_
  refine pv_if_ne (tgt := 42) C dX11_withdraw_37 (by decide) (fun c25 => ?_) (fun c25 => ?_)
  · have h := pq_if c25 h
    refine pv_aload_n C 0 dX11_withdraw_42 rfl rfl ?_
    obtain ⟨⟨⟩, S27, e28, h⟩ := pq_bs h
    refine pv_callvV C (ci := 11) rfl (by decide) k0_ [] (fun sz => r_X11_save W0 k0_ e28 sz) (cwV 0 C.1.2.2.2.2 gX11_withdraw_X11_save rfl rfl rfl (by decide +kernel) ⟨Nat.le_of_ble_eq_true rfl, Nat.le_of_ble_eq_true rfl⟩) rfl rfl (Nat.le_of_ble_eq_true rfl) dX11_withdraw_43 ⟨Nat.le_of_ble_eq_true rfl, Nat.le_of_ble_eq_true rfl⟩ ?_
    refine pv_aload_n C 0 dX11_withdraw_46 rfl rfl ?_
    have k29 := pq_wt (k := 0) W0 k0_ rfl
    refine pv_getr (T := TX11) (N := 24) C 0 inu_X11_withdraw_11 rfl (by decide) (by decide) (List.mem_of_getElem? (i := 1) rfl) rfl k0_ k29.1 dX11_withdraw_47 ?_
    refine pv_iconst (v := 1) C dX11_withdraw_50 (by decide) ?_
    refine pv_dup2 C dX11_withdraw_51 rfl rfl ?_
    obtain ⟨g30, h⟩ := pq_gd h
    refine pv_iaload C k29.2 g30 dX11_withdraw_52 ?_
    refine pv_iconst (v := 1) C dX11_withdraw_53 (by decide) ?_
    refine pv_isub C dX11_withdraw_54 ?_
    obtain ⟨g31, h⟩ := pq_gd h
    refine pv_iastore C k29.2 g31 dX11_withdraw_55 ?_
    refine pv_nm (fun S32 e33 => ?_)
    have h := pq_ls e33 h
    refine pv_aload_n C 0 dX11_withdraw_56 rfl rfl ?_
    have k34 := pq_wt (k := 0) W0 k0_ rfl
    refine pv_getr (T := TX11) (N := 24) C 0 inu_X11_withdraw_11 rfl (by decide) (by decide) (List.mem_of_getElem? (i := 1) rfl) rfl k0_ k34.1 dX11_withdraw_57 ?_
    refine pv_iconst (v := 1) C dX11_withdraw_60 (by decide) ?_
    obtain ⟨g35, h⟩ := pq_gd h
    refine pv_iaload C k34.2 g35 dX11_withdraw_61 ?_
    exact pv_iret C hr hlk h dX11_withdraw_62
  · have h := pq_it c25 h
    refine pv_iconst (v := 0) C dX11_withdraw_40 (by decide) ?_
    exact pv_iret C hr hlk h dX11_withdraw_41
set_option maxHeartbeats 4000000 in
set_option maxRecDepth 100000 in
theorem r_X11_withdraw {l : Launch} {D : va_G} {y : pq_Y} {G : pq_G} (W0 : pq_WT G) {S : pq_N} {a0 : Nat} (k0_ : pq_ok G 11 a0) {r : Int32} {S1 : pq_N} (h : F_X11_withdraw G S a0 = some (r, S1)) (sz : Nat) : Met l yX11_withdraw wsX11_withdraw ({ frames := 2, cells := 0, slots := 0, locals := 43 } : Room) (pq_P D y G S sz [.ref a0]) (pq_Qi D y G sz r S1) 0 0 (pq_A G sz) := by
  refine pq_enter RX11 2 (by decide) rfl rfl rfl ?_
  intro p e s m below meth c C hsz hr hlk
  subst hsz
  unfold F_X11_withdraw at h
  refine pv_sub (lo1 := [(0, .ref a0)]) [0] rfl ?_
  refine pv_aload_n C 0 dX11_withdraw_0 rfl rfl ?_
  have k11 := pq_wt (k := 0) W0 k0_ rfl
  refine pv_getr (T := TX11) (N := 24) C 0 inu_X11_withdraw_11 rfl (by decide) (by decide) (List.mem_of_getElem? (i := 1) rfl) rfl k0_ k11.1 dX11_withdraw_1 ?_
  refine pv_iconst (v := 1) C dX11_withdraw_4 (by decide) ?_
  obtain ⟨g12, h⟩ := pq_gd h
  refine pv_iaload C k11.2 g12 dX11_withdraw_5 ?_
  refine pv_iconst (v := 1) C dX11_withdraw_6 (by decide) ?_
  refine pv_isub C dX11_withdraw_7 ?_
  refine pv_nmi (fun i13 e14 => ?_)
  have h := pq_ls e14 h
  refine pv_istore_n C [(1, .int i13), (0, .ref a0)] dX11_withdraw_8 rfl (by decide) rfl ?_
  refine pv_aload_n C 1 dX11_withdraw_9 rfl rfl ?_
  refine pv_iload_n C 0 dX11_withdraw_10 rfl rfl ?_
  refine pv_if_lt (tgt := 33) C dX11_withdraw_11 (by decide) (fun c15 => ?_) (fun c15 => ?_)
  · have h := pq_it c15 h
    refine pv_iconst (v := 1) C dX11_withdraw_33 (by decide) ?_
    refine pv_sub [1] rfl ?_
    exact r_X11_withdraw_b34 W0 C hr hlk _ _ _ _ k0_ k0_ h
  · have h := pq_if c15 h
    refine pv_aload_n C 1 dX11_withdraw_14 rfl rfl ?_
    refine pv_iload_n C 0 dX11_withdraw_15 rfl rfl ?_
    refine pv_iconst (v := 3) C dX11_withdraw_16 (by decide) ?_
    obtain ⟨v16, S17, e18, h⟩ := pq_bs h
    refine pv_calliV C (ci := 11) rfl (by decide) k0_ [.int i13, .int (3 : Int32)] (fun sz => r_X11_get W0 k0_ e18 sz) (cwV 2 C.1.2.2.2.2 gX11_withdraw_X11_get rfl rfl rfl (by decide +kernel) ⟨Nat.le_of_ble_eq_true rfl, Nat.le_of_ble_eq_true rfl⟩) rfl rfl (Nat.le_of_ble_eq_true rfl) dX11_withdraw_17 ⟨Nat.le_of_ble_eq_true rfl, Nat.le_of_ble_eq_true rfl⟩ ?_
    refine pv_aload_n C 1 dX11_withdraw_20 rfl rfl ?_
    have k19 := pq_wt (k := 0) W0 k0_ rfl
    refine pv_getr (T := TX11) (N := 24) C 0 inu_X11_withdraw_11 rfl (by decide) (by decide) (List.mem_of_getElem? (i := 1) rfl) rfl k0_ k19.1 dX11_withdraw_21 ?_
    refine pv_iconst (v := 0) C dX11_withdraw_24 (by decide) ?_
    obtain ⟨g20, h⟩ := pq_gd h
    refine pv_iaload C k19.2 g20 dX11_withdraw_25 ?_
    refine pv_icmp_ne (tgt := 33) C dX11_withdraw_26 (by decide) (fun c21 => ?_) (fun c21 => ?_)
    · have h := pq_if c21 h
      refine pv_iconst (v := 1) C dX11_withdraw_33 (by decide) ?_
      refine pv_sub [1] rfl ?_
      exact r_X11_withdraw_b34 W0 C hr hlk _ _ _ _ k0_ k0_ h
    · have h := pq_it c21 h
      refine pv_iconst (v := 0) C dX11_withdraw_29 (by decide) ?_
      refine pv_goto (tgt := 34) C dX11_withdraw_30 (by decide) ?_
      refine pv_sub [1] rfl ?_
      exact r_X11_withdraw_b34 W0 C hr hlk _ _ _ _ k0_ k0_ h
def F_X11_wordsOf (G : pq_G) (S : pq_N) (a0 : Nat) (x1 : Int32) : Option (Int32 × pq_N) := (pq_bd (F_X11_told G S a0 x1 (4 : Int32)) fun v11 S12 => some (v11, S12))
set_option maxHeartbeats 4000000 in
set_option maxRecDepth 100000 in
theorem r_X11_wordsOf {l : Launch} {D : va_G} {y : pq_Y} {G : pq_G} (W0 : pq_WT G) {S : pq_N} {a0 : Nat} {x1 : Int32} (k0_ : pq_ok G 11 a0) {r : Int32} {S1 : pq_N} (h : F_X11_wordsOf G S a0 x1 = some (r, S1)) (sz : Nat) : Met l yX11_wordsOf wsX11_wordsOf ({ frames := 3, cells := 0, slots := 0, locals := 65 } : Room) (pq_P D y G S sz [.ref a0, .int x1]) (pq_Qi D y G sz r S1) 0 0 (pq_A G sz) := by
  refine pq_enter RX11 2 (by decide) rfl rfl rfl ?_
  intro p e s m below meth c C hsz hr hlk
  subst hsz
  unfold F_X11_wordsOf at h
  refine pv_sub (lo1 := [(0, .ref a0), (1, .int x1)]) [0, 1] rfl ?_
  refine pv_aload_n C 0 dX11_wordsOf_0 rfl rfl ?_
  refine pv_iload_n C 1 dX11_wordsOf_1 rfl rfl ?_
  refine pv_iconst (v := 4) C dX11_wordsOf_2 (by decide) ?_
  obtain ⟨v11, S12, e13, h⟩ := pq_bs h
  refine pv_calliV C (ci := 11) rfl (by decide) k0_ [.int x1, .int (4 : Int32)] (fun sz => r_X11_told W0 k0_ e13 sz) (cwV 2 C.1.2.2.2.2 gX11_wordsOf_X11_told rfl rfl rfl (by decide +kernel) ⟨Nat.le_of_ble_eq_true rfl, Nat.le_of_ble_eq_true rfl⟩) rfl rfl (Nat.le_of_ble_eq_true rfl) dX11_wordsOf_3 ⟨Nat.le_of_ble_eq_true rfl, Nat.le_of_ble_eq_true rfl⟩ ?_
  exact pv_iret C hr hlk h dX11_wordsOf_6
def F_X11_wordsOn_b37 (G : pq_G)  (S : pq_N) (a0 : Nat) (x1 : Int32) (x2 : Int32) (t0 : Int32) (t1 : Nat) : Option (Int32 × pq_N) := (pq_bd (F_X11_holds G S t1 t0) fun v21 S22 => (if v21 = (0 : Int32) then some ((0 : Int32), S22) else (pq_bd (F_X11_get G S22 a0 x1 (4 : Int32)) fun v25 S26 => (if (8 : Int32) ≤ (v25 - ((8 : Int32) * x2)) then some ((8 : Int32), S26) else some ((v25 - ((8 : Int32) * x2)), S26)))))
def F_X11_wordsOn (G : pq_G) (S : pq_N) (a0 : Nat) (x1 : Int32) (x2 : Int32) : Option (Int32 × pq_N) := (pq_bd (F_X11_isPamphlet G S a0 x1) fun v11 S12 => (if v11 = (0 : Int32) then F_X11_wordsOn_b37 G S12 a0 x1 x2 (1 : Int32) a0 else (if x2 < (0 : Int32) then F_X11_wordsOn_b37 G S12 a0 x1 x2 (1 : Int32) a0 else (if (60 : Int32) ≤ x2 then F_X11_wordsOn_b37 G S12 a0 x1 x2 (1 : Int32) a0 else (pq_bd (F_X11_get G S12 a0 x1 (4 : Int32)) fun v17 S18 => (if v17 ≤ ((8 : Int32) * x2) then F_X11_wordsOn_b37 G S18 a0 x1 x2 (1 : Int32) a0 else F_X11_wordsOn_b37 G S18 a0 x1 x2 (0 : Int32) a0))))))
set_option maxHeartbeats 4000000 in
set_option maxRecDepth 100000 in
theorem r_X11_wordsOn_b37 {p : Program} {l : Launch} {e : Env} {s : State} {m : MethodId} {av : Array Value} {below : List Frame} {meth : Method} {c : Code} {D : va_G} {y : pq_Y} {G : pq_G} {r : Int32} {S1 : pq_N} (W0 : pq_WT G) (C : pq_C p s m av c D y RX11 wsX11_wordsOn cX11_wordsOn 4) (hr : meth.sig.returnType = (some .int)) (hlk : meth.locks = false) : ∀ (S : pq_N) (a0 : Nat) (x1 : Int32) (x2 : Int32) (t0 : Int32) (t1 : Nat), pq_ok G 11 a0 → pq_ok G 11 t1 → F_X11_wordsOn_b37 G S a0 x1 x2 t0 t1 = some (r, S1) → pq_V p l e (headSpec wsX11_wordsOn ({ frames := 2, cells := 0, slots := 0, locals := 43 } : Room)).room s m av below meth c 0 0 (MQ below (pq_Qi D y G s.heap.size r S1) av s 0 0 (pq_A G s.heap.size)) D y 4 (pq_A G s.heap.size) (fun _ => True) G S 37 [(0, .ref a0), (1, .int x1), (2, .int x2)] [.int t0, .ref t1] := by
  intro S a0 x1 x2 t0 t1 k0_ kt1_ h
  unfold F_X11_wordsOn_b37 at h
  obtain ⟨v21, S22, e23, h⟩ := pq_bs h
  refine pv_calliV C (ci := 11) rfl (by decide) kt1_ [.int t0] (fun sz => r_X11_holds W0 kt1_ e23 sz) (cwV 1 C.1.2.2.2.2 gX11_wordsOn_X11_holds rfl rfl rfl (by decide +kernel) ⟨Nat.le_of_ble_eq_true rfl, Nat.le_of_ble_eq_true rfl⟩) rfl rfl (Nat.le_of_ble_eq_true rfl) dX11_wordsOn_37 ⟨Nat.le_of_ble_eq_true rfl, Nat.le_of_ble_eq_true rfl⟩ ?_
  refine pv_if_ne (tgt := 45) C dX11_wordsOn_40 (by decide) (fun c24 => ?_) (fun c24 => ?_)
  · have h := pq_if c24 h
    refine pv_aload_n C 0 dX11_wordsOn_45 rfl rfl ?_
    refine pv_iload_n C 1 dX11_wordsOn_46 rfl rfl ?_
    refine pv_iconst (v := 4) C dX11_wordsOn_47 (by decide) ?_
    obtain ⟨v25, S26, e27, h⟩ := pq_bs h
    refine pv_calliV C (ci := 11) rfl (by decide) k0_ [.int x1, .int (4 : Int32)] (fun sz => r_X11_get W0 k0_ e27 sz) (cwV 2 C.1.2.2.2.2 gX11_wordsOn_X11_get rfl rfl rfl (by decide +kernel) ⟨Nat.le_of_ble_eq_true rfl, Nat.le_of_ble_eq_true rfl⟩) rfl rfl (Nat.le_of_ble_eq_true rfl) dX11_wordsOn_48 ⟨Nat.le_of_ble_eq_true rfl, Nat.le_of_ble_eq_true rfl⟩ ?_
    refine pv_bipush (v := 8) C dX11_wordsOn_51 (by decide) ?_
    refine pv_iload_n C 2 dX11_wordsOn_53 rfl rfl ?_
    refine pv_imul C dX11_wordsOn_54 ?_
    refine pv_isub C dX11_wordsOn_55 ?_
    refine pv_istore_n C [(3, .int (v25 - ((8 : Int32) * x2))), (0, .ref a0), (1, .int x1), (2, .int x2)] dX11_wordsOn_56 rfl (by decide) rfl ?_
    refine pv_iload_n C 0 dX11_wordsOn_57 rfl rfl ?_
    refine pv_bipush (v := 8) C dX11_wordsOn_58 (by decide) ?_
    refine pv_icmp_ge (tgt := 67) C dX11_wordsOn_60 (by decide) (fun c28 => ?_) (fun c28 => ?_)
    · have h := pq_it c28 h
      refine pv_bipush (v := 8) C dX11_wordsOn_67 (by decide) ?_
      exact pv_iret C hr hlk h dX11_wordsOn_69
    · have h := pq_if c28 h
      refine pv_iload_n C 0 dX11_wordsOn_63 rfl rfl ?_
      refine pv_goto (tgt := 69) C dX11_wordsOn_64 (by decide) ?_
      exact pv_iret C hr hlk h dX11_wordsOn_69
  · have h := pq_it c24 h
    refine pv_iconst (v := 0) C dX11_wordsOn_43 (by decide) ?_
    exact pv_iret C hr hlk h dX11_wordsOn_44
set_option maxHeartbeats 4000000 in
set_option maxRecDepth 100000 in
theorem r_X11_wordsOn {l : Launch} {D : va_G} {y : pq_Y} {G : pq_G} (W0 : pq_WT G) {S : pq_N} {a0 : Nat} {x1 : Int32} {x2 : Int32} (k0_ : pq_ok G 11 a0) {r : Int32} {S1 : pq_N} (h : F_X11_wordsOn G S a0 x1 x2 = some (r, S1)) (sz : Nat) : Met l yX11_wordsOn wsX11_wordsOn ({ frames := 2, cells := 0, slots := 0, locals := 43 } : Room) (pq_P D y G S sz [.ref a0, .int x1, .int x2]) (pq_Qi D y G sz r S1) 0 0 (pq_A G sz) := by
  refine pq_enter RX11 4 (by decide) rfl rfl rfl ?_
  intro p e s m below meth c C hsz hr hlk
  subst hsz
  unfold F_X11_wordsOn at h
  refine pv_sub (lo1 := [(0, .ref a0), (1, .int x1), (2, .int x2)]) [0, 1, 2] rfl ?_
  refine pv_aload_n C 0 dX11_wordsOn_0 rfl rfl ?_
  refine pv_aload_n C 0 dX11_wordsOn_1 rfl rfl ?_
  refine pv_iload_n C 1 dX11_wordsOn_2 rfl rfl ?_
  obtain ⟨v11, S12, e13, h⟩ := pq_bs h
  refine pv_calliV C (ci := 11) rfl (by decide) k0_ [.int x1] (fun sz => r_X11_isPamphlet W0 k0_ e13 sz) (cwV 1 C.1.2.2.2.2 gX11_wordsOn_X11_isPamphlet rfl rfl rfl (by decide +kernel) ⟨Nat.le_of_ble_eq_true rfl, Nat.le_of_ble_eq_true rfl⟩) rfl rfl (Nat.le_of_ble_eq_true rfl) dX11_wordsOn_3 ⟨Nat.le_of_ble_eq_true rfl, Nat.le_of_ble_eq_true rfl⟩ ?_
  refine pv_if_eq (tgt := 36) C dX11_wordsOn_6 (by decide) (fun c14 => ?_) (fun c14 => ?_)
  · have h := pq_it c14 h
    refine pv_iconst (v := 1) C dX11_wordsOn_36 (by decide) ?_
    refine pv_sub [0, 1, 2] rfl ?_
    exact r_X11_wordsOn_b37 W0 C hr hlk _ _ _ _ _ _ k0_ k0_ h
  · have h := pq_if c14 h
    refine pv_iload_n C 2 dX11_wordsOn_9 rfl rfl ?_
    refine pv_if_lt (tgt := 36) C dX11_wordsOn_10 (by decide) (fun c15 => ?_) (fun c15 => ?_)
    · have h := pq_it c15 h
      refine pv_iconst (v := 1) C dX11_wordsOn_36 (by decide) ?_
      refine pv_sub [0, 1, 2] rfl ?_
      exact r_X11_wordsOn_b37 W0 C hr hlk _ _ _ _ _ _ k0_ k0_ h
    · have h := pq_if c15 h
      refine pv_iload_n C 2 dX11_wordsOn_13 rfl rfl ?_
      refine pv_bipush (v := 60) C dX11_wordsOn_14 (by decide) ?_
      refine pv_icmp_ge (tgt := 36) C dX11_wordsOn_16 (by decide) (fun c16 => ?_) (fun c16 => ?_)
      · have h := pq_it c16 h
        refine pv_iconst (v := 1) C dX11_wordsOn_36 (by decide) ?_
        refine pv_sub [0, 1, 2] rfl ?_
        exact r_X11_wordsOn_b37 W0 C hr hlk _ _ _ _ _ _ k0_ k0_ h
      · have h := pq_if c16 h
        refine pv_bipush (v := 8) C dX11_wordsOn_19 (by decide) ?_
        refine pv_iload_n C 2 dX11_wordsOn_21 rfl rfl ?_
        refine pv_imul C dX11_wordsOn_22 ?_
        refine pv_aload_n C 0 dX11_wordsOn_23 rfl rfl ?_
        refine pv_iload_n C 1 dX11_wordsOn_24 rfl rfl ?_
        refine pv_iconst (v := 4) C dX11_wordsOn_25 (by decide) ?_
        obtain ⟨v17, S18, e19, h⟩ := pq_bs h
        refine pv_calliV C (ci := 11) rfl (by decide) k0_ [.int x1, .int (4 : Int32)] (fun sz => r_X11_get W0 k0_ e19 sz) (cwV 2 C.1.2.2.2.2 gX11_wordsOn_X11_get rfl rfl rfl (by decide +kernel) ⟨Nat.le_of_ble_eq_true rfl, Nat.le_of_ble_eq_true rfl⟩) rfl rfl (Nat.le_of_ble_eq_true rfl) dX11_wordsOn_26 ⟨Nat.le_of_ble_eq_true rfl, Nat.le_of_ble_eq_true rfl⟩ ?_
        refine pv_icmp_ge (tgt := 36) C dX11_wordsOn_29 (by decide) (fun c20 => ?_) (fun c20 => ?_)
        · have h := pq_it c20 h
          refine pv_iconst (v := 1) C dX11_wordsOn_36 (by decide) ?_
          refine pv_sub [0, 1, 2] rfl ?_
          exact r_X11_wordsOn_b37 W0 C hr hlk _ _ _ _ _ _ k0_ k0_ h
        · have h := pq_if c20 h
          refine pv_iconst (v := 0) C dX11_wordsOn_32 (by decide) ?_
          refine pv_goto (tgt := 37) C dX11_wordsOn_33 (by decide) ?_
          refine pv_sub [0, 1, 2] rfl ?_
          exact r_X11_wordsOn_b37 W0 C hr hlk _ _ _ _ _ _ k0_ k0_ h
def F_X11_wrongs_b20 (G : pq_G)  (S : pq_N) (a0 : Nat) (x1 : Int32) (x2 : Int32) (t0 : Int32) (t1 : Nat) : Option (Int32 × pq_N) := (pq_bd (F_X11_holds G S t1 t0) fun v19 S20 => (if v19 = (0 : Int32) then some ((0 : Int32), S20) else (pq_bd (F_X11_blame G S20 a0 x1 x2) fun v23 S24 => some (v23, S24))))
def F_X11_wrongs (G : pq_G) (S : pq_N) (a0 : Nat) (x1 : Int32) (x2 : Int32) : Option (Int32 × pq_N) := (pq_bd (F_X11_isAuthor G S x1) fun v11 S12 => (if v11 = (0 : Int32) then F_X11_wrongs_b20 G S12 a0 x1 x2 (1 : Int32) a0 else (pq_bd (F_X11_isAuthor G S12 x2) fun v15 S16 => (if v15 = (0 : Int32) then F_X11_wrongs_b20 G S16 a0 x1 x2 (1 : Int32) a0 else F_X11_wrongs_b20 G S16 a0 x1 x2 (0 : Int32) a0))))
set_option maxHeartbeats 4000000 in
set_option maxRecDepth 100000 in
theorem r_X11_wrongs_b20 {p : Program} {l : Launch} {e : Env} {s : State} {m : MethodId} {av : Array Value} {below : List Frame} {meth : Method} {c : Code} {D : va_G} {y : pq_Y} {G : pq_G} {r : Int32} {S1 : pq_N} (W0 : pq_WT G) (C : pq_C p s m av c D y RX11 wsX11_wrongs cX11_wrongs 3) (hr : meth.sig.returnType = (some .int)) (hlk : meth.locks = false) : ∀ (S : pq_N) (a0 : Nat) (x1 : Int32) (x2 : Int32) (t0 : Int32) (t1 : Nat), pq_ok G 11 a0 → pq_ok G 11 t1 → F_X11_wrongs_b20 G S a0 x1 x2 t0 t1 = some (r, S1) → pq_V p l e (headSpec wsX11_wrongs ({ frames := 6, cells := 0, slots := 0, locals := 148 } : Room)).room s m av below meth c 0 0 (MQ below (pq_Qi D y G s.heap.size r S1) av s 0 0 (pq_A G s.heap.size)) D y 3 (pq_A G s.heap.size) (fun _ => True) G S 20 [(0, .ref a0), (1, .int x1), (2, .int x2)] [.int t0, .ref t1] := by
  intro S a0 x1 x2 t0 t1 k0_ kt1_ h
  unfold F_X11_wrongs_b20 at h
  obtain ⟨v19, S20, e21, h⟩ := pq_bs h
  refine pv_calliV C (ci := 11) rfl (by decide) kt1_ [.int t0] (fun sz => r_X11_holds W0 kt1_ e21 sz) (cwV 1 C.1.2.2.2.2 gX11_wrongs_X11_holds rfl rfl rfl (by decide +kernel) ⟨Nat.le_of_ble_eq_true rfl, Nat.le_of_ble_eq_true rfl⟩) rfl rfl (Nat.le_of_ble_eq_true rfl) dX11_wrongs_20 ⟨Nat.le_of_ble_eq_true rfl, Nat.le_of_ble_eq_true rfl⟩ ?_
  refine pv_if_eq (tgt := 35) C dX11_wrongs_23 (by decide) (fun c22 => ?_) (fun c22 => ?_)
  · have h := pq_it c22 h
    refine pv_iconst (v := 0) C dX11_wrongs_35 (by decide) ?_
    exact pv_iret C hr hlk h dX11_wrongs_36
  · have h := pq_if c22 h
    refine pv_aload_n C 0 dX11_wrongs_26 rfl rfl ?_
    refine pv_iload_n C 1 dX11_wrongs_27 rfl rfl ?_
    refine pv_iload_n C 2 dX11_wrongs_28 rfl rfl ?_
    obtain ⟨v23, S24, e25, h⟩ := pq_bs h
    refine pv_calliV C (ci := 11) rfl (by decide) k0_ [.int x1, .int x2] (fun sz => r_X11_blame W0 k0_ e25 sz) (cwV 2 C.1.2.2.2.2 gX11_wrongs_X11_blame rfl rfl rfl (by decide +kernel) ⟨Nat.le_of_ble_eq_true rfl, Nat.le_of_ble_eq_true rfl⟩) rfl rfl (Nat.le_of_ble_eq_true rfl) dX11_wrongs_29 ⟨Nat.le_of_ble_eq_true rfl, Nat.le_of_ble_eq_true rfl⟩ ?_
    refine pv_goto (tgt := 36) C dX11_wrongs_32 (by decide) ?_
    exact pv_iret C hr hlk h dX11_wrongs_36
set_option maxHeartbeats 4000000 in
set_option maxRecDepth 100000 in
theorem r_X11_wrongs {l : Launch} {D : va_G} {y : pq_Y} {G : pq_G} (W0 : pq_WT G) {S : pq_N} {a0 : Nat} {x1 : Int32} {x2 : Int32} (k0_ : pq_ok G 11 a0) {r : Int32} {S1 : pq_N} (h : F_X11_wrongs G S a0 x1 x2 = some (r, S1)) (sz : Nat) : Met l yX11_wrongs wsX11_wrongs ({ frames := 6, cells := 0, slots := 0, locals := 148 } : Room) (pq_P D y G S sz [.ref a0, .int x1, .int x2]) (pq_Qi D y G sz r S1) 0 0 (pq_A G sz) := by
  refine pq_enter RX11 3 (by decide) rfl rfl rfl ?_
  intro p e s m below meth c C hsz hr hlk
  subst hsz
  unfold F_X11_wrongs at h
  refine pv_sub (lo1 := [(0, .ref a0), (1, .int x1), (2, .int x2)]) [0, 1, 2] rfl ?_
  refine pv_aload_n C 0 dX11_wrongs_0 rfl rfl ?_
  refine pv_iload_n C 1 dX11_wrongs_1 rfl rfl ?_
  obtain ⟨v11, S12, e13, h⟩ := pq_bs h
  refine pv_calliS C [.int x1] (fun sz => r_X11_isAuthor W0  e13 sz) (va_cwS 1 C.1.2.2.2.2 gX11_wrongs_X11_isAuthor rfl rfl rfl (by decide +kernel) ⟨Nat.le_of_ble_eq_true rfl, Nat.le_of_ble_eq_true rfl⟩) rfl rfl (Nat.le_of_ble_eq_true rfl) dX11_wrongs_2 ⟨Nat.le_of_ble_eq_true rfl, Nat.le_of_ble_eq_true rfl⟩ ?_
  refine pv_if_eq (tgt := 19) C dX11_wrongs_5 (by decide) (fun c14 => ?_) (fun c14 => ?_)
  · have h := pq_it c14 h
    refine pv_iconst (v := 1) C dX11_wrongs_19 (by decide) ?_
    refine pv_sub [0, 1, 2] rfl ?_
    exact r_X11_wrongs_b20 W0 C hr hlk _ _ _ _ _ _ k0_ k0_ h
  · have h := pq_if c14 h
    refine pv_iload_n C 2 dX11_wrongs_8 rfl rfl ?_
    obtain ⟨v15, S16, e17, h⟩ := pq_bs h
    refine pv_calliS C [.int x2] (fun sz => r_X11_isAuthor W0  e17 sz) (va_cwS 1 C.1.2.2.2.2 gX11_wrongs_X11_isAuthor rfl rfl rfl (by decide +kernel) ⟨Nat.le_of_ble_eq_true rfl, Nat.le_of_ble_eq_true rfl⟩) rfl rfl (Nat.le_of_ble_eq_true rfl) dX11_wrongs_9 ⟨Nat.le_of_ble_eq_true rfl, Nat.le_of_ble_eq_true rfl⟩ ?_
    refine pv_if_eq (tgt := 19) C dX11_wrongs_12 (by decide) (fun c18 => ?_) (fun c18 => ?_)
    · have h := pq_it c18 h
      refine pv_iconst (v := 1) C dX11_wrongs_19 (by decide) ?_
      refine pv_sub [0, 1, 2] rfl ?_
      exact r_X11_wrongs_b20 W0 C hr hlk _ _ _ _ _ _ k0_ k0_ h
    · have h := pq_if c18 h
      refine pv_iconst (v := 0) C dX11_wrongs_15 (by decide) ?_
      refine pv_goto (tgt := 20) C dX11_wrongs_16 (by decide) ?_
      refine pv_sub [0, 1, 2] rfl ?_
      exact r_X11_wrongs_b20 W0 C hr hlk _ _ _ _ _ _ k0_ k0_ h
