section PL
variable {p : Program} {l : Launch} {e : Env} {R : Room} {s : State} {m : MethodId} {args : Array Value} {below : List Frame} {meth : Method} {c : Code} {cells slots : Nat} {Q : State → Prop} {D : va_G} {y : pq_Y} {own : String} {Ts : List Cond} {cc : ByteArray} {nL : Nat} {A : Nat → Prop} {z : Heap → Prop} {G : pq_G} {S : pq_N} {pc : Nat} {lo : List (Nat × Value)} {rest : List Value}
theorem pv_ladd (C : pq_C p s m args c D y own Ts cc nL) {x w : Int64} (hdg : decode cc pc = .ok (.ladd, 1)) (k : pq_V p l e R s m args below meth c cells slots Q D y nL A z G S (pc + 1) lo (.long (x + w) :: rest)) : pq_V p l e R s m args below meth c cells slots Q D y nL A z G S pc lo (.long w :: .long x :: rest) := fun H locs ls hz hP hD hS hl => lv_ladd C.1.1 C.1.2.1 hdg (k H locs ls hz hP hD hS hl)
theorem pv_lmul (C : pq_C p s m args c D y own Ts cc nL) {x w : Int64} (hdg : decode cc pc = .ok (.lmul, 1)) (k : pq_V p l e R s m args below meth c cells slots Q D y nL A z G S (pc + 1) lo (.long (x * w) :: rest)) : pq_V p l e R s m args below meth c cells slots Q D y nL A z G S pc lo (.long w :: .long x :: rest) := fun H locs ls hz hP hD hS hl => lv_lmul C.1.1 C.1.2.1 hdg (k H locs ls hz hP hD hS hl)
theorem pv_ixor (C : pq_C p s m args c D y own Ts cc nL) {x w : Int32} (hdg : decode cc pc = .ok (.ixor, 1)) (k : pq_V p l e R s m args below meth c cells slots Q D y nL A z G S (pc + 1) lo (.int (x ^^^ w) :: rest)) : pq_V p l e R s m args below meth c cells slots Q D y nL A z G S pc lo (.int w :: .int x :: rest) := fun H locs ls hz hP hD hS hl => lv_ixor C.1.1 C.1.2.1 hdg (k H locs ls hz hP hD hS hl)
theorem pq_enterP {yy : MethodName} {ws ws' : List Cond} {rm : Room} {ret : Option FieldType} {mc ms sz : Nat} {Qc : Array Value → State → Outcome → State → Prop} {free : Addr → Prop} {av : List Value} (own : String) (nL : Nat) (hy : plainName yy.cls = true) (hw : ws = Cond.code yy cc nL ret :: ws') (ho : yy.cls = own) (hlen : Nat.ble (lg_sl av).length nL = true)
    (body : ∀ (p : Program) (e : Env) (s : State) (m : MethodId) (below : List Frame) (meth : Method) (c : Code), pq_C p s m av.toArray c D y own ws cc nL → s.heap.size = sz → meth.sig.returnType = ret → meth.locks = false → pq_X (pq_A G sz) s s.heap → pq_V p l e (headSpec ws rm).room s m av.toArray below meth c 0 0 (MQ below Qc av.toArray s mc ms free) D y nL (pq_A G s.heap.size) (fun _ => True) G S 0 (lv_args 0 av) []) : Met l yy ws rm (pq_PX D y G S sz av) Qc mc ms free := by
  refine Met.ofW (cc := cc) (maxL := nL) (ret := ret) hy hw ?_
  intro p e s m args below meth c s₁ B hml hv
  obtain ⟨rfl, hsz, ⟨hP, hK, hD0, hT⟩, hX⟩ := hv
  have hts := atoms_spec (ws := ws) B.pre
  have hown : s.vm.findClass own = some m.cls := by rw [← ho]; exact findClass_of_methodNamed B.named
  have hl := lv_entry av (n := nL) (Nat.le_of_ble_eq_true hlen)
  rw [lg_entry_eq]
  refine body p e s m below meth c ⟨⟨B.exec, B.bytes, hml, hown, hts⟩, hK, hT⟩ hsz B.returns B.notSynchronized hX s.heap [] _ trivial hP ⟨hD0.1, fun k q hk => Or.inl ?_⟩ va_S.rf hl
  obtain ⟨a, ha, e1⟩ := List.mem_map.mp (List.mem_of_getElem? hk)
  rw [← e1]; exact ha
theorem pv_pcalli (C : pq_C p s m args c D y own Ts cc nL) {kc ks : Nat} {yy : MethodName} {bytes : ByteArray} {maxL n index : Nat} {ret : Option FieldType} {ws : List Cond} {rm : Room} (hX : pq_X (pq_A G s.heap.size) s s.heap) (As : List Value) {r : Int32} {S1 : pq_N} (hM : ∀ sz, Met l yy ws rm (pq_PX D y G S sz As) (pq_Qi D y G sz r S1) kc ks (pq_A G sz)) (cw : CallB R s args own index yy bytes maxL ret ws rm kc ks n ∧ (Cond.static yy).before args s = true) (hn : As.length = n) {st0 : List Value} (hst : st0 = As.reverse ++ rest) (hW : (rest.map fun v => v.category).sum ≤ 8) (hdg : decode cc pc = .ok (.invokestatic index, 3)) (hf : cells + kc ≤ R.cells ∧ slots + ks ≤ R.slots) (kk : pq_V p l e R s m args below meth c (cells + kc) (slots + ks) Q D y nL (pq_A G s.heap.size) (fun _ => True) G S1 (pc + 3) lo (.int r :: rest)) : pq_V p l e R s m args below meth c cells slots Q D y nL (pq_A G s.heap.size) z G S pc lo st0 := by
  intro H locs ls hz hP hD hS hl
  refine va_calli (va_runS (As := As) (rest := rest) C.1 (hM H.size) cw ⟨pq_blindX, fun U hU hW => pq_preX C hX hP hD hS U hU hW⟩ rfl hn hl.1 hst (lv_room hW) hdg hf) hS (fun q hq h => h.elim Or.inl (fun h => absurd hq (Nat.not_lt.mpr h))) (fun q h => h.elim Or.inl (fun h => Or.inr (Nat.le_trans hS.1 h))) (fun r1 u t H1 locs1 ht hvm hw hB hz1 hk1 hS1 => ?_)
  obtain ⟨rfl, rfl⟩ := hw
  obtain ⟨hP1, hD1⟩ := pq_back C hD ht hB
  exact kk H1 locs1 ls trivial hP1 hD1 hS1 hl
end PL
/-- what a method answers where it returns -/
def pq_dr {α β : Type} (x : Option ((Nat ⊕ α) × β)) : Option (α × β) := match x with
  | some (Sum.inr a, b) => some (a, b)
  | _ => none
theorem dr_n {α β : Type} : pq_dr (none : Option ((Nat ⊕ α) × β)) = none := rfl
theorem dr_l {α β : Type} {k : Nat} {b : β} : pq_dr (some ((Sum.inl k : Nat ⊕ α), b)) = none := rfl
theorem dr_r {α β : Type} {a : α} {b : β} : pq_dr (some ((Sum.inr a : Nat ⊕ α), b)) = some (a, b) := rfl
theorem dr_if {α β : Type} {c : Prop} [Decidable c] {x z : Option ((Nat ⊕ α) × β)} : pq_dr (if c then x else z) = if c then pq_dr x else pq_dr z := by split <;> rfl
theorem dr_bd {α β γ δ : Type} {x : Option (γ × δ)} {f : γ → δ → Option ((Nat ⊕ α) × β)} : pq_dr (pq_bd x f) = pq_bd x (fun a b => pq_dr (f a b)) := by cases x <;> rfl
theorem dr_lt {α β γ : Type} {x : γ} {f : γ → Option ((Nat ⊕ α) × β)} : pq_dr (pq_lt x f) = pq_lt x (fun a => pq_dr (f a)) := rfl
theorem dr_bx {α β γ : Type} {x : Option ((Nat ⊕ α) × β)} {f : α → β → Option ((Nat ⊕ γ) × β)} : pq_dr (pq_bx x f) = pq_bd (pq_dr x) (fun a b => pq_dr (f a b)) := by
  cases x with
  | none => rfl
  | some q =>
    obtain ⟨v, b⟩ := q
    cases v <;> rfl

def E_X10_needPamphlet (G : pq_G) (S : pq_N) (a0 : Nat) (x1 : Int32) : Option (Unit × pq_N) := (pq_bd (F_X9_has G S (pq_r G a0 0) x1) fun v12 S13 => (if v12 = (0 : Int32) then none else some ((), S13)))
theorem d_X10_needPamphlet (G : pq_G) (S : pq_N) (a0 : Nat) (x1 : Int32) : E_X10_needPamphlet G S a0 x1 = pq_dr (F_X10_needPamphlet G S a0 x1) := by
  simp only [F_X10_needPamphlet, E_X10_needPamphlet, dr_n, dr_l, dr_r, dr_if, dr_bd, dr_lt, dr_bx]
theorem inu_EX10_needPamphlet_10 : ∀ w ∈ u_ws RX10 TX10 7, w ∈ wsX10_needPamphlet := pq_inu 10 rfl
set_option maxHeartbeats 4000000 in
set_option maxRecDepth 100000 in
theorem e_X10_needPamphlet {l : Launch} {D : va_G} {y : pq_Y} {G : pq_G} (W0 : pq_WT G) {S : pq_N} {a0 : Nat} {x1 : Int32} (k0_ : pq_ok G 10 a0) {S1 : pq_N} (h : E_X10_needPamphlet G S a0 x1 = some ((), S1)) (sz : Nat) : Met l yX10_needPamphlet wsX10_needPamphlet ({ frames := 1, cells := 0, slots := 0, locals := 21 } : Room) (pq_P D y G S sz [.ref a0, .int x1]) (pq_Qv D y G sz S1) 0 0 (pq_A G sz) := by
  refine pq_enter RX10 2 (by decide) rfl rfl rfl ?_
  intro p e s m below meth c C hsz hr hlk
  subst hsz
  unfold E_X10_needPamphlet at h
  refine pv_sub (lo1 := [(0, .ref a0), (1, .int x1)]) [0, 1] rfl ?_
  refine pv_aload_n C 0 dX10_needPamphlet_0 rfl rfl ?_
  have k11 := pq_wt (k := 0) W0 k0_ rfl
  refine pv_getr (T := TX10) (N := 7) C 0 inu_EX10_needPamphlet_10 rfl (by decide) (by decide) (List.mem_of_getElem? (i := 3) rfl) rfl k0_ k11.1 dX10_needPamphlet_1 ?_
  refine pv_iload_n C 1 dX10_needPamphlet_4 rfl rfl ?_
  obtain ⟨v12, S13, e14, h⟩ := pq_bs h
  refine pv_calliV C (ci := 9) rfl (by decide) k11.2 [.int x1] (fun sz => r_X9_has W0 k11.2 e14 sz) (cwV 1 C.1.2.2.2.2 gX10_needPamphlet_X9_has rfl rfl rfl (by decide +kernel) ⟨Nat.le_of_ble_eq_true rfl, Nat.le_of_ble_eq_true rfl⟩) rfl rfl (Nat.le_of_ble_eq_true rfl) dX10_needPamphlet_5 ⟨Nat.le_of_ble_eq_true rfl, Nat.le_of_ble_eq_true rfl⟩ ?_
  refine pv_if_ne (tgt := 22) C dX10_needPamphlet_8 (by decide) (fun c15 => ?_) (fun c15 => ?_)
  · have h := pq_if c15 h
    exact pv_vret C hr hlk h dX10_needPamphlet_22
  · have h := pq_it c15 h
    cases h
def E_X10_answers (G : pq_G) (S : pq_N) (a0 : Nat) (x1 : Int32) (x2 : Int32) : Option (Int32 × pq_N) := (pq_bd (E_X10_needPamphlet G S a0 x1) fun _ S12 => (pq_bd (E_X10_needPamphlet G S12 a0 x2) fun _ S15 => (pq_bd (F_X9_at G S15 (pq_r G a0 0) x1) fun v18 S19 => (pq_bd (F_X4_quotes G S19 v18 x2) fun v22 S23 => (if ¬ (v22 = 0 ∨ v22 = 1) then none else some (v22, S23))))))
theorem d_X10_answers (G : pq_G) (S : pq_N) (a0 : Nat) (x1 : Int32) (x2 : Int32) : E_X10_answers G S a0 x1 x2 = pq_dr (F_X10_answers G S a0 x1 x2) := by
  simp only [F_X10_answers, E_X10_answers, dr_n, dr_l, dr_r, dr_if, dr_bd, dr_lt, dr_bx, d_X10_needPamphlet]
theorem inu_EX10_answers_10 : ∀ w ∈ u_ws RX10 TX10 7, w ∈ wsX10_answers := pq_inu 34 rfl
set_option maxHeartbeats 4000000 in
set_option maxRecDepth 100000 in
theorem e_X10_answers {l : Launch} {D : va_G} {y : pq_Y} {G : pq_G} (W0 : pq_WT G) {S : pq_N} {a0 : Nat} {x1 : Int32} {x2 : Int32} (k0_ : pq_ok G 10 a0) {r : Int32} {S1 : pq_N} (h : E_X10_answers G S a0 x1 x2 = some (r, S1)) (sz : Nat) : Met l yX10_answers wsX10_answers ({ frames := 2, cells := 0, slots := 0, locals := 43 } : Room) (pq_P D y G S sz [.ref a0, .int x1, .int x2]) (pq_Qi D y G sz r S1) 0 0 (pq_A G sz) := by
  refine pq_enter RX10 3 (by decide) rfl rfl rfl ?_
  intro p e s m below meth c C hsz hr hlk
  subst hsz
  unfold E_X10_answers at h
  refine pv_sub (lo1 := [(0, .ref a0), (1, .int x1), (2, .int x2)]) [0, 1, 2] rfl ?_
  refine pv_aload_n C 0 dX10_answers_0 rfl rfl ?_
  refine pv_iload_n C 1 dX10_answers_1 rfl rfl ?_
  obtain ⟨⟨⟩, S12, e13, h⟩ := pq_bs h
  refine pv_callvV C (ci := 10) rfl (by decide) k0_ [.int x1] (fun sz => e_X10_needPamphlet W0 k0_ e13 sz) (cwV 1 C.1.2.2.2.2 gX10_answers_X10_needPamphlet rfl rfl rfl (by decide +kernel) ⟨Nat.le_of_ble_eq_true rfl, Nat.le_of_ble_eq_true rfl⟩) rfl rfl (Nat.le_of_ble_eq_true rfl) dX10_answers_2 ⟨Nat.le_of_ble_eq_true rfl, Nat.le_of_ble_eq_true rfl⟩ ?_
  refine pv_aload_n C 0 dX10_answers_5 rfl rfl ?_
  refine pv_iload_n C 2 dX10_answers_6 rfl rfl ?_
  obtain ⟨⟨⟩, S15, e16, h⟩ := pq_bs h
  refine pv_callvV C (ci := 10) rfl (by decide) k0_ [.int x2] (fun sz => e_X10_needPamphlet W0 k0_ e16 sz) (cwV 1 C.1.2.2.2.2 gX10_answers_X10_needPamphlet rfl rfl rfl (by decide +kernel) ⟨Nat.le_of_ble_eq_true rfl, Nat.le_of_ble_eq_true rfl⟩) rfl rfl (Nat.le_of_ble_eq_true rfl) dX10_answers_7 ⟨Nat.le_of_ble_eq_true rfl, Nat.le_of_ble_eq_true rfl⟩ ?_
  refine pv_aload_n C 0 dX10_answers_10 rfl rfl ?_
  have k17 := pq_wt (k := 0) W0 k0_ rfl
  refine pv_getr (T := TX10) (N := 7) C 0 inu_EX10_answers_10 rfl (by decide) (by decide) (List.mem_of_getElem? (i := 1) rfl) rfl k0_ k17.1 dX10_answers_11 ?_
  refine pv_iload_n C 1 dX10_answers_14 rfl rfl ?_
  obtain ⟨v18, S19, e20, h⟩ := pq_bs h
  have k21 := o_X9_at W0 k17.2 e20
  refine pv_callrV C (ci := 9) rfl (by decide) k17.2 [.int x1] (fun sz => r_X9_at W0 k17.2 e20 sz) (cwV 1 C.1.2.2.2.2 gX10_answers_X9_at rfl rfl rfl (by decide +kernel) ⟨Nat.le_of_ble_eq_true rfl, Nat.le_of_ble_eq_true rfl⟩) rfl rfl (Nat.le_of_ble_eq_true rfl) dX10_answers_15 ⟨Nat.le_of_ble_eq_true rfl, Nat.le_of_ble_eq_true rfl⟩ ?_
  refine pv_iload_n C 2 dX10_answers_18 rfl rfl ?_
  obtain ⟨v22, S23, e24, h⟩ := pq_bs h
  refine pv_calliV C (ci := 4) rfl (by decide) k21 [.int x2] (fun sz => r_X4_quotes W0 k21 e24 sz) (cwV 1 C.1.2.2.2.2 gX10_answers_X4_quotes rfl rfl rfl (by decide +kernel) ⟨Nat.le_of_ble_eq_true rfl, Nat.le_of_ble_eq_true rfl⟩) rfl rfl (Nat.le_of_ble_eq_true rfl) dX10_answers_19 ⟨Nat.le_of_ble_eq_true rfl, Nat.le_of_ble_eq_true rfl⟩ ?_
  obtain ⟨g25, h⟩ := pq_gd h
  exact pv_zret C hr (pq_nz (Decidable.not_not.mp g25)) hlk h dX10_answers_22
def E_X10_append (G : pq_G) (S : pq_N) (a0 : Nat) (x1 : Int32) : Option (Int32 × pq_N) := (if x1 < (32 : Int32) then none else (if x1 ≤ (126 : Int32) then (if (S.1 (pq_r G a0 2) 1) < (100 : Int32) then (pq_bd (F_X0_add G S (pq_r G a0 2) x1) fun _ S17 => some ((S17.1 (pq_r G a0 2) 1), S17)) else none) else none))
theorem d_X10_append (G : pq_G) (S : pq_N) (a0 : Nat) (x1 : Int32) : E_X10_append G S a0 x1 = pq_dr (F_X10_append G S a0 x1) := by
  simp only [F_X10_append, E_X10_append, dr_n, dr_l, dr_r, dr_if, dr_bd, dr_lt, dr_bx]
theorem inu_EX10_append_0 : ∀ w ∈ u_ws RX0 TX0 2, w ∈ wsX10_append := pq_inu 26 rfl
theorem inu_EX10_append_10 : ∀ w ∈ u_ws RX10 TX10 7, w ∈ wsX10_append := pq_inu 19 rfl
set_option maxHeartbeats 4000000 in
set_option maxRecDepth 100000 in
theorem e_X10_append {l : Launch} {D : va_G} {y : pq_Y} {G : pq_G} (W0 : pq_WT G) {S : pq_N} {a0 : Nat} {x1 : Int32} (k0_ : pq_ok G 10 a0) {r : Int32} {S1 : pq_N} (h : E_X10_append G S a0 x1 = some (r, S1)) (sz : Nat) : Met l yX10_append wsX10_append ({ frames := 2, cells := 0, slots := 0, locals := 44 } : Room) (pq_P D y G S sz [.ref a0, .int x1]) (pq_Qi D y G sz r S1) 0 0 (pq_A G sz) := by
  refine pq_enter RX10 2 (by decide) rfl rfl rfl ?_
  intro p e s m below meth c C hsz hr hlk
  subst hsz
  unfold E_X10_append at h
  refine pv_sub (lo1 := [(0, .ref a0), (1, .int x1)]) [0, 1] rfl ?_
  refine pv_iload_n C 1 dX10_append_0 rfl rfl ?_
  refine pv_bipush (v := 32) C dX10_append_1 (by decide) ?_
  refine pv_icmp_lt (tgt := 12) C dX10_append_3 (by decide) (fun c11 => ?_) (fun c11 => ?_)
  · have h := pq_it c11 h
    cases h
  · have h := pq_if c11 h
    refine pv_iload_n C 1 dX10_append_6 rfl rfl ?_
    refine pv_bipush (v := 126) C dX10_append_7 (by decide) ?_
    refine pv_icmp_le (tgt := 23) C dX10_append_9 (by decide) (fun c12 => ?_) (fun c12 => ?_)
    · have h := pq_it c12 h
      refine pv_aload_n C 0 dX10_append_23 rfl rfl ?_
      have k13 := pq_wt (k := 2) W0 k0_ rfl
      refine pv_getr (T := TX10) (N := 7) C 2 inu_EX10_append_10 rfl (by decide) (by decide) (List.mem_of_getElem? (i := 5) rfl) rfl k0_ k13.1 dX10_append_24 ?_
      refine pv_getiN (T := TX0) (N := 2) C 1 inu_EX10_append_0 rfl (by decide) (by decide) (List.mem_of_getElem? (i := 37) rfl) rfl k13.2 dX10_append_27 ?_
      refine pv_bipush (v := 100) C dX10_append_30 (by decide) ?_
      refine pv_icmp_lt (tgt := 46) C dX10_append_32 (by decide) (fun c14 => ?_) (fun c14 => ?_)
      · have h := pq_it c14 h
        refine pv_aload_n C 0 dX10_append_46 rfl rfl ?_
        have k15 := pq_wt (k := 2) W0 k0_ rfl
        refine pv_getr (T := TX10) (N := 7) C 2 inu_EX10_append_10 rfl (by decide) (by decide) (List.mem_of_getElem? (i := 5) rfl) rfl k0_ k15.1 dX10_append_47 ?_
        refine pv_iload_n C 1 dX10_append_50 rfl rfl ?_
        obtain ⟨⟨⟩, S17, e18, h⟩ := pq_bs h
        refine pv_callvV C (ci := 0) rfl (by decide) k15.2 [.int x1] (fun sz => r_X0_add W0 k15.2 e18 sz) (cwV 1 C.1.2.2.2.2 gX10_append_X0_add rfl rfl rfl (by decide +kernel) ⟨Nat.le_of_ble_eq_true rfl, Nat.le_of_ble_eq_true rfl⟩) rfl rfl (Nat.le_of_ble_eq_true rfl) dX10_append_51 ⟨Nat.le_of_ble_eq_true rfl, Nat.le_of_ble_eq_true rfl⟩ ?_
        refine pv_aload_n C 0 dX10_append_54 rfl rfl ?_
        have k19 := pq_wt (k := 2) W0 k0_ rfl
        refine pv_getr (T := TX10) (N := 7) C 2 inu_EX10_append_10 rfl (by decide) (by decide) (List.mem_of_getElem? (i := 5) rfl) rfl k0_ k19.1 dX10_append_55 ?_
        refine pv_getiN (T := TX0) (N := 2) C 1 inu_EX10_append_0 rfl (by decide) (by decide) (List.mem_of_getElem? (i := 37) rfl) rfl k19.2 dX10_append_58 ?_
        exact pv_iret C hr hlk h dX10_append_61
      · have h := pq_if c14 h
        cases h
    · have h := pq_if c12 h
      cases h
def E_X10_authorOf (G : pq_G) (S : pq_N) (a0 : Nat) (x1 : Int32) : Option (Int32 × pq_N) := (pq_bd (E_X10_needPamphlet G S a0 x1) fun _ S12 => (pq_bd (F_X9_at G S12 (pq_r G a0 0) x1) fun v15 S16 => some ((S16.1 v15 4), S16)))
theorem d_X10_authorOf (G : pq_G) (S : pq_N) (a0 : Nat) (x1 : Int32) : E_X10_authorOf G S a0 x1 = pq_dr (F_X10_authorOf G S a0 x1) := by
  simp only [F_X10_authorOf, E_X10_authorOf, dr_n, dr_l, dr_r, dr_if, dr_bd, dr_lt, dr_bx, d_X10_needPamphlet]
theorem inu_EX10_authorOf_4 : ∀ w ∈ u_ws RX4 TX4 8, w ∈ wsX10_authorOf := pq_inu 28 rfl
theorem inu_EX10_authorOf_10 : ∀ w ∈ u_ws RX10 TX10 7, w ∈ wsX10_authorOf := pq_inu 21 rfl
set_option maxHeartbeats 4000000 in
set_option maxRecDepth 100000 in
theorem e_X10_authorOf {l : Launch} {D : va_G} {y : pq_Y} {G : pq_G} (W0 : pq_WT G) {S : pq_N} {a0 : Nat} {x1 : Int32} (k0_ : pq_ok G 10 a0) {r : Int32} {S1 : pq_N} (h : E_X10_authorOf G S a0 x1 = some (r, S1)) (sz : Nat) : Met l yX10_authorOf wsX10_authorOf ({ frames := 2, cells := 0, slots := 0, locals := 42 } : Room) (pq_P D y G S sz [.ref a0, .int x1]) (pq_Qi D y G sz r S1) 0 0 (pq_A G sz) := by
  refine pq_enter RX10 2 (by decide) rfl rfl rfl ?_
  intro p e s m below meth c C hsz hr hlk
  subst hsz
  unfold E_X10_authorOf at h
  refine pv_sub (lo1 := [(0, .ref a0), (1, .int x1)]) [0, 1] rfl ?_
  refine pv_aload_n C 0 dX10_authorOf_0 rfl rfl ?_
  refine pv_iload_n C 1 dX10_authorOf_1 rfl rfl ?_
  obtain ⟨⟨⟩, S12, e13, h⟩ := pq_bs h
  refine pv_callvV C (ci := 10) rfl (by decide) k0_ [.int x1] (fun sz => e_X10_needPamphlet W0 k0_ e13 sz) (cwV 1 C.1.2.2.2.2 gX10_authorOf_X10_needPamphlet rfl rfl rfl (by decide +kernel) ⟨Nat.le_of_ble_eq_true rfl, Nat.le_of_ble_eq_true rfl⟩) rfl rfl (Nat.le_of_ble_eq_true rfl) dX10_authorOf_2 ⟨Nat.le_of_ble_eq_true rfl, Nat.le_of_ble_eq_true rfl⟩ ?_
  refine pv_aload_n C 0 dX10_authorOf_5 rfl rfl ?_
  have k14 := pq_wt (k := 0) W0 k0_ rfl
  refine pv_getr (T := TX10) (N := 7) C 0 inu_EX10_authorOf_10 rfl (by decide) (by decide) (List.mem_of_getElem? (i := 1) rfl) rfl k0_ k14.1 dX10_authorOf_6 ?_
  refine pv_iload_n C 1 dX10_authorOf_9 rfl rfl ?_
  obtain ⟨v15, S16, e17, h⟩ := pq_bs h
  have k18 := o_X9_at W0 k14.2 e17
  refine pv_callrV C (ci := 9) rfl (by decide) k14.2 [.int x1] (fun sz => r_X9_at W0 k14.2 e17 sz) (cwV 1 C.1.2.2.2.2 gX10_authorOf_X9_at rfl rfl rfl (by decide +kernel) ⟨Nat.le_of_ble_eq_true rfl, Nat.le_of_ble_eq_true rfl⟩) rfl rfl (Nat.le_of_ble_eq_true rfl) dX10_authorOf_10 ⟨Nat.le_of_ble_eq_true rfl, Nat.le_of_ble_eq_true rfl⟩ ?_
  refine pv_getiN (T := TX4) (N := 8) C 4 inu_EX10_authorOf_4 rfl (by decide) (by decide) (List.mem_of_getElem? (i := 14) rfl) rfl k18 dX10_authorOf_13 ?_
  exact pv_iret C hr hlk h dX10_authorOf_16
def E_X10_needQuotation (G : pq_G) (S : pq_N) (a0 : Nat) (x1 : Int32) (x2 : Int32) : Option (Unit × pq_N) := (pq_bd (E_X10_needPamphlet G S a0 x1) fun _ S12 => (if x2 < (0 : Int32) then none else (pq_bd (F_X9_at G S12 (pq_r G a0 0) x1) fun v16 S17 => (if x2 < (S17.1 v16 7) then some ((), S17) else none))))
theorem d_X10_needQuotation (G : pq_G) (S : pq_N) (a0 : Nat) (x1 : Int32) (x2 : Int32) : E_X10_needQuotation G S a0 x1 x2 = pq_dr (F_X10_needQuotation G S a0 x1 x2) := by
  simp only [F_X10_needQuotation, E_X10_needQuotation, dr_n, dr_l, dr_r, dr_if, dr_bd, dr_lt, dr_bx, d_X10_needPamphlet]
theorem inu_EX10_needQuotation_4 : ∀ w ∈ u_ws RX4 TX4 8, w ∈ wsX10_needQuotation := pq_inu 28 rfl
theorem inu_EX10_needQuotation_10 : ∀ w ∈ u_ws RX10 TX10 7, w ∈ wsX10_needQuotation := pq_inu 21 rfl
set_option maxHeartbeats 4000000 in
set_option maxRecDepth 100000 in
theorem e_X10_needQuotation {l : Launch} {D : va_G} {y : pq_Y} {G : pq_G} (W0 : pq_WT G) {S : pq_N} {a0 : Nat} {x1 : Int32} {x2 : Int32} (k0_ : pq_ok G 10 a0) {S1 : pq_N} (h : E_X10_needQuotation G S a0 x1 x2 = some ((), S1)) (sz : Nat) : Met l yX10_needQuotation wsX10_needQuotation ({ frames := 2, cells := 0, slots := 0, locals := 42 } : Room) (pq_P D y G S sz [.ref a0, .int x1, .int x2]) (pq_Qv D y G sz S1) 0 0 (pq_A G sz) := by
  refine pq_enter RX10 3 (by decide) rfl rfl rfl ?_
  intro p e s m below meth c C hsz hr hlk
  subst hsz
  unfold E_X10_needQuotation at h
  refine pv_sub (lo1 := [(0, .ref a0), (1, .int x1), (2, .int x2)]) [0, 1, 2] rfl ?_
  refine pv_aload_n C 0 dX10_needQuotation_0 rfl rfl ?_
  refine pv_iload_n C 1 dX10_needQuotation_1 rfl rfl ?_
  obtain ⟨⟨⟩, S12, e13, h⟩ := pq_bs h
  refine pv_callvV C (ci := 10) rfl (by decide) k0_ [.int x1] (fun sz => e_X10_needPamphlet W0 k0_ e13 sz) (cwV 1 C.1.2.2.2.2 gX10_needQuotation_X10_needPamphlet rfl rfl rfl (by decide +kernel) ⟨Nat.le_of_ble_eq_true rfl, Nat.le_of_ble_eq_true rfl⟩) rfl rfl (Nat.le_of_ble_eq_true rfl) dX10_needQuotation_2 ⟨Nat.le_of_ble_eq_true rfl, Nat.le_of_ble_eq_true rfl⟩ ?_
  refine pv_iload_n C 2 dX10_needQuotation_5 rfl rfl ?_
  refine pv_if_lt (tgt := 24) C dX10_needQuotation_6 (by decide) (fun c14 => ?_) (fun c14 => ?_)
  · have h := pq_it c14 h
    cases h
  · have h := pq_if c14 h
    refine pv_iload_n C 2 dX10_needQuotation_9 rfl rfl ?_
    refine pv_aload_n C 0 dX10_needQuotation_10 rfl rfl ?_
    have k15 := pq_wt (k := 0) W0 k0_ rfl
    refine pv_getr (T := TX10) (N := 7) C 0 inu_EX10_needQuotation_10 rfl (by decide) (by decide) (List.mem_of_getElem? (i := 3) rfl) rfl k0_ k15.1 dX10_needQuotation_11 ?_
    refine pv_iload_n C 1 dX10_needQuotation_14 rfl rfl ?_
    obtain ⟨v16, S17, e18, h⟩ := pq_bs h
    have k19 := o_X9_at W0 k15.2 e18
    refine pv_callrV C (ci := 9) rfl (by decide) k15.2 [.int x1] (fun sz => r_X9_at W0 k15.2 e18 sz) (cwV 1 C.1.2.2.2.2 gX10_needQuotation_X9_at rfl rfl rfl (by decide +kernel) ⟨Nat.le_of_ble_eq_true rfl, Nat.le_of_ble_eq_true rfl⟩) rfl rfl (Nat.le_of_ble_eq_true rfl) dX10_needQuotation_15 ⟨Nat.le_of_ble_eq_true rfl, Nat.le_of_ble_eq_true rfl⟩ ?_
    refine pv_getiN (T := TX4) (N := 8) C 7 inu_EX10_needQuotation_4 rfl (by decide) (by decide) (List.mem_of_getElem? (i := 27) rfl) rfl k19 dX10_needQuotation_18 ?_
    refine pv_icmp_lt (tgt := 35) C dX10_needQuotation_21 (by decide) (fun c20 => ?_) (fun c20 => ?_)
    · have h := pq_it c20 h
      exact pv_vret C hr hlk h dX10_needQuotation_35
    · have h := pq_if c20 h
      cases h
def E_X10_beginOf (G : pq_G) (S : pq_N) (a0 : Nat) (x1 : Int32) (x2 : Int32) : Option (Int32 × pq_N) := (pq_bd (E_X10_needQuotation G S a0 x1 x2) fun _ S12 => (pq_bd (F_X9_at G S12 (pq_r G a0 0) x1) fun v15 S16 => (pq_bd (F_X7_number G S16 (pq_r G v15 2) x2) fun v20 S21 => some (v20, S21))))
theorem d_X10_beginOf (G : pq_G) (S : pq_N) (a0 : Nat) (x1 : Int32) (x2 : Int32) : E_X10_beginOf G S a0 x1 x2 = pq_dr (F_X10_beginOf G S a0 x1 x2) := by
  simp only [F_X10_beginOf, E_X10_beginOf, dr_n, dr_l, dr_r, dr_if, dr_bd, dr_lt, dr_bx, d_X10_needQuotation]
theorem inu_EX10_beginOf_4 : ∀ w ∈ u_ws RX4 TX4 8, w ∈ wsX10_beginOf := pq_inu 38 rfl
theorem inu_EX10_beginOf_10 : ∀ w ∈ u_ws RX10 TX10 7, w ∈ wsX10_beginOf := pq_inu 31 rfl
set_option maxHeartbeats 4000000 in
set_option maxRecDepth 100000 in
theorem e_X10_beginOf {l : Launch} {D : va_G} {y : pq_Y} {G : pq_G} (W0 : pq_WT G) {S : pq_N} {a0 : Nat} {x1 : Int32} {x2 : Int32} (k0_ : pq_ok G 10 a0) {r : Int32} {S1 : pq_N} (h : E_X10_beginOf G S a0 x1 x2 = some (r, S1)) (sz : Nat) : Met l yX10_beginOf wsX10_beginOf ({ frames := 3, cells := 0, slots := 0, locals := 64 } : Room) (pq_P D y G S sz [.ref a0, .int x1, .int x2]) (pq_Qi D y G sz r S1) 0 0 (pq_A G sz) := by
  refine pq_enter RX10 3 (by decide) rfl rfl rfl ?_
  intro p e s m below meth c C hsz hr hlk
  subst hsz
  unfold E_X10_beginOf at h
  refine pv_sub (lo1 := [(0, .ref a0), (1, .int x1), (2, .int x2)]) [0, 1, 2] rfl ?_
  refine pv_aload_n C 0 dX10_beginOf_0 rfl rfl ?_
  refine pv_iload_n C 1 dX10_beginOf_1 rfl rfl ?_
  refine pv_iload_n C 2 dX10_beginOf_2 rfl rfl ?_
  obtain ⟨⟨⟩, S12, e13, h⟩ := pq_bs h
  refine pv_callvV C (ci := 10) rfl (by decide) k0_ [.int x1, .int x2] (fun sz => e_X10_needQuotation W0 k0_ e13 sz) (cwV 2 C.1.2.2.2.2 gX10_beginOf_X10_needQuotation rfl rfl rfl (by decide +kernel) ⟨Nat.le_of_ble_eq_true rfl, Nat.le_of_ble_eq_true rfl⟩) rfl rfl (Nat.le_of_ble_eq_true rfl) dX10_beginOf_3 ⟨Nat.le_of_ble_eq_true rfl, Nat.le_of_ble_eq_true rfl⟩ ?_
  refine pv_aload_n C 0 dX10_beginOf_6 rfl rfl ?_
  have k14 := pq_wt (k := 0) W0 k0_ rfl
  refine pv_getr (T := TX10) (N := 7) C 0 inu_EX10_beginOf_10 rfl (by decide) (by decide) (List.mem_of_getElem? (i := 1) rfl) rfl k0_ k14.1 dX10_beginOf_7 ?_
  refine pv_iload_n C 1 dX10_beginOf_10 rfl rfl ?_
  obtain ⟨v15, S16, e17, h⟩ := pq_bs h
  have k18 := o_X9_at W0 k14.2 e17
  refine pv_callrV C (ci := 9) rfl (by decide) k14.2 [.int x1] (fun sz => r_X9_at W0 k14.2 e17 sz) (cwV 1 C.1.2.2.2.2 gX10_beginOf_X9_at rfl rfl rfl (by decide +kernel) ⟨Nat.le_of_ble_eq_true rfl, Nat.le_of_ble_eq_true rfl⟩) rfl rfl (Nat.le_of_ble_eq_true rfl) dX10_beginOf_11 ⟨Nat.le_of_ble_eq_true rfl, Nat.le_of_ble_eq_true rfl⟩ ?_
  have k19 := pq_wt (k := 2) W0 k18 rfl
  refine pv_getrN (T := TX4) (N := 8) C 2 inu_EX10_beginOf_4 rfl (by decide) (by decide) (List.mem_of_getElem? (i := 10) rfl) rfl k18 k19.1 dX10_beginOf_14 ?_
  refine pv_iload_n C 2 dX10_beginOf_17 rfl rfl ?_
  obtain ⟨v20, S21, e22, h⟩ := pq_bs h
  refine pv_calliV C (ci := 7) rfl (by decide) k19.2 [.int x2] (fun sz => r_X7_number W0 k19.2 e22 sz) (cwV 1 C.1.2.2.2.2 gX10_beginOf_X7_number rfl rfl rfl (by decide +kernel) ⟨Nat.le_of_ble_eq_true rfl, Nat.le_of_ble_eq_true rfl⟩) rfl rfl (Nat.le_of_ble_eq_true rfl) dX10_beginOf_18 ⟨Nat.le_of_ble_eq_true rfl, Nat.le_of_ble_eq_true rfl⟩ ?_
  exact pv_iret C hr hlk h dX10_beginOf_21
def E_X10_needAuthor (G : pq_G) (S : pq_N) (x0 : Int32) : Option (Unit × pq_N) := (pq_bd (F_X10_isAuthor G S x0) fun v11 S12 => (if v11 = (0 : Int32) then none else some ((), S12)))
theorem d_X10_needAuthor (G : pq_G) (S : pq_N) (x0 : Int32) : E_X10_needAuthor G S x0 = pq_dr (F_X10_needAuthor G S x0) := by
  simp only [F_X10_needAuthor, E_X10_needAuthor, dr_n, dr_l, dr_r, dr_if, dr_bd, dr_lt, dr_bx]
set_option maxHeartbeats 4000000 in
set_option maxRecDepth 100000 in
theorem e_X10_needAuthor {l : Launch} {D : va_G} {y : pq_Y} {G : pq_G} (W0 : pq_WT G) {S : pq_N} {x0 : Int32}  {S1 : pq_N} (h : E_X10_needAuthor G S x0 = some ((), S1)) (sz : Nat) : Met l yX10_needAuthor wsX10_needAuthor ({ frames := 1, cells := 0, slots := 0, locals := 20 } : Room) (pq_P D y G S sz [.int x0]) (pq_Qv D y G sz S1) 0 0 (pq_A G sz) := by
  refine pq_enter RX10 1 (by decide) rfl rfl rfl ?_
  intro p e s m below meth c C hsz hr hlk
  subst hsz
  unfold E_X10_needAuthor at h
  refine pv_sub (lo1 := [(0, .int x0)]) [0] rfl ?_
  refine pv_iload_n C 0 dX10_needAuthor_0 rfl rfl ?_
  obtain ⟨v11, S12, e13, h⟩ := pq_bs h
  refine pv_calliS C [.int x0] (fun sz => r_X10_isAuthor W0  e13 sz) (va_cwS 1 C.1.2.2.2.2 gX10_needAuthor_X10_isAuthor rfl rfl rfl (by decide +kernel) ⟨Nat.le_of_ble_eq_true rfl, Nat.le_of_ble_eq_true rfl⟩) rfl rfl (Nat.le_of_ble_eq_true rfl) dX10_needAuthor_1 ⟨Nat.le_of_ble_eq_true rfl, Nat.le_of_ble_eq_true rfl⟩ ?_
  refine pv_if_ne (tgt := 18) C dX10_needAuthor_4 (by decide) (fun c14 => ?_) (fun c14 => ?_)
  · have h := pq_if c14 h
    exact pv_vret C hr hlk h dX10_needAuthor_18
  · have h := pq_it c14 h
    cases h
def E_X10_blameOf (G : pq_G) (S : pq_N) (a0 : Nat) (x1 : Int32) : Option (Int32 × pq_N) := (pq_bd (E_X10_needAuthor G S x1) fun _ S12 => (pq_bd (F_X5_changesWritten G S12 (pq_r G a0 4) (pq_r G a0 0) x1 (-1 : Int32)) fun v16 S17 => some (v16, S17)))
theorem d_X10_blameOf (G : pq_G) (S : pq_N) (a0 : Nat) (x1 : Int32) : E_X10_blameOf G S a0 x1 = pq_dr (F_X10_blameOf G S a0 x1) := by
  simp only [F_X10_blameOf, E_X10_blameOf, dr_n, dr_l, dr_r, dr_if, dr_bd, dr_lt, dr_bx, d_X10_needAuthor]
theorem inu_EX10_blameOf_10 : ∀ w ∈ u_ws RX10 TX10 7, w ∈ wsX10_blameOf := pq_inu 69 rfl
set_option maxHeartbeats 4000000 in
set_option maxRecDepth 100000 in
theorem e_X10_blameOf {l : Launch} {D : va_G} {y : pq_Y} {G : pq_G} (W0 : pq_WT G) {S : pq_N} {a0 : Nat} {x1 : Int32} (k0_ : pq_ok G 10 a0) {r : Int32} {S1 : pq_N} (h : E_X10_blameOf G S a0 x1 = some (r, S1)) (sz : Nat) : Met l yX10_blameOf wsX10_blameOf ({ frames := 6, cells := 0, slots := 0, locals := 155 } : Room) (pq_P D y G S sz [.ref a0, .int x1]) (pq_Qi D y G sz r S1) 0 0 (pq_A G sz) := by
  refine pq_enter RX10 2 (by decide) rfl rfl rfl ?_
  intro p e s m below meth c C hsz hr hlk
  subst hsz
  unfold E_X10_blameOf at h
  refine pv_sub (lo1 := [(0, .ref a0), (1, .int x1)]) [0, 1] rfl ?_
  refine pv_iload_n C 1 dX10_blameOf_0 rfl rfl ?_
  obtain ⟨⟨⟩, S12, e13, h⟩ := pq_bs h
  refine pv_callvS C [.int x1] (fun sz => e_X10_needAuthor W0  e13 sz) (va_cwS 1 C.1.2.2.2.2 gX10_blameOf_X10_needAuthor rfl rfl rfl (by decide +kernel) ⟨Nat.le_of_ble_eq_true rfl, Nat.le_of_ble_eq_true rfl⟩) rfl rfl (Nat.le_of_ble_eq_true rfl) dX10_blameOf_1 ⟨Nat.le_of_ble_eq_true rfl, Nat.le_of_ble_eq_true rfl⟩ ?_
  refine pv_aload_n C 0 dX10_blameOf_4 rfl rfl ?_
  have k14 := pq_wt (k := 4) W0 k0_ rfl
  refine pv_getr (T := TX10) (N := 7) C 4 inu_EX10_blameOf_10 rfl (by decide) (by decide) (List.mem_of_getElem? (i := 1) rfl) rfl k0_ k14.1 dX10_blameOf_5 ?_
  refine pv_aload_n C 0 dX10_blameOf_8 rfl rfl ?_
  have k15 := pq_wt (k := 0) W0 k0_ rfl
  refine pv_getr (T := TX10) (N := 7) C 0 inu_EX10_blameOf_10 rfl (by decide) (by decide) (List.mem_of_getElem? (i := 2) rfl) rfl k0_ k15.1 dX10_blameOf_9 ?_
  refine pv_iload_n C 1 dX10_blameOf_12 rfl rfl ?_
  refine pv_iconst (v := -1) C dX10_blameOf_13 (by decide) ?_
  obtain ⟨v16, S17, e18, h⟩ := pq_bs h
  refine pv_calliV C (ci := 5) rfl (by decide) k14.2 [.ref (pq_r G a0 0), .int x1, .int (-1 : Int32)] (fun sz => r_X5_changesWritten W0 k14.2 k15.2 e18 sz) (cwV 3 C.1.2.2.2.2 gX10_blameOf_X5_changesWritten rfl rfl rfl (by decide +kernel) ⟨Nat.le_of_ble_eq_true rfl, Nat.le_of_ble_eq_true rfl⟩) rfl rfl (Nat.le_of_ble_eq_true rfl) dX10_blameOf_14 ⟨Nat.le_of_ble_eq_true rfl, Nat.le_of_ble_eq_true rfl⟩ ?_
  exact pv_iret C hr hlk h dX10_blameOf_17
def E_X10_changesAtOrigin (G : pq_G) (S : pq_N) (a0 : Nat) (x1 : Int32) (x2 : Int32) : Option (Int32 × pq_N) := (pq_bd (E_X10_needQuotation G S a0 x1 x2) fun _ S12 => (pq_bd (F_X5_trace G S12 (pq_r G a0 4) (pq_r G a0 0) x1 x2) fun _ S17 => (pq_bd (F_X5_findAtOrigin G S17 (pq_r G a0 4) (pq_r G a0 0) x1 x2) fun v21 S22 => some (v21, S22))))
theorem d_X10_changesAtOrigin (G : pq_G) (S : pq_N) (a0 : Nat) (x1 : Int32) (x2 : Int32) : E_X10_changesAtOrigin G S a0 x1 x2 = pq_dr (F_X10_changesAtOrigin G S a0 x1 x2) := by
  simp only [F_X10_changesAtOrigin, E_X10_changesAtOrigin, dr_n, dr_l, dr_r, dr_if, dr_bd, dr_lt, dr_bx, d_X10_needQuotation]
theorem inu_EX10_changesAtOrigin_10 : ∀ w ∈ u_ws RX10 TX10 7, w ∈ wsX10_changesAtOrigin := pq_inu 96 rfl
set_option maxHeartbeats 4000000 in
set_option maxRecDepth 100000 in
theorem e_X10_changesAtOrigin {l : Launch} {D : va_G} {y : pq_Y} {G : pq_G} (W0 : pq_WT G) {S : pq_N} {a0 : Nat} {x1 : Int32} {x2 : Int32} (k0_ : pq_ok G 10 a0) {r : Int32} {S1 : pq_N} (h : E_X10_changesAtOrigin G S a0 x1 x2 = some (r, S1)) (sz : Nat) : Met l yX10_changesAtOrigin wsX10_changesAtOrigin ({ frames := 6, cells := 0, slots := 0, locals := 152 } : Room) (pq_P D y G S sz [.ref a0, .int x1, .int x2]) (pq_Qi D y G sz r S1) 0 0 (pq_A G sz) := by
  refine pq_enter RX10 3 (by decide) rfl rfl rfl ?_
  intro p e s m below meth c C hsz hr hlk
  subst hsz
  unfold E_X10_changesAtOrigin at h
  refine pv_sub (lo1 := [(0, .ref a0), (1, .int x1), (2, .int x2)]) [0, 1, 2] rfl ?_
  refine pv_aload_n C 0 dX10_changesAtOrigin_0 rfl rfl ?_
  refine pv_iload_n C 1 dX10_changesAtOrigin_1 rfl rfl ?_
  refine pv_iload_n C 2 dX10_changesAtOrigin_2 rfl rfl ?_
  obtain ⟨⟨⟩, S12, e13, h⟩ := pq_bs h
  refine pv_callvV C (ci := 10) rfl (by decide) k0_ [.int x1, .int x2] (fun sz => e_X10_needQuotation W0 k0_ e13 sz) (cwV 2 C.1.2.2.2.2 gX10_changesAtOrigin_X10_needQuotation rfl rfl rfl (by decide +kernel) ⟨Nat.le_of_ble_eq_true rfl, Nat.le_of_ble_eq_true rfl⟩) rfl rfl (Nat.le_of_ble_eq_true rfl) dX10_changesAtOrigin_3 ⟨Nat.le_of_ble_eq_true rfl, Nat.le_of_ble_eq_true rfl⟩ ?_
  refine pv_aload_n C 0 dX10_changesAtOrigin_6 rfl rfl ?_
  have k14 := pq_wt (k := 4) W0 k0_ rfl
  refine pv_getr (T := TX10) (N := 7) C 4 inu_EX10_changesAtOrigin_10 rfl (by decide) (by decide) (List.mem_of_getElem? (i := 1) rfl) rfl k0_ k14.1 dX10_changesAtOrigin_7 ?_
  refine pv_aload_n C 0 dX10_changesAtOrigin_10 rfl rfl ?_
  have k15 := pq_wt (k := 0) W0 k0_ rfl
  refine pv_getr (T := TX10) (N := 7) C 0 inu_EX10_changesAtOrigin_10 rfl (by decide) (by decide) (List.mem_of_getElem? (i := 2) rfl) rfl k0_ k15.1 dX10_changesAtOrigin_11 ?_
  refine pv_iload_n C 1 dX10_changesAtOrigin_14 rfl rfl ?_
  refine pv_iload_n C 2 dX10_changesAtOrigin_15 rfl rfl ?_
  obtain ⟨⟨⟩, S17, e18, h⟩ := pq_bs h
  refine pv_callvV C (ci := 5) rfl (by decide) k14.2 [.ref (pq_r G a0 0), .int x1, .int x2] (fun sz => r_X5_trace W0 k14.2 k15.2 e18 sz) (cwV 3 C.1.2.2.2.2 gX10_changesAtOrigin_X5_trace rfl rfl rfl (by decide +kernel) ⟨Nat.le_of_ble_eq_true rfl, Nat.le_of_ble_eq_true rfl⟩) rfl rfl (Nat.le_of_ble_eq_true rfl) dX10_changesAtOrigin_16 ⟨Nat.le_of_ble_eq_true rfl, Nat.le_of_ble_eq_true rfl⟩ ?_
  refine pv_aload_n C 0 dX10_changesAtOrigin_19 rfl rfl ?_
  have k19 := pq_wt (k := 4) W0 k0_ rfl
  refine pv_getr (T := TX10) (N := 7) C 4 inu_EX10_changesAtOrigin_10 rfl (by decide) (by decide) (List.mem_of_getElem? (i := 1) rfl) rfl k0_ k19.1 dX10_changesAtOrigin_20 ?_
  refine pv_aload_n C 0 dX10_changesAtOrigin_23 rfl rfl ?_
  have k20 := pq_wt (k := 0) W0 k0_ rfl
  refine pv_getr (T := TX10) (N := 7) C 0 inu_EX10_changesAtOrigin_10 rfl (by decide) (by decide) (List.mem_of_getElem? (i := 2) rfl) rfl k0_ k20.1 dX10_changesAtOrigin_24 ?_
  refine pv_iload_n C 1 dX10_changesAtOrigin_27 rfl rfl ?_
  refine pv_iload_n C 2 dX10_changesAtOrigin_28 rfl rfl ?_
  obtain ⟨v21, S22, e23, h⟩ := pq_bs h
  refine pv_calliV C (ci := 5) rfl (by decide) k19.2 [.ref (pq_r G a0 0), .int x1, .int x2] (fun sz => r_X5_findAtOrigin W0 k19.2 k20.2 e23 sz) (cwV 3 C.1.2.2.2.2 gX10_changesAtOrigin_X5_findAtOrigin rfl rfl rfl (by decide +kernel) ⟨Nat.le_of_ble_eq_true rfl, Nat.le_of_ble_eq_true rfl⟩) rfl rfl (Nat.le_of_ble_eq_true rfl) dX10_changesAtOrigin_29 ⟨Nat.le_of_ble_eq_true rfl, Nat.le_of_ble_eq_true rfl⟩ ?_
  exact pv_iret C hr hlk h dX10_changesAtOrigin_32
def E_X10_changesByPassages (G : pq_G) (S : pq_N) (a0 : Nat) (x1 : Int32) (x2 : Int32) : Option (Int32 × pq_N) := (pq_bd (E_X10_needQuotation G S a0 x1 x2) fun _ S12 => (pq_bd (F_X5_findByPassages G S12 (pq_r G a0 4) (pq_r G a0 0) x1 x2) fun v16 S17 => some (v16, S17)))
theorem d_X10_changesByPassages (G : pq_G) (S : pq_N) (a0 : Nat) (x1 : Int32) (x2 : Int32) : E_X10_changesByPassages G S a0 x1 x2 = pq_dr (F_X10_changesByPassages G S a0 x1 x2) := by
  simp only [F_X10_changesByPassages, E_X10_changesByPassages, dr_n, dr_l, dr_r, dr_if, dr_bd, dr_lt, dr_bx, d_X10_needQuotation]
theorem inu_EX10_changesByPassages_10 : ∀ w ∈ u_ws RX10 TX10 7, w ∈ wsX10_changesByPassages := pq_inu 66 rfl
set_option maxHeartbeats 4000000 in
set_option maxRecDepth 100000 in
theorem e_X10_changesByPassages {l : Launch} {D : va_G} {y : pq_Y} {G : pq_G} (W0 : pq_WT G) {S : pq_N} {a0 : Nat} {x1 : Int32} {x2 : Int32} (k0_ : pq_ok G 10 a0) {r : Int32} {S1 : pq_N} (h : E_X10_changesByPassages G S a0 x1 x2 = some (r, S1)) (sz : Nat) : Met l yX10_changesByPassages wsX10_changesByPassages ({ frames := 5, cells := 0, slots := 0, locals := 132 } : Room) (pq_P D y G S sz [.ref a0, .int x1, .int x2]) (pq_Qi D y G sz r S1) 0 0 (pq_A G sz) := by
  refine pq_enter RX10 3 (by decide) rfl rfl rfl ?_
  intro p e s m below meth c C hsz hr hlk
  subst hsz
  unfold E_X10_changesByPassages at h
  refine pv_sub (lo1 := [(0, .ref a0), (1, .int x1), (2, .int x2)]) [0, 1, 2] rfl ?_
  refine pv_aload_n C 0 dX10_changesByPassages_0 rfl rfl ?_
  refine pv_iload_n C 1 dX10_changesByPassages_1 rfl rfl ?_
  refine pv_iload_n C 2 dX10_changesByPassages_2 rfl rfl ?_
  obtain ⟨⟨⟩, S12, e13, h⟩ := pq_bs h
  refine pv_callvV C (ci := 10) rfl (by decide) k0_ [.int x1, .int x2] (fun sz => e_X10_needQuotation W0 k0_ e13 sz) (cwV 2 C.1.2.2.2.2 gX10_changesByPassages_X10_needQuotation rfl rfl rfl (by decide +kernel) ⟨Nat.le_of_ble_eq_true rfl, Nat.le_of_ble_eq_true rfl⟩) rfl rfl (Nat.le_of_ble_eq_true rfl) dX10_changesByPassages_3 ⟨Nat.le_of_ble_eq_true rfl, Nat.le_of_ble_eq_true rfl⟩ ?_
  refine pv_aload_n C 0 dX10_changesByPassages_6 rfl rfl ?_
  have k14 := pq_wt (k := 4) W0 k0_ rfl
  refine pv_getr (T := TX10) (N := 7) C 4 inu_EX10_changesByPassages_10 rfl (by decide) (by decide) (List.mem_of_getElem? (i := 1) rfl) rfl k0_ k14.1 dX10_changesByPassages_7 ?_
  refine pv_aload_n C 0 dX10_changesByPassages_10 rfl rfl ?_
  have k15 := pq_wt (k := 0) W0 k0_ rfl
  refine pv_getr (T := TX10) (N := 7) C 0 inu_EX10_changesByPassages_10 rfl (by decide) (by decide) (List.mem_of_getElem? (i := 2) rfl) rfl k0_ k15.1 dX10_changesByPassages_11 ?_
  refine pv_iload_n C 1 dX10_changesByPassages_14 rfl rfl ?_
  refine pv_iload_n C 2 dX10_changesByPassages_15 rfl rfl ?_
  obtain ⟨v16, S17, e18, h⟩ := pq_bs h
  refine pv_calliV C (ci := 5) rfl (by decide) k14.2 [.ref (pq_r G a0 0), .int x1, .int x2] (fun sz => r_X5_findByPassages W0 k14.2 k15.2 e18 sz) (cwV 3 C.1.2.2.2.2 gX10_changesByPassages_X5_findByPassages rfl rfl rfl (by decide +kernel) ⟨Nat.le_of_ble_eq_true rfl, Nat.le_of_ble_eq_true rfl⟩) rfl rfl (Nat.le_of_ble_eq_true rfl) dX10_changesByPassages_16 ⟨Nat.le_of_ble_eq_true rfl, Nat.le_of_ble_eq_true rfl⟩ ?_
  exact pv_iret C hr hlk h dX10_changesByPassages_19
def E_X10_changesByTable (G : pq_G) (S : pq_N) (a0 : Nat) (x1 : Int32) (x2 : Int32) : Option (Int32 × pq_N) := (pq_bd (E_X10_needQuotation G S a0 x1 x2) fun _ S12 => (pq_bd (F_X5_find G S12 (pq_r G a0 4) (pq_r G a0 0) x1 x2) fun v16 S17 => some (v16, S17)))
theorem d_X10_changesByTable (G : pq_G) (S : pq_N) (a0 : Nat) (x1 : Int32) (x2 : Int32) : E_X10_changesByTable G S a0 x1 x2 = pq_dr (F_X10_changesByTable G S a0 x1 x2) := by
  simp only [F_X10_changesByTable, E_X10_changesByTable, dr_n, dr_l, dr_r, dr_if, dr_bd, dr_lt, dr_bx, d_X10_needQuotation]
theorem inu_EX10_changesByTable_10 : ∀ w ∈ u_ws RX10 TX10 7, w ∈ wsX10_changesByTable := pq_inu 69 rfl
set_option maxHeartbeats 4000000 in
set_option maxRecDepth 100000 in
theorem e_X10_changesByTable {l : Launch} {D : va_G} {y : pq_Y} {G : pq_G} (W0 : pq_WT G) {S : pq_N} {a0 : Nat} {x1 : Int32} {x2 : Int32} (k0_ : pq_ok G 10 a0) {r : Int32} {S1 : pq_N} (h : E_X10_changesByTable G S a0 x1 x2 = some (r, S1)) (sz : Nat) : Met l yX10_changesByTable wsX10_changesByTable ({ frames := 4, cells := 0, slots := 0, locals := 103 } : Room) (pq_P D y G S sz [.ref a0, .int x1, .int x2]) (pq_Qi D y G sz r S1) 0 0 (pq_A G sz) := by
  refine pq_enter RX10 3 (by decide) rfl rfl rfl ?_
  intro p e s m below meth c C hsz hr hlk
  subst hsz
  unfold E_X10_changesByTable at h
  refine pv_sub (lo1 := [(0, .ref a0), (1, .int x1), (2, .int x2)]) [0, 1, 2] rfl ?_
  refine pv_aload_n C 0 dX10_changesByTable_0 rfl rfl ?_
  refine pv_iload_n C 1 dX10_changesByTable_1 rfl rfl ?_
  refine pv_iload_n C 2 dX10_changesByTable_2 rfl rfl ?_
  obtain ⟨⟨⟩, S12, e13, h⟩ := pq_bs h
  refine pv_callvV C (ci := 10) rfl (by decide) k0_ [.int x1, .int x2] (fun sz => e_X10_needQuotation W0 k0_ e13 sz) (cwV 2 C.1.2.2.2.2 gX10_changesByTable_X10_needQuotation rfl rfl rfl (by decide +kernel) ⟨Nat.le_of_ble_eq_true rfl, Nat.le_of_ble_eq_true rfl⟩) rfl rfl (Nat.le_of_ble_eq_true rfl) dX10_changesByTable_3 ⟨Nat.le_of_ble_eq_true rfl, Nat.le_of_ble_eq_true rfl⟩ ?_
  refine pv_aload_n C 0 dX10_changesByTable_6 rfl rfl ?_
  have k14 := pq_wt (k := 4) W0 k0_ rfl
  refine pv_getr (T := TX10) (N := 7) C 4 inu_EX10_changesByTable_10 rfl (by decide) (by decide) (List.mem_of_getElem? (i := 1) rfl) rfl k0_ k14.1 dX10_changesByTable_7 ?_
  refine pv_aload_n C 0 dX10_changesByTable_10 rfl rfl ?_
  have k15 := pq_wt (k := 0) W0 k0_ rfl
  refine pv_getr (T := TX10) (N := 7) C 0 inu_EX10_changesByTable_10 rfl (by decide) (by decide) (List.mem_of_getElem? (i := 2) rfl) rfl k0_ k15.1 dX10_changesByTable_11 ?_
  refine pv_iload_n C 1 dX10_changesByTable_14 rfl rfl ?_
  refine pv_iload_n C 2 dX10_changesByTable_15 rfl rfl ?_
  obtain ⟨v16, S17, e18, h⟩ := pq_bs h
  refine pv_calliV C (ci := 5) rfl (by decide) k14.2 [.ref (pq_r G a0 0), .int x1, .int x2] (fun sz => r_X5_find W0 k14.2 k15.2 e18 sz) (cwV 3 C.1.2.2.2.2 gX10_changesByTable_X5_find rfl rfl rfl (by decide +kernel) ⟨Nat.le_of_ble_eq_true rfl, Nat.le_of_ble_eq_true rfl⟩) rfl rfl (Nat.le_of_ble_eq_true rfl) dX10_changesByTable_16 ⟨Nat.le_of_ble_eq_true rfl, Nat.le_of_ble_eq_true rfl⟩ ?_
  exact pv_iret C hr hlk h dX10_changesByTable_19
def E_X10_comesFrom (G : pq_G) (S : pq_N) (a0 : Nat) (x1 : Int32) (x2 : Int32) : Option (Int32 × pq_N) := (pq_bd (E_X10_needQuotation G S a0 x1 x2) fun _ S12 => (pq_bd (F_X5_parent G S12 (pq_r G a0 4) (pq_r G a0 0) x1 x2) fun v16 S17 => some (v16, S17)))
theorem d_X10_comesFrom (G : pq_G) (S : pq_N) (a0 : Nat) (x1 : Int32) (x2 : Int32) : E_X10_comesFrom G S a0 x1 x2 = pq_dr (F_X10_comesFrom G S a0 x1 x2) := by
  simp only [F_X10_comesFrom, E_X10_comesFrom, dr_n, dr_l, dr_r, dr_if, dr_bd, dr_lt, dr_bx, d_X10_needQuotation]
theorem inu_EX10_comesFrom_10 : ∀ w ∈ u_ws RX10 TX10 7, w ∈ wsX10_comesFrom := pq_inu 86 rfl
set_option maxHeartbeats 4000000 in
set_option maxRecDepth 100000 in
theorem e_X10_comesFrom {l : Launch} {D : va_G} {y : pq_Y} {G : pq_G} (W0 : pq_WT G) {S : pq_N} {a0 : Nat} {x1 : Int32} {x2 : Int32} (k0_ : pq_ok G 10 a0) {r : Int32} {S1 : pq_N} (h : E_X10_comesFrom G S a0 x1 x2 = some (r, S1)) (sz : Nat) : Met l yX10_comesFrom wsX10_comesFrom ({ frames := 5, cells := 0, slots := 0, locals := 127 } : Room) (pq_P D y G S sz [.ref a0, .int x1, .int x2]) (pq_Qi D y G sz r S1) 0 0 (pq_A G sz) := by
  refine pq_enter RX10 3 (by decide) rfl rfl rfl ?_
  intro p e s m below meth c C hsz hr hlk
  subst hsz
  unfold E_X10_comesFrom at h
  refine pv_sub (lo1 := [(0, .ref a0), (1, .int x1), (2, .int x2)]) [0, 1, 2] rfl ?_
  refine pv_aload_n C 0 dX10_comesFrom_0 rfl rfl ?_
  refine pv_iload_n C 1 dX10_comesFrom_1 rfl rfl ?_
  refine pv_iload_n C 2 dX10_comesFrom_2 rfl rfl ?_
  obtain ⟨⟨⟩, S12, e13, h⟩ := pq_bs h
  refine pv_callvV C (ci := 10) rfl (by decide) k0_ [.int x1, .int x2] (fun sz => e_X10_needQuotation W0 k0_ e13 sz) (cwV 2 C.1.2.2.2.2 gX10_comesFrom_X10_needQuotation rfl rfl rfl (by decide +kernel) ⟨Nat.le_of_ble_eq_true rfl, Nat.le_of_ble_eq_true rfl⟩) rfl rfl (Nat.le_of_ble_eq_true rfl) dX10_comesFrom_3 ⟨Nat.le_of_ble_eq_true rfl, Nat.le_of_ble_eq_true rfl⟩ ?_
  refine pv_aload_n C 0 dX10_comesFrom_6 rfl rfl ?_
  have k14 := pq_wt (k := 4) W0 k0_ rfl
  refine pv_getr (T := TX10) (N := 7) C 4 inu_EX10_comesFrom_10 rfl (by decide) (by decide) (List.mem_of_getElem? (i := 1) rfl) rfl k0_ k14.1 dX10_comesFrom_7 ?_
  refine pv_aload_n C 0 dX10_comesFrom_10 rfl rfl ?_
  have k15 := pq_wt (k := 0) W0 k0_ rfl
  refine pv_getr (T := TX10) (N := 7) C 0 inu_EX10_comesFrom_10 rfl (by decide) (by decide) (List.mem_of_getElem? (i := 2) rfl) rfl k0_ k15.1 dX10_comesFrom_11 ?_
  refine pv_iload_n C 1 dX10_comesFrom_14 rfl rfl ?_
  refine pv_iload_n C 2 dX10_comesFrom_15 rfl rfl ?_
  obtain ⟨v16, S17, e18, h⟩ := pq_bs h
  refine pv_calliV C (ci := 5) rfl (by decide) k14.2 [.ref (pq_r G a0 0), .int x1, .int x2] (fun sz => r_X5_parent W0 k14.2 k15.2 e18 sz) (cwV 3 C.1.2.2.2.2 gX10_comesFrom_X5_parent rfl rfl rfl (by decide +kernel) ⟨Nat.le_of_ble_eq_true rfl, Nat.le_of_ble_eq_true rfl⟩) rfl rfl (Nat.le_of_ble_eq_true rfl) dX10_comesFrom_16 ⟨Nat.le_of_ble_eq_true rfl, Nat.le_of_ble_eq_true rfl⟩ ?_
  exact pv_iret C hr hlk h dX10_comesFrom_19
def E_X10_dayOf (G : pq_G) (S : pq_N) (a0 : Nat) (x1 : Int32) : Option (Int32 × pq_N) := (pq_bd (E_X10_needPamphlet G S a0 x1) fun _ S12 => (pq_bd (F_X9_at G S12 (pq_r G a0 0) x1) fun v15 S16 => some ((S16.1 v15 5), S16)))
theorem d_X10_dayOf (G : pq_G) (S : pq_N) (a0 : Nat) (x1 : Int32) : E_X10_dayOf G S a0 x1 = pq_dr (F_X10_dayOf G S a0 x1) := by
  simp only [F_X10_dayOf, E_X10_dayOf, dr_n, dr_l, dr_r, dr_if, dr_bd, dr_lt, dr_bx, d_X10_needPamphlet]
theorem inu_EX10_dayOf_4 : ∀ w ∈ u_ws RX4 TX4 8, w ∈ wsX10_dayOf := pq_inu 28 rfl
theorem inu_EX10_dayOf_10 : ∀ w ∈ u_ws RX10 TX10 7, w ∈ wsX10_dayOf := pq_inu 21 rfl
set_option maxHeartbeats 4000000 in
set_option maxRecDepth 100000 in
theorem e_X10_dayOf {l : Launch} {D : va_G} {y : pq_Y} {G : pq_G} (W0 : pq_WT G) {S : pq_N} {a0 : Nat} {x1 : Int32} (k0_ : pq_ok G 10 a0) {r : Int32} {S1 : pq_N} (h : E_X10_dayOf G S a0 x1 = some (r, S1)) (sz : Nat) : Met l yX10_dayOf wsX10_dayOf ({ frames := 2, cells := 0, slots := 0, locals := 42 } : Room) (pq_P D y G S sz [.ref a0, .int x1]) (pq_Qi D y G sz r S1) 0 0 (pq_A G sz) := by
  refine pq_enter RX10 2 (by decide) rfl rfl rfl ?_
  intro p e s m below meth c C hsz hr hlk
  subst hsz
  unfold E_X10_dayOf at h
  refine pv_sub (lo1 := [(0, .ref a0), (1, .int x1)]) [0, 1] rfl ?_
  refine pv_aload_n C 0 dX10_dayOf_0 rfl rfl ?_
  refine pv_iload_n C 1 dX10_dayOf_1 rfl rfl ?_
  obtain ⟨⟨⟩, S12, e13, h⟩ := pq_bs h
  refine pv_callvV C (ci := 10) rfl (by decide) k0_ [.int x1] (fun sz => e_X10_needPamphlet W0 k0_ e13 sz) (cwV 1 C.1.2.2.2.2 gX10_dayOf_X10_needPamphlet rfl rfl rfl (by decide +kernel) ⟨Nat.le_of_ble_eq_true rfl, Nat.le_of_ble_eq_true rfl⟩) rfl rfl (Nat.le_of_ble_eq_true rfl) dX10_dayOf_2 ⟨Nat.le_of_ble_eq_true rfl, Nat.le_of_ble_eq_true rfl⟩ ?_
  refine pv_aload_n C 0 dX10_dayOf_5 rfl rfl ?_
  have k14 := pq_wt (k := 0) W0 k0_ rfl
  refine pv_getr (T := TX10) (N := 7) C 0 inu_EX10_dayOf_10 rfl (by decide) (by decide) (List.mem_of_getElem? (i := 1) rfl) rfl k0_ k14.1 dX10_dayOf_6 ?_
  refine pv_iload_n C 1 dX10_dayOf_9 rfl rfl ?_
  obtain ⟨v15, S16, e17, h⟩ := pq_bs h
  have k18 := o_X9_at W0 k14.2 e17
  refine pv_callrV C (ci := 9) rfl (by decide) k14.2 [.int x1] (fun sz => r_X9_at W0 k14.2 e17 sz) (cwV 1 C.1.2.2.2.2 gX10_dayOf_X9_at rfl rfl rfl (by decide +kernel) ⟨Nat.le_of_ble_eq_true rfl, Nat.le_of_ble_eq_true rfl⟩) rfl rfl (Nat.le_of_ble_eq_true rfl) dX10_dayOf_10 ⟨Nat.le_of_ble_eq_true rfl, Nat.le_of_ble_eq_true rfl⟩ ?_
  refine pv_getiN (T := TX4) (N := 8) C 5 inu_EX10_dayOf_4 rfl (by decide) (by decide) (List.mem_of_getElem? (i := 17) rfl) rfl k18 dX10_dayOf_13 ?_
  exact pv_iret C hr hlk h dX10_dayOf_16
def E_X10_needPlace (G : pq_G) (S : pq_N) (x0 : Int32) (x1 : Int32) : Option (Unit × pq_N) := (if x0 < (0 : Int32) then none else (if x0 < x1 then some ((), S) else none))
theorem d_X10_needPlace (G : pq_G) (S : pq_N) (x0 : Int32) (x1 : Int32) : E_X10_needPlace G S x0 x1 = pq_dr (F_X10_needPlace G S x0 x1) := by
  simp only [F_X10_needPlace, E_X10_needPlace, dr_n, dr_l, dr_r, dr_if, dr_bd, dr_lt, dr_bx]
set_option maxHeartbeats 4000000 in
set_option maxRecDepth 100000 in
theorem e_X10_needPlace {l : Launch} {D : va_G} {y : pq_Y} {G : pq_G} (W0 : pq_WT G) {S : pq_N} {x0 : Int32} {x1 : Int32}  {S1 : pq_N} (h : E_X10_needPlace G S x0 x1 = some ((), S1)) (sz : Nat) : Met l yX10_needPlace wsX10_needPlace ({ frames := 0, cells := 0, slots := 0, locals := 0 } : Room) (pq_P D y G S sz [.int x0, .int x1]) (pq_Qv D y G sz S1) 0 0 (pq_A G sz) := by
  refine pq_enter RX10 2 (by decide) rfl rfl rfl ?_
  intro p e s m below meth c C hsz hr hlk
  subst hsz
  unfold E_X10_needPlace at h
  refine pv_sub (lo1 := [(0, .int x0), (1, .int x1)]) [0, 1] rfl ?_
  refine pv_iload_n C 0 dX10_needPlace_0 rfl rfl ?_
  refine pv_if_lt (tgt := 9) C dX10_needPlace_1 (by decide) (fun c11 => ?_) (fun c11 => ?_)
  · have h := pq_it c11 h
    cases h
  · have h := pq_if c11 h
    refine pv_iload_n C 0 dX10_needPlace_4 rfl rfl ?_
    refine pv_iload_n C 1 dX10_needPlace_5 rfl rfl ?_
    refine pv_icmp_lt (tgt := 20) C dX10_needPlace_6 (by decide) (fun c12 => ?_) (fun c12 => ?_)
    · have h := pq_it c12 h
      exact pv_vret C hr hlk h dX10_needPlace_20
    · have h := pq_if c12 h
      cases h
def E_X10_needIndex (G : pq_G) (S : pq_N) (x0 : Int32) : Option (Unit × pq_N) := (if (0 : Int32) ≤ x0 then some ((), S) else none)
theorem d_X10_needIndex (G : pq_G) (S : pq_N) (x0 : Int32) : E_X10_needIndex G S x0 = pq_dr (F_X10_needIndex G S x0) := by
  simp only [F_X10_needIndex, E_X10_needIndex, dr_n, dr_l, dr_r, dr_if, dr_bd, dr_lt, dr_bx]
set_option maxHeartbeats 4000000 in
set_option maxRecDepth 100000 in
theorem e_X10_needIndex {l : Launch} {D : va_G} {y : pq_Y} {G : pq_G} (W0 : pq_WT G) {S : pq_N} {x0 : Int32}  {S1 : pq_N} (h : E_X10_needIndex G S x0 = some ((), S1)) (sz : Nat) : Met l yX10_needIndex wsX10_needIndex ({ frames := 0, cells := 0, slots := 0, locals := 0 } : Room) (pq_P D y G S sz [.int x0]) (pq_Qv D y G sz S1) 0 0 (pq_A G sz) := by
  refine pq_enter RX10 1 (by decide) rfl rfl rfl ?_
  intro p e s m below meth c C hsz hr hlk
  subst hsz
  unfold E_X10_needIndex at h
  refine pv_sub (lo1 := [(0, .int x0)]) [0] rfl ?_
  refine pv_iload_n C 0 dX10_needIndex_0 rfl rfl ?_
  refine pv_if_ge (tgt := 15) C dX10_needIndex_1 (by decide) (fun c11 => ?_) (fun c11 => ?_)
  · have h := pq_it c11 h
    exact pv_vret C hr hlk h dX10_needIndex_15
  · have h := pq_if c11 h
    cases h
def E_X10_glossaryLetter (G : pq_G) (S : pq_N) (a0 : Nat) (x1 : Int32) (x2 : Int32) : Option (Int32 × pq_N) := (pq_bd (F_X1_gather G S (pq_r G a0 6) (pq_r G a0 0)) fun _ S14 => (pq_bd (E_X10_needPlace G S14 x1 (S14.1 (pq_r G a0 6) 2)) fun _ S18 => (pq_bd (E_X10_needIndex G S18 x2) fun _ S21 => (pq_bd (F_X7_at G S21 (pq_r G (pq_r G a0 6) 0) x1) fun v25 S26 => (pq_bd (F_X10_letterIn G S26 v25 x2) fun v28 S29 => some (v28, S29))))))
theorem d_X10_glossaryLetter (G : pq_G) (S : pq_N) (a0 : Nat) (x1 : Int32) (x2 : Int32) : E_X10_glossaryLetter G S a0 x1 x2 = pq_dr (F_X10_glossaryLetter G S a0 x1 x2) := by
  simp only [F_X10_glossaryLetter, E_X10_glossaryLetter, dr_n, dr_l, dr_r, dr_if, dr_bd, dr_lt, dr_bx, d_X10_needPlace, d_X10_needIndex]
theorem inu_EX10_glossaryLetter_1 : ∀ w ∈ u_ws RX1 TX1 3, w ∈ wsX10_glossaryLetter := pq_inu 64 rfl
theorem inu_EX10_glossaryLetter_10 : ∀ w ∈ u_ws RX10 TX10 7, w ∈ wsX10_glossaryLetter := pq_inu 57 rfl
set_option maxHeartbeats 4000000 in
set_option maxRecDepth 100000 in
theorem e_X10_glossaryLetter {l : Launch} {D : va_G} {y : pq_Y} {G : pq_G} (W0 : pq_WT G) {S : pq_N} {a0 : Nat} {x1 : Int32} {x2 : Int32} (k0_ : pq_ok G 10 a0) {r : Int32} {S1 : pq_N} (h : E_X10_glossaryLetter G S a0 x1 x2 = some (r, S1)) (sz : Nat) : Met l yX10_glossaryLetter wsX10_glossaryLetter ({ frames := 4, cells := 0, slots := 0, locals := 95 } : Room) (pq_P D y G S sz [.ref a0, .int x1, .int x2]) (pq_Qi D y G sz r S1) 0 0 (pq_A G sz) := by
  refine pq_enter RX10 3 (by decide) rfl rfl rfl ?_
  intro p e s m below meth c C hsz hr hlk
  subst hsz
  unfold E_X10_glossaryLetter at h
  refine pv_sub (lo1 := [(0, .ref a0), (1, .int x1), (2, .int x2)]) [0, 1, 2] rfl ?_
  refine pv_aload_n C 0 dX10_glossaryLetter_0 rfl rfl ?_
  have k11 := pq_wt (k := 6) W0 k0_ rfl
  refine pv_getr (T := TX10) (N := 7) C 6 inu_EX10_glossaryLetter_10 rfl (by decide) (by decide) (List.mem_of_getElem? (i := 1) rfl) rfl k0_ k11.1 dX10_glossaryLetter_1 ?_
  refine pv_aload_n C 0 dX10_glossaryLetter_4 rfl rfl ?_
  have k12 := pq_wt (k := 0) W0 k0_ rfl
  refine pv_getr (T := TX10) (N := 7) C 0 inu_EX10_glossaryLetter_10 rfl (by decide) (by decide) (List.mem_of_getElem? (i := 2) rfl) rfl k0_ k12.1 dX10_glossaryLetter_5 ?_
  obtain ⟨⟨⟩, S14, e15, h⟩ := pq_bs h
  refine pv_callvV C (ci := 1) rfl (by decide) k11.2 [.ref (pq_r G a0 0)] (fun sz => r_X1_gather W0 k11.2 k12.2 e15 sz) (cwV 1 C.1.2.2.2.2 gX10_glossaryLetter_X1_gather rfl rfl rfl (by decide +kernel) ⟨Nat.le_of_ble_eq_true rfl, Nat.le_of_ble_eq_true rfl⟩) rfl rfl (Nat.le_of_ble_eq_true rfl) dX10_glossaryLetter_8 ⟨Nat.le_of_ble_eq_true rfl, Nat.le_of_ble_eq_true rfl⟩ ?_
  refine pv_iload_n C 1 dX10_glossaryLetter_11 rfl rfl ?_
  refine pv_aload_n C 0 dX10_glossaryLetter_12 rfl rfl ?_
  have k16 := pq_wt (k := 6) W0 k0_ rfl
  refine pv_getr (T := TX10) (N := 7) C 6 inu_EX10_glossaryLetter_10 rfl (by decide) (by decide) (List.mem_of_getElem? (i := 1) rfl) rfl k0_ k16.1 dX10_glossaryLetter_13 ?_
  refine pv_getiN (T := TX1) (N := 3) C 2 inu_EX10_glossaryLetter_1 rfl (by decide) (by decide) (List.mem_of_getElem? (i := 50) rfl) rfl k16.2 dX10_glossaryLetter_16 ?_
  obtain ⟨⟨⟩, S18, e19, h⟩ := pq_bs h
  refine pv_callvS C [.int x1, .int (S14.1 (pq_r G a0 6) 2)] (fun sz => e_X10_needPlace W0  e19 sz) (va_cwS 2 C.1.2.2.2.2 gX10_glossaryLetter_X10_needPlace rfl rfl rfl (by decide +kernel) ⟨Nat.le_of_ble_eq_true rfl, Nat.le_of_ble_eq_true rfl⟩) rfl rfl (Nat.le_of_ble_eq_true rfl) dX10_glossaryLetter_19 ⟨Nat.le_of_ble_eq_true rfl, Nat.le_of_ble_eq_true rfl⟩ ?_
  refine pv_iload_n C 2 dX10_glossaryLetter_22 rfl rfl ?_
  obtain ⟨⟨⟩, S21, e22, h⟩ := pq_bs h
  refine pv_callvS C [.int x2] (fun sz => e_X10_needIndex W0  e22 sz) (va_cwS 1 C.1.2.2.2.2 gX10_glossaryLetter_X10_needIndex rfl rfl rfl (by decide +kernel) ⟨Nat.le_of_ble_eq_true rfl, Nat.le_of_ble_eq_true rfl⟩) rfl rfl (Nat.le_of_ble_eq_true rfl) dX10_glossaryLetter_23 ⟨Nat.le_of_ble_eq_true rfl, Nat.le_of_ble_eq_true rfl⟩ ?_
  refine pv_aload_n C 0 dX10_glossaryLetter_26 rfl rfl ?_
  have k23 := pq_wt (k := 6) W0 k0_ rfl
  refine pv_getr (T := TX10) (N := 7) C 6 inu_EX10_glossaryLetter_10 rfl (by decide) (by decide) (List.mem_of_getElem? (i := 1) rfl) rfl k0_ k23.1 dX10_glossaryLetter_27 ?_
  have k24 := pq_wt (k := 0) W0 k23.2 rfl
  refine pv_getrN (T := TX1) (N := 3) C 0 inu_EX10_glossaryLetter_1 rfl (by decide) (by decide) (List.mem_of_getElem? (i := 48) rfl) rfl k23.2 k24.1 dX10_glossaryLetter_30 ?_
  refine pv_iload_n C 1 dX10_glossaryLetter_33 rfl rfl ?_
  obtain ⟨v25, S26, e27, h⟩ := pq_bs h
  refine pv_calllV C (ci := 7) rfl (by decide) k24.2 [.int x1] (fun sz => r_X7_at W0 k24.2 e27 sz) (cwV 1 C.1.2.2.2.2 gX10_glossaryLetter_X7_at rfl rfl rfl (by decide +kernel) ⟨Nat.le_of_ble_eq_true rfl, Nat.le_of_ble_eq_true rfl⟩) rfl rfl (Nat.le_of_ble_eq_true rfl) dX10_glossaryLetter_34 ⟨Nat.le_of_ble_eq_true rfl, Nat.le_of_ble_eq_true rfl⟩ ?_
  refine pv_iload_n C 2 dX10_glossaryLetter_37 rfl rfl ?_
  obtain ⟨v28, S29, e30, h⟩ := pq_bs h
  refine pv_calliS C [.long v25, .int x2] (fun sz => r_X10_letterIn W0  e30 sz) (va_cwS 2 C.1.2.2.2.2 gX10_glossaryLetter_X10_letterIn rfl rfl rfl (by decide +kernel) ⟨Nat.le_of_ble_eq_true rfl, Nat.le_of_ble_eq_true rfl⟩) rfl rfl (Nat.le_of_ble_eq_true rfl) dX10_glossaryLetter_38 ⟨Nat.le_of_ble_eq_true rfl, Nat.le_of_ble_eq_true rfl⟩ ?_
  exact pv_iret C hr hlk h dX10_glossaryLetter_41
def E_X10_needWord (G : pq_G) (S : pq_N) (a0 : Nat) (x1 : Int32) (x2 : Int32) : Option (Unit × pq_N) := (pq_bd (E_X10_needPamphlet G S a0 x1) fun _ S12 => (if x2 < (0 : Int32) then none else (pq_bd (F_X9_at G S12 (pq_r G a0 0) x1) fun v16 S17 => (if x2 < (S17.1 v16 6) then some ((), S17) else none))))
theorem d_X10_needWord (G : pq_G) (S : pq_N) (a0 : Nat) (x1 : Int32) (x2 : Int32) : E_X10_needWord G S a0 x1 x2 = pq_dr (F_X10_needWord G S a0 x1 x2) := by
  simp only [F_X10_needWord, E_X10_needWord, dr_n, dr_l, dr_r, dr_if, dr_bd, dr_lt, dr_bx, d_X10_needPamphlet]
theorem inu_EX10_needWord_4 : ∀ w ∈ u_ws RX4 TX4 8, w ∈ wsX10_needWord := pq_inu 28 rfl
theorem inu_EX10_needWord_10 : ∀ w ∈ u_ws RX10 TX10 7, w ∈ wsX10_needWord := pq_inu 21 rfl
set_option maxHeartbeats 4000000 in
set_option maxRecDepth 100000 in
theorem e_X10_needWord {l : Launch} {D : va_G} {y : pq_Y} {G : pq_G} (W0 : pq_WT G) {S : pq_N} {a0 : Nat} {x1 : Int32} {x2 : Int32} (k0_ : pq_ok G 10 a0) {S1 : pq_N} (h : E_X10_needWord G S a0 x1 x2 = some ((), S1)) (sz : Nat) : Met l yX10_needWord wsX10_needWord ({ frames := 2, cells := 0, slots := 0, locals := 42 } : Room) (pq_P D y G S sz [.ref a0, .int x1, .int x2]) (pq_Qv D y G sz S1) 0 0 (pq_A G sz) := by
  refine pq_enter RX10 3 (by decide) rfl rfl rfl ?_
  intro p e s m below meth c C hsz hr hlk
  subst hsz
  unfold E_X10_needWord at h
  refine pv_sub (lo1 := [(0, .ref a0), (1, .int x1), (2, .int x2)]) [0, 1, 2] rfl ?_
  refine pv_aload_n C 0 dX10_needWord_0 rfl rfl ?_
  refine pv_iload_n C 1 dX10_needWord_1 rfl rfl ?_
  obtain ⟨⟨⟩, S12, e13, h⟩ := pq_bs h
  refine pv_callvV C (ci := 10) rfl (by decide) k0_ [.int x1] (fun sz => e_X10_needPamphlet W0 k0_ e13 sz) (cwV 1 C.1.2.2.2.2 gX10_needWord_X10_needPamphlet rfl rfl rfl (by decide +kernel) ⟨Nat.le_of_ble_eq_true rfl, Nat.le_of_ble_eq_true rfl⟩) rfl rfl (Nat.le_of_ble_eq_true rfl) dX10_needWord_2 ⟨Nat.le_of_ble_eq_true rfl, Nat.le_of_ble_eq_true rfl⟩ ?_
  refine pv_iload_n C 2 dX10_needWord_5 rfl rfl ?_
  refine pv_if_lt (tgt := 24) C dX10_needWord_6 (by decide) (fun c14 => ?_) (fun c14 => ?_)
  · have h := pq_it c14 h
    cases h
  · have h := pq_if c14 h
    refine pv_iload_n C 2 dX10_needWord_9 rfl rfl ?_
    refine pv_aload_n C 0 dX10_needWord_10 rfl rfl ?_
    have k15 := pq_wt (k := 0) W0 k0_ rfl
    refine pv_getr (T := TX10) (N := 7) C 0 inu_EX10_needWord_10 rfl (by decide) (by decide) (List.mem_of_getElem? (i := 3) rfl) rfl k0_ k15.1 dX10_needWord_11 ?_
    refine pv_iload_n C 1 dX10_needWord_14 rfl rfl ?_
    obtain ⟨v16, S17, e18, h⟩ := pq_bs h
    have k19 := o_X9_at W0 k15.2 e18
    refine pv_callrV C (ci := 9) rfl (by decide) k15.2 [.int x1] (fun sz => r_X9_at W0 k15.2 e18 sz) (cwV 1 C.1.2.2.2.2 gX10_needWord_X9_at rfl rfl rfl (by decide +kernel) ⟨Nat.le_of_ble_eq_true rfl, Nat.le_of_ble_eq_true rfl⟩) rfl rfl (Nat.le_of_ble_eq_true rfl) dX10_needWord_15 ⟨Nat.le_of_ble_eq_true rfl, Nat.le_of_ble_eq_true rfl⟩ ?_
    refine pv_getiN (T := TX4) (N := 8) C 6 inu_EX10_needWord_4 rfl (by decide) (by decide) (List.mem_of_getElem? (i := 22) rfl) rfl k19 dX10_needWord_18 ?_
    refine pv_icmp_lt (tgt := 35) C dX10_needWord_21 (by decide) (fun c20 => ?_) (fun c20 => ?_)
    · have h := pq_it c20 h
      exact pv_vret C hr hlk h dX10_needWord_35
    · have h := pq_if c20 h
      cases h
def E_X10_isSameWord (G : pq_G) (S : pq_N) (a0 : Nat) (x1 : Int32) (x2 : Int32) (x3 : Int32) (x4 : Int32) : Option (Int32 × pq_N) := (pq_bd (E_X10_needWord G S a0 x1 x2) fun _ S12 => (pq_bd (E_X10_needWord G S12 a0 x3 x4) fun _ S15 => (pq_bd (F_X9_at G S15 (pq_r G a0 0) x1) fun v18 S19 => (pq_bd (F_X7_at G S19 (pq_r G v18 0) x2) fun v23 S24 => (pq_bd (F_X9_at G S24 (pq_r G a0 0) x3) fun v27 S28 => (pq_bd (F_X7_at G S28 (pq_r G v27 0) x4) fun v32 S33 => (if (lg_cmp v23 v32) = (0 : Int32) then some ((1 : Int32), S33) else some ((0 : Int32), S33))))))))
theorem d_X10_isSameWord (G : pq_G) (S : pq_N) (a0 : Nat) (x1 : Int32) (x2 : Int32) (x3 : Int32) (x4 : Int32) : E_X10_isSameWord G S a0 x1 x2 x3 x4 = pq_dr (F_X10_isSameWord G S a0 x1 x2 x3 x4) := by
  simp only [F_X10_isSameWord, E_X10_isSameWord, dr_n, dr_l, dr_r, dr_if, dr_bd, dr_lt, dr_bx, d_X10_needWord]
theorem inu_EX10_isSameWord_4 : ∀ w ∈ u_ws RX4 TX4 8, w ∈ wsX10_isSameWord := pq_inu 38 rfl
theorem inu_EX10_isSameWord_10 : ∀ w ∈ u_ws RX10 TX10 7, w ∈ wsX10_isSameWord := pq_inu 31 rfl
set_option maxHeartbeats 4000000 in
set_option maxRecDepth 100000 in
theorem e_X10_isSameWord {l : Launch} {D : va_G} {y : pq_Y} {G : pq_G} (W0 : pq_WT G) {S : pq_N} {a0 : Nat} {x1 : Int32} {x2 : Int32} {x3 : Int32} {x4 : Int32} (k0_ : pq_ok G 10 a0) {r : Int32} {S1 : pq_N} (h : E_X10_isSameWord G S a0 x1 x2 x3 x4 = some (r, S1)) (sz : Nat) : Met l yX10_isSameWord wsX10_isSameWord ({ frames := 3, cells := 0, slots := 0, locals := 64 } : Room) (pq_P D y G S sz [.ref a0, .int x1, .int x2, .int x3, .int x4]) (pq_Qi D y G sz r S1) 0 0 (pq_A G sz) := by
  refine pq_enter RX10 5 (by decide) rfl rfl rfl ?_
  intro p e s m below meth c C hsz hr hlk
  subst hsz
  unfold E_X10_isSameWord at h
  refine pv_sub (lo1 := [(0, .ref a0), (1, .int x1), (2, .int x2), (3, .int x3), (4, .int x4)]) [0, 1, 2, 3, 4] rfl ?_
  refine pv_aload_n C 0 dX10_isSameWord_0 rfl rfl ?_
  refine pv_iload_n C 1 dX10_isSameWord_1 rfl rfl ?_
  refine pv_iload_n C 2 dX10_isSameWord_2 rfl rfl ?_
  obtain ⟨⟨⟩, S12, e13, h⟩ := pq_bs h
  refine pv_callvV C (ci := 10) rfl (by decide) k0_ [.int x1, .int x2] (fun sz => e_X10_needWord W0 k0_ e13 sz) (cwV 2 C.1.2.2.2.2 gX10_isSameWord_X10_needWord rfl rfl rfl (by decide +kernel) ⟨Nat.le_of_ble_eq_true rfl, Nat.le_of_ble_eq_true rfl⟩) rfl rfl (Nat.le_of_ble_eq_true rfl) dX10_isSameWord_3 ⟨Nat.le_of_ble_eq_true rfl, Nat.le_of_ble_eq_true rfl⟩ ?_
  refine pv_aload_n C 0 dX10_isSameWord_6 rfl rfl ?_
  refine pv_iload_n C 3 dX10_isSameWord_7 rfl rfl ?_
  refine pv_iload C 4 dX10_isSameWord_8 rfl ?_
  obtain ⟨⟨⟩, S15, e16, h⟩ := pq_bs h
  refine pv_callvV C (ci := 10) rfl (by decide) k0_ [.int x3, .int x4] (fun sz => e_X10_needWord W0 k0_ e16 sz) (cwV 2 C.1.2.2.2.2 gX10_isSameWord_X10_needWord rfl rfl rfl (by decide +kernel) ⟨Nat.le_of_ble_eq_true rfl, Nat.le_of_ble_eq_true rfl⟩) rfl rfl (Nat.le_of_ble_eq_true rfl) dX10_isSameWord_10 ⟨Nat.le_of_ble_eq_true rfl, Nat.le_of_ble_eq_true rfl⟩ ?_
  refine pv_aload_n C 0 dX10_isSameWord_13 rfl rfl ?_
  have k17 := pq_wt (k := 0) W0 k0_ rfl
  refine pv_getr (T := TX10) (N := 7) C 0 inu_EX10_isSameWord_10 rfl (by decide) (by decide) (List.mem_of_getElem? (i := 1) rfl) rfl k0_ k17.1 dX10_isSameWord_14 ?_
  refine pv_iload_n C 1 dX10_isSameWord_17 rfl rfl ?_
  obtain ⟨v18, S19, e20, h⟩ := pq_bs h
  have k21 := o_X9_at W0 k17.2 e20
  refine pv_callrV C (ci := 9) rfl (by decide) k17.2 [.int x1] (fun sz => r_X9_at W0 k17.2 e20 sz) (cwV 1 C.1.2.2.2.2 gX10_isSameWord_X9_at rfl rfl rfl (by decide +kernel) ⟨Nat.le_of_ble_eq_true rfl, Nat.le_of_ble_eq_true rfl⟩) rfl rfl (Nat.le_of_ble_eq_true rfl) dX10_isSameWord_18 ⟨Nat.le_of_ble_eq_true rfl, Nat.le_of_ble_eq_true rfl⟩ ?_
  have k22 := pq_wt (k := 0) W0 k21 rfl
  refine pv_getrN (T := TX4) (N := 8) C 0 inu_EX10_isSameWord_4 rfl (by decide) (by decide) (List.mem_of_getElem? (i := 3) rfl) rfl k21 k22.1 dX10_isSameWord_21 ?_
  refine pv_iload_n C 2 dX10_isSameWord_24 rfl rfl ?_
  obtain ⟨v23, S24, e25, h⟩ := pq_bs h
  refine pv_calllV C (ci := 7) rfl (by decide) k22.2 [.int x2] (fun sz => r_X7_at W0 k22.2 e25 sz) (cwV 1 C.1.2.2.2.2 gX10_isSameWord_X7_at rfl rfl rfl (by decide +kernel) ⟨Nat.le_of_ble_eq_true rfl, Nat.le_of_ble_eq_true rfl⟩) rfl rfl (Nat.le_of_ble_eq_true rfl) dX10_isSameWord_25 ⟨Nat.le_of_ble_eq_true rfl, Nat.le_of_ble_eq_true rfl⟩ ?_
  refine pv_aload_n C 0 dX10_isSameWord_28 rfl rfl ?_
  have k26 := pq_wt (k := 0) W0 k0_ rfl
  refine pv_getr (T := TX10) (N := 7) C 0 inu_EX10_isSameWord_10 rfl (by decide) (by decide) (List.mem_of_getElem? (i := 1) rfl) rfl k0_ k26.1 dX10_isSameWord_29 ?_
  refine pv_iload_n C 3 dX10_isSameWord_32 rfl rfl ?_
  obtain ⟨v27, S28, e29, h⟩ := pq_bs h
  have k30 := o_X9_at W0 k26.2 e29
  refine pv_callrV C (ci := 9) rfl (by decide) k26.2 [.int x3] (fun sz => r_X9_at W0 k26.2 e29 sz) (cwV 1 C.1.2.2.2.2 gX10_isSameWord_X9_at rfl rfl rfl (by decide +kernel) ⟨Nat.le_of_ble_eq_true rfl, Nat.le_of_ble_eq_true rfl⟩) rfl rfl (Nat.le_of_ble_eq_true rfl) dX10_isSameWord_33 ⟨Nat.le_of_ble_eq_true rfl, Nat.le_of_ble_eq_true rfl⟩ ?_
  have k31 := pq_wt (k := 0) W0 k30 rfl
  refine pv_getrN (T := TX4) (N := 8) C 0 inu_EX10_isSameWord_4 rfl (by decide) (by decide) (List.mem_of_getElem? (i := 3) rfl) rfl k30 k31.1 dX10_isSameWord_36 ?_
  refine pv_iload C 4 dX10_isSameWord_39 rfl ?_
  obtain ⟨v32, S33, e34, h⟩ := pq_bs h
  refine pv_calllV C (ci := 7) rfl (by decide) k31.2 [.int x4] (fun sz => r_X7_at W0 k31.2 e34 sz) (cwV 1 C.1.2.2.2.2 gX10_isSameWord_X7_at rfl rfl rfl (by decide +kernel) ⟨Nat.le_of_ble_eq_true rfl, Nat.le_of_ble_eq_true rfl⟩) rfl rfl (Nat.le_of_ble_eq_true rfl) dX10_isSameWord_41 ⟨Nat.le_of_ble_eq_true rfl, Nat.le_of_ble_eq_true rfl⟩ ?_
  refine pv_lcmp C dX10_isSameWord_44 ?_
  refine pv_if_ne (tgt := 52) C dX10_isSameWord_45 (by decide) (fun c35 => ?_) (fun c35 => ?_)
  · have h := pq_if c35 h
    refine pv_iconst (v := 0) C dX10_isSameWord_52 (by decide) ?_
    exact pv_zret C hr rfl hlk h dX10_isSameWord_53
  · have h := pq_it c35 h
    refine pv_iconst (v := 1) C dX10_isSameWord_48 (by decide) ?_
    refine pv_goto (tgt := 53) C dX10_isSameWord_49 (by decide) ?_
    exact pv_zret C hr rfl hlk h dX10_isSameWord_53
def E_X10_ladderOf (G : pq_G) (S : pq_N) (a0 : Nat) (x1 : Int32) : Option (Int32 × pq_N) := (pq_bd (E_X10_needPamphlet G S a0 x1) fun _ S12 => (pq_bd (F_X3_longest G S12 (pq_r G a0 5) (pq_r G a0 0) x1) fun v16 S17 => some (v16, S17)))
theorem d_X10_ladderOf (G : pq_G) (S : pq_N) (a0 : Nat) (x1 : Int32) : E_X10_ladderOf G S a0 x1 = pq_dr (F_X10_ladderOf G S a0 x1) := by
  simp only [F_X10_ladderOf, E_X10_ladderOf, dr_n, dr_l, dr_r, dr_if, dr_bd, dr_lt, dr_bx, d_X10_needPamphlet]
theorem inu_EX10_ladderOf_10 : ∀ w ∈ u_ws RX10 TX10 7, w ∈ wsX10_ladderOf := pq_inu 50 rfl
set_option maxHeartbeats 4000000 in
set_option maxRecDepth 100000 in
theorem e_X10_ladderOf {l : Launch} {D : va_G} {y : pq_Y} {G : pq_G} (W0 : pq_WT G) {S : pq_N} {a0 : Nat} {x1 : Int32} (k0_ : pq_ok G 10 a0) {r : Int32} {S1 : pq_N} (h : E_X10_ladderOf G S a0 x1 = some (r, S1)) (sz : Nat) : Met l yX10_ladderOf wsX10_ladderOf ({ frames := 3, cells := 0, slots := 0, locals := 68 } : Room) (pq_P D y G S sz [.ref a0, .int x1]) (pq_Qi D y G sz r S1) 0 0 (pq_A G sz) := by
  refine pq_enter RX10 2 (by decide) rfl rfl rfl ?_
  intro p e s m below meth c C hsz hr hlk
  subst hsz
  unfold E_X10_ladderOf at h
  refine pv_sub (lo1 := [(0, .ref a0), (1, .int x1)]) [0, 1] rfl ?_
  refine pv_aload_n C 0 dX10_ladderOf_0 rfl rfl ?_
  refine pv_iload_n C 1 dX10_ladderOf_1 rfl rfl ?_
  obtain ⟨⟨⟩, S12, e13, h⟩ := pq_bs h
  refine pv_callvV C (ci := 10) rfl (by decide) k0_ [.int x1] (fun sz => e_X10_needPamphlet W0 k0_ e13 sz) (cwV 1 C.1.2.2.2.2 gX10_ladderOf_X10_needPamphlet rfl rfl rfl (by decide +kernel) ⟨Nat.le_of_ble_eq_true rfl, Nat.le_of_ble_eq_true rfl⟩) rfl rfl (Nat.le_of_ble_eq_true rfl) dX10_ladderOf_2 ⟨Nat.le_of_ble_eq_true rfl, Nat.le_of_ble_eq_true rfl⟩ ?_
  refine pv_aload_n C 0 dX10_ladderOf_5 rfl rfl ?_
  have k14 := pq_wt (k := 5) W0 k0_ rfl
  refine pv_getr (T := TX10) (N := 7) C 5 inu_EX10_ladderOf_10 rfl (by decide) (by decide) (List.mem_of_getElem? (i := 1) rfl) rfl k0_ k14.1 dX10_ladderOf_6 ?_
  refine pv_aload_n C 0 dX10_ladderOf_9 rfl rfl ?_
  have k15 := pq_wt (k := 0) W0 k0_ rfl
  refine pv_getr (T := TX10) (N := 7) C 0 inu_EX10_ladderOf_10 rfl (by decide) (by decide) (List.mem_of_getElem? (i := 2) rfl) rfl k0_ k15.1 dX10_ladderOf_10 ?_
  refine pv_iload_n C 1 dX10_ladderOf_13 rfl rfl ?_
  obtain ⟨v16, S17, e18, h⟩ := pq_bs h
  refine pv_calliV C (ci := 3) rfl (by decide) k14.2 [.ref (pq_r G a0 0), .int x1] (fun sz => r_X3_longest W0 k14.2 k15.2 e18 sz) (cwV 2 C.1.2.2.2.2 gX10_ladderOf_X3_longest rfl rfl rfl (by decide +kernel) ⟨Nat.le_of_ble_eq_true rfl, Nat.le_of_ble_eq_true rfl⟩) rfl rfl (Nat.le_of_ble_eq_true rfl) dX10_ladderOf_14 ⟨Nat.le_of_ble_eq_true rfl, Nat.le_of_ble_eq_true rfl⟩ ?_
  exact pv_iret C hr hlk h dX10_ladderOf_17
def E_X10_laddersOf (G : pq_G) (S : pq_N) (a0 : Nat) (x1 : Int32) : Option (Int32 × pq_N) := (pq_bd (E_X10_needPamphlet G S a0 x1) fun _ S12 => (pq_bd (F_X3_fromTheGround G S12 (pq_r G a0 5) (pq_r G a0 0) x1) fun v16 S17 => some (v16, S17)))
theorem d_X10_laddersOf (G : pq_G) (S : pq_N) (a0 : Nat) (x1 : Int32) : E_X10_laddersOf G S a0 x1 = pq_dr (F_X10_laddersOf G S a0 x1) := by
  simp only [F_X10_laddersOf, E_X10_laddersOf, dr_n, dr_l, dr_r, dr_if, dr_bd, dr_lt, dr_bx, d_X10_needPamphlet]
theorem inu_EX10_laddersOf_10 : ∀ w ∈ u_ws RX10 TX10 7, w ∈ wsX10_laddersOf := pq_inu 46 rfl
set_option maxHeartbeats 4000000 in
set_option maxRecDepth 100000 in
theorem e_X10_laddersOf {l : Launch} {D : va_G} {y : pq_Y} {G : pq_G} (W0 : pq_WT G) {S : pq_N} {a0 : Nat} {x1 : Int32} (k0_ : pq_ok G 10 a0) {r : Int32} {S1 : pq_N} (h : E_X10_laddersOf G S a0 x1 = some (r, S1)) (sz : Nat) : Met l yX10_laddersOf wsX10_laddersOf ({ frames := 3, cells := 0, slots := 0, locals := 68 } : Room) (pq_P D y G S sz [.ref a0, .int x1]) (pq_Qi D y G sz r S1) 0 0 (pq_A G sz) := by
  refine pq_enter RX10 2 (by decide) rfl rfl rfl ?_
  intro p e s m below meth c C hsz hr hlk
  subst hsz
  unfold E_X10_laddersOf at h
  refine pv_sub (lo1 := [(0, .ref a0), (1, .int x1)]) [0, 1] rfl ?_
  refine pv_aload_n C 0 dX10_laddersOf_0 rfl rfl ?_
  refine pv_iload_n C 1 dX10_laddersOf_1 rfl rfl ?_
  obtain ⟨⟨⟩, S12, e13, h⟩ := pq_bs h
  refine pv_callvV C (ci := 10) rfl (by decide) k0_ [.int x1] (fun sz => e_X10_needPamphlet W0 k0_ e13 sz) (cwV 1 C.1.2.2.2.2 gX10_laddersOf_X10_needPamphlet rfl rfl rfl (by decide +kernel) ⟨Nat.le_of_ble_eq_true rfl, Nat.le_of_ble_eq_true rfl⟩) rfl rfl (Nat.le_of_ble_eq_true rfl) dX10_laddersOf_2 ⟨Nat.le_of_ble_eq_true rfl, Nat.le_of_ble_eq_true rfl⟩ ?_
  refine pv_aload_n C 0 dX10_laddersOf_5 rfl rfl ?_
  have k14 := pq_wt (k := 5) W0 k0_ rfl
  refine pv_getr (T := TX10) (N := 7) C 5 inu_EX10_laddersOf_10 rfl (by decide) (by decide) (List.mem_of_getElem? (i := 1) rfl) rfl k0_ k14.1 dX10_laddersOf_6 ?_
  refine pv_aload_n C 0 dX10_laddersOf_9 rfl rfl ?_
  have k15 := pq_wt (k := 0) W0 k0_ rfl
  refine pv_getr (T := TX10) (N := 7) C 0 inu_EX10_laddersOf_10 rfl (by decide) (by decide) (List.mem_of_getElem? (i := 2) rfl) rfl k0_ k15.1 dX10_laddersOf_10 ?_
  refine pv_iload_n C 1 dX10_laddersOf_13 rfl rfl ?_
  obtain ⟨v16, S17, e18, h⟩ := pq_bs h
  refine pv_calliV C (ci := 3) rfl (by decide) k14.2 [.ref (pq_r G a0 0), .int x1] (fun sz => r_X3_fromTheGround W0 k14.2 k15.2 e18 sz) (cwV 2 C.1.2.2.2.2 gX10_laddersOf_X3_fromTheGround rfl rfl rfl (by decide +kernel) ⟨Nat.le_of_ble_eq_true rfl, Nat.le_of_ble_eq_true rfl⟩) rfl rfl (Nat.le_of_ble_eq_true rfl) dX10_laddersOf_14 ⟨Nat.le_of_ble_eq_true rfl, Nat.le_of_ble_eq_true rfl⟩ ?_
  exact pv_iret C hr hlk h dX10_laddersOf_17
def E_X10_lengthOf (G : pq_G) (S : pq_N) (a0 : Nat) (x1 : Int32) (x2 : Int32) : Option (Int32 × pq_N) := (pq_bd (E_X10_needQuotation G S a0 x1 x2) fun _ S12 => (pq_bd (F_X9_at G S12 (pq_r G a0 0) x1) fun v15 S16 => (pq_bd (F_X7_number G S16 (pq_r G v15 3) x2) fun v20 S21 => some (v20, S21))))
theorem d_X10_lengthOf (G : pq_G) (S : pq_N) (a0 : Nat) (x1 : Int32) (x2 : Int32) : E_X10_lengthOf G S a0 x1 x2 = pq_dr (F_X10_lengthOf G S a0 x1 x2) := by
  simp only [F_X10_lengthOf, E_X10_lengthOf, dr_n, dr_l, dr_r, dr_if, dr_bd, dr_lt, dr_bx, d_X10_needQuotation]
theorem inu_EX10_lengthOf_4 : ∀ w ∈ u_ws RX4 TX4 8, w ∈ wsX10_lengthOf := pq_inu 38 rfl
theorem inu_EX10_lengthOf_10 : ∀ w ∈ u_ws RX10 TX10 7, w ∈ wsX10_lengthOf := pq_inu 31 rfl
set_option maxHeartbeats 4000000 in
set_option maxRecDepth 100000 in
theorem e_X10_lengthOf {l : Launch} {D : va_G} {y : pq_Y} {G : pq_G} (W0 : pq_WT G) {S : pq_N} {a0 : Nat} {x1 : Int32} {x2 : Int32} (k0_ : pq_ok G 10 a0) {r : Int32} {S1 : pq_N} (h : E_X10_lengthOf G S a0 x1 x2 = some (r, S1)) (sz : Nat) : Met l yX10_lengthOf wsX10_lengthOf ({ frames := 3, cells := 0, slots := 0, locals := 64 } : Room) (pq_P D y G S sz [.ref a0, .int x1, .int x2]) (pq_Qi D y G sz r S1) 0 0 (pq_A G sz) := by
  refine pq_enter RX10 3 (by decide) rfl rfl rfl ?_
  intro p e s m below meth c C hsz hr hlk
  subst hsz
  unfold E_X10_lengthOf at h
  refine pv_sub (lo1 := [(0, .ref a0), (1, .int x1), (2, .int x2)]) [0, 1, 2] rfl ?_
  refine pv_aload_n C 0 dX10_lengthOf_0 rfl rfl ?_
  refine pv_iload_n C 1 dX10_lengthOf_1 rfl rfl ?_
  refine pv_iload_n C 2 dX10_lengthOf_2 rfl rfl ?_
  obtain ⟨⟨⟩, S12, e13, h⟩ := pq_bs h
  refine pv_callvV C (ci := 10) rfl (by decide) k0_ [.int x1, .int x2] (fun sz => e_X10_needQuotation W0 k0_ e13 sz) (cwV 2 C.1.2.2.2.2 gX10_lengthOf_X10_needQuotation rfl rfl rfl (by decide +kernel) ⟨Nat.le_of_ble_eq_true rfl, Nat.le_of_ble_eq_true rfl⟩) rfl rfl (Nat.le_of_ble_eq_true rfl) dX10_lengthOf_3 ⟨Nat.le_of_ble_eq_true rfl, Nat.le_of_ble_eq_true rfl⟩ ?_
  refine pv_aload_n C 0 dX10_lengthOf_6 rfl rfl ?_
  have k14 := pq_wt (k := 0) W0 k0_ rfl
  refine pv_getr (T := TX10) (N := 7) C 0 inu_EX10_lengthOf_10 rfl (by decide) (by decide) (List.mem_of_getElem? (i := 1) rfl) rfl k0_ k14.1 dX10_lengthOf_7 ?_
  refine pv_iload_n C 1 dX10_lengthOf_10 rfl rfl ?_
  obtain ⟨v15, S16, e17, h⟩ := pq_bs h
  have k18 := o_X9_at W0 k14.2 e17
  refine pv_callrV C (ci := 9) rfl (by decide) k14.2 [.int x1] (fun sz => r_X9_at W0 k14.2 e17 sz) (cwV 1 C.1.2.2.2.2 gX10_lengthOf_X9_at rfl rfl rfl (by decide +kernel) ⟨Nat.le_of_ble_eq_true rfl, Nat.le_of_ble_eq_true rfl⟩) rfl rfl (Nat.le_of_ble_eq_true rfl) dX10_lengthOf_11 ⟨Nat.le_of_ble_eq_true rfl, Nat.le_of_ble_eq_true rfl⟩ ?_
  have k19 := pq_wt (k := 3) W0 k18 rfl
  refine pv_getrN (T := TX4) (N := 8) C 3 inu_EX10_lengthOf_4 rfl (by decide) (by decide) (List.mem_of_getElem? (i := 12) rfl) rfl k18 k19.1 dX10_lengthOf_14 ?_
  refine pv_iload_n C 2 dX10_lengthOf_17 rfl rfl ?_
  obtain ⟨v20, S21, e22, h⟩ := pq_bs h
  refine pv_calliV C (ci := 7) rfl (by decide) k19.2 [.int x2] (fun sz => r_X7_number W0 k19.2 e22 sz) (cwV 1 C.1.2.2.2.2 gX10_lengthOf_X7_number rfl rfl rfl (by decide +kernel) ⟨Nat.le_of_ble_eq_true rfl, Nat.le_of_ble_eq_true rfl⟩) rfl rfl (Nat.le_of_ble_eq_true rfl) dX10_lengthOf_18 ⟨Nat.le_of_ble_eq_true rfl, Nat.le_of_ble_eq_true rfl⟩ ?_
  exact pv_iret C hr hlk h dX10_lengthOf_21
def E_X10_letterOf (G : pq_G) (S : pq_N) (a0 : Nat) (x1 : Int32) (x2 : Int32) (x3 : Int32) : Option (Int32 × pq_N) := (pq_bd (E_X10_needWord G S a0 x1 x2) fun _ S12 => (pq_bd (E_X10_needIndex G S12 x3) fun _ S15 => (pq_bd (F_X9_at G S15 (pq_r G a0 0) x1) fun v18 S19 => (pq_bd (F_X7_at G S19 (pq_r G v18 0) x2) fun v23 S24 => (pq_bd (F_X10_letterIn G S24 v23 x3) fun v26 S27 => some (v26, S27))))))
theorem d_X10_letterOf (G : pq_G) (S : pq_N) (a0 : Nat) (x1 : Int32) (x2 : Int32) (x3 : Int32) : E_X10_letterOf G S a0 x1 x2 x3 = pq_dr (F_X10_letterOf G S a0 x1 x2 x3) := by
  simp only [F_X10_letterOf, E_X10_letterOf, dr_n, dr_l, dr_r, dr_if, dr_bd, dr_lt, dr_bx, d_X10_needWord, d_X10_needIndex]
theorem inu_EX10_letterOf_4 : ∀ w ∈ u_ws RX4 TX4 8, w ∈ wsX10_letterOf := pq_inu 44 rfl
theorem inu_EX10_letterOf_10 : ∀ w ∈ u_ws RX10 TX10 7, w ∈ wsX10_letterOf := pq_inu 37 rfl
set_option maxHeartbeats 4000000 in
set_option maxRecDepth 100000 in
theorem e_X10_letterOf {l : Launch} {D : va_G} {y : pq_Y} {G : pq_G} (W0 : pq_WT G) {S : pq_N} {a0 : Nat} {x1 : Int32} {x2 : Int32} {x3 : Int32} (k0_ : pq_ok G 10 a0) {r : Int32} {S1 : pq_N} (h : E_X10_letterOf G S a0 x1 x2 x3 = some (r, S1)) (sz : Nat) : Met l yX10_letterOf wsX10_letterOf ({ frames := 3, cells := 0, slots := 0, locals := 64 } : Room) (pq_P D y G S sz [.ref a0, .int x1, .int x2, .int x3]) (pq_Qi D y G sz r S1) 0 0 (pq_A G sz) := by
  refine pq_enter RX10 4 (by decide) rfl rfl rfl ?_
  intro p e s m below meth c C hsz hr hlk
  subst hsz
  unfold E_X10_letterOf at h
  refine pv_sub (lo1 := [(0, .ref a0), (1, .int x1), (2, .int x2), (3, .int x3)]) [0, 1, 2, 3] rfl ?_
  refine pv_aload_n C 0 dX10_letterOf_0 rfl rfl ?_
  refine pv_iload_n C 1 dX10_letterOf_1 rfl rfl ?_
  refine pv_iload_n C 2 dX10_letterOf_2 rfl rfl ?_
  obtain ⟨⟨⟩, S12, e13, h⟩ := pq_bs h
  refine pv_callvV C (ci := 10) rfl (by decide) k0_ [.int x1, .int x2] (fun sz => e_X10_needWord W0 k0_ e13 sz) (cwV 2 C.1.2.2.2.2 gX10_letterOf_X10_needWord rfl rfl rfl (by decide +kernel) ⟨Nat.le_of_ble_eq_true rfl, Nat.le_of_ble_eq_true rfl⟩) rfl rfl (Nat.le_of_ble_eq_true rfl) dX10_letterOf_3 ⟨Nat.le_of_ble_eq_true rfl, Nat.le_of_ble_eq_true rfl⟩ ?_
  refine pv_iload_n C 3 dX10_letterOf_6 rfl rfl ?_
  obtain ⟨⟨⟩, S15, e16, h⟩ := pq_bs h
  refine pv_callvS C [.int x3] (fun sz => e_X10_needIndex W0  e16 sz) (va_cwS 1 C.1.2.2.2.2 gX10_letterOf_X10_needIndex rfl rfl rfl (by decide +kernel) ⟨Nat.le_of_ble_eq_true rfl, Nat.le_of_ble_eq_true rfl⟩) rfl rfl (Nat.le_of_ble_eq_true rfl) dX10_letterOf_7 ⟨Nat.le_of_ble_eq_true rfl, Nat.le_of_ble_eq_true rfl⟩ ?_
  refine pv_aload_n C 0 dX10_letterOf_10 rfl rfl ?_
  have k17 := pq_wt (k := 0) W0 k0_ rfl
  refine pv_getr (T := TX10) (N := 7) C 0 inu_EX10_letterOf_10 rfl (by decide) (by decide) (List.mem_of_getElem? (i := 1) rfl) rfl k0_ k17.1 dX10_letterOf_11 ?_
  refine pv_iload_n C 1 dX10_letterOf_14 rfl rfl ?_
  obtain ⟨v18, S19, e20, h⟩ := pq_bs h
  have k21 := o_X9_at W0 k17.2 e20
  refine pv_callrV C (ci := 9) rfl (by decide) k17.2 [.int x1] (fun sz => r_X9_at W0 k17.2 e20 sz) (cwV 1 C.1.2.2.2.2 gX10_letterOf_X9_at rfl rfl rfl (by decide +kernel) ⟨Nat.le_of_ble_eq_true rfl, Nat.le_of_ble_eq_true rfl⟩) rfl rfl (Nat.le_of_ble_eq_true rfl) dX10_letterOf_15 ⟨Nat.le_of_ble_eq_true rfl, Nat.le_of_ble_eq_true rfl⟩ ?_
  have k22 := pq_wt (k := 0) W0 k21 rfl
  refine pv_getrN (T := TX4) (N := 8) C 0 inu_EX10_letterOf_4 rfl (by decide) (by decide) (List.mem_of_getElem? (i := 3) rfl) rfl k21 k22.1 dX10_letterOf_18 ?_
  refine pv_iload_n C 2 dX10_letterOf_21 rfl rfl ?_
  obtain ⟨v23, S24, e25, h⟩ := pq_bs h
  refine pv_calllV C (ci := 7) rfl (by decide) k22.2 [.int x2] (fun sz => r_X7_at W0 k22.2 e25 sz) (cwV 1 C.1.2.2.2.2 gX10_letterOf_X7_at rfl rfl rfl (by decide +kernel) ⟨Nat.le_of_ble_eq_true rfl, Nat.le_of_ble_eq_true rfl⟩) rfl rfl (Nat.le_of_ble_eq_true rfl) dX10_letterOf_22 ⟨Nat.le_of_ble_eq_true rfl, Nat.le_of_ble_eq_true rfl⟩ ?_
  refine pv_iload_n C 3 dX10_letterOf_25 rfl rfl ?_
  obtain ⟨v26, S27, e28, h⟩ := pq_bs h
  refine pv_calliS C [.long v23, .int x3] (fun sz => r_X10_letterIn W0  e28 sz) (va_cwS 2 C.1.2.2.2.2 gX10_letterOf_X10_letterIn rfl rfl rfl (by decide +kernel) ⟨Nat.le_of_ble_eq_true rfl, Nat.le_of_ble_eq_true rfl⟩) rfl rfl (Nat.le_of_ble_eq_true rfl) dX10_letterOf_26 ⟨Nat.le_of_ble_eq_true rfl, Nat.le_of_ble_eq_true rfl⟩ ?_
  exact pv_iret C hr hlk h dX10_letterOf_29
def E_X10_mend (G : pq_G) (S : pq_N) (a0 : Nat) (x1 : Int32) (x2 : Int32) : Option (Int32 × pq_N) := (pq_bd (E_X10_needQuotation G S a0 x1 x2) fun _ S12 => (pq_bd (F_X5_find G S12 (pq_r G a0 4) (pq_r G a0 0) x1 x2) fun v16 S17 => (if v16 = (0 : Int32) then none else (pq_bd (F_X5_isRoomFor G S17 (pq_r G a0 4) (pq_r G a0 0) x1 x2) fun v22 S23 => (if v22 = (0 : Int32) then none else (pq_bd (F_X2_save G S23 (pq_r G a0 1) (pq_r G a0 0)) fun _ S29 => (pq_bd (F_X5_putRight G S29 (pq_r G a0 4) (pq_r G a0 0) x1 x2) fun _ S34 => some (v16, S34))))))))
theorem d_X10_mend (G : pq_G) (S : pq_N) (a0 : Nat) (x1 : Int32) (x2 : Int32) : E_X10_mend G S a0 x1 x2 = pq_dr (F_X10_mend G S a0 x1 x2) := by
  simp only [F_X10_mend, E_X10_mend, dr_n, dr_l, dr_r, dr_if, dr_bd, dr_lt, dr_bx, d_X10_needQuotation]
theorem inu_EX10_mend_10 : ∀ w ∈ u_ws RX10 TX10 7, w ∈ wsX10_mend := pq_inu 135 rfl
set_option maxHeartbeats 4000000 in
set_option maxRecDepth 100000 in
theorem e_X10_mend {l : Launch} {D : va_G} {y : pq_Y} {G : pq_G} (W0 : pq_WT G) {S : pq_N} {a0 : Nat} {x1 : Int32} {x2 : Int32} (k0_ : pq_ok G 10 a0) {r : Int32} {S1 : pq_N} (h : E_X10_mend G S a0 x1 x2 = some (r, S1)) (sz : Nat) : Met l yX10_mend wsX10_mend ({ frames := 5, cells := 0, slots := 0, locals := 113 } : Room) (pq_P D y G S sz [.ref a0, .int x1, .int x2]) (pq_Qi D y G sz r S1) 0 0 (pq_A G sz) := by
  refine pq_enter RX10 4 (by decide) rfl rfl rfl ?_
  intro p e s m below meth c C hsz hr hlk
  subst hsz
  unfold E_X10_mend at h
  refine pv_sub (lo1 := [(0, .ref a0), (1, .int x1), (2, .int x2)]) [0, 1, 2] rfl ?_
  refine pv_aload_n C 0 dX10_mend_0 rfl rfl ?_
  refine pv_iload_n C 1 dX10_mend_1 rfl rfl ?_
  refine pv_iload_n C 2 dX10_mend_2 rfl rfl ?_
  obtain ⟨⟨⟩, S12, e13, h⟩ := pq_bs h
  refine pv_callvV C (ci := 10) rfl (by decide) k0_ [.int x1, .int x2] (fun sz => e_X10_needQuotation W0 k0_ e13 sz) (cwV 2 C.1.2.2.2.2 gX10_mend_X10_needQuotation rfl rfl rfl (by decide +kernel) ⟨Nat.le_of_ble_eq_true rfl, Nat.le_of_ble_eq_true rfl⟩) rfl rfl (Nat.le_of_ble_eq_true rfl) dX10_mend_3 ⟨Nat.le_of_ble_eq_true rfl, Nat.le_of_ble_eq_true rfl⟩ ?_
  refine pv_aload_n C 0 dX10_mend_6 rfl rfl ?_
  have k14 := pq_wt (k := 4) W0 k0_ rfl
  refine pv_getr (T := TX10) (N := 7) C 4 inu_EX10_mend_10 rfl (by decide) (by decide) (List.mem_of_getElem? (i := 3) rfl) rfl k0_ k14.1 dX10_mend_7 ?_
  refine pv_aload_n C 0 dX10_mend_10 rfl rfl ?_
  have k15 := pq_wt (k := 0) W0 k0_ rfl
  refine pv_getr (T := TX10) (N := 7) C 0 inu_EX10_mend_10 rfl (by decide) (by decide) (List.mem_of_getElem? (i := 4) rfl) rfl k0_ k15.1 dX10_mend_11 ?_
  refine pv_iload_n C 1 dX10_mend_14 rfl rfl ?_
  refine pv_iload_n C 2 dX10_mend_15 rfl rfl ?_
  obtain ⟨v16, S17, e18, h⟩ := pq_bs h
  refine pv_calliV C (ci := 5) rfl (by decide) k14.2 [.ref (pq_r G a0 0), .int x1, .int x2] (fun sz => r_X5_find W0 k14.2 k15.2 e18 sz) (cwV 3 C.1.2.2.2.2 gX10_mend_X5_find rfl rfl rfl (by decide +kernel) ⟨Nat.le_of_ble_eq_true rfl, Nat.le_of_ble_eq_true rfl⟩) rfl rfl (Nat.le_of_ble_eq_true rfl) dX10_mend_16 ⟨Nat.le_of_ble_eq_true rfl, Nat.le_of_ble_eq_true rfl⟩ ?_
  refine pv_istore_n C [(3, .int v16), (0, .ref a0), (1, .int x1), (2, .int x2)] dX10_mend_19 rfl (by decide) rfl ?_
  refine pv_iload_n C 0 dX10_mend_20 rfl rfl ?_
  refine pv_if_ne (tgt := 34) C dX10_mend_21 (by decide) (fun c19 => ?_) (fun c19 => ?_)
  · have h := pq_if c19 h
    refine pv_aload_n C 1 dX10_mend_34 rfl rfl ?_
    have k20 := pq_wt (k := 4) W0 k0_ rfl
    refine pv_getr (T := TX10) (N := 7) C 4 inu_EX10_mend_10 rfl (by decide) (by decide) (List.mem_of_getElem? (i := 3) rfl) rfl k0_ k20.1 dX10_mend_35 ?_
    refine pv_aload_n C 1 dX10_mend_38 rfl rfl ?_
    have k21 := pq_wt (k := 0) W0 k0_ rfl
    refine pv_getr (T := TX10) (N := 7) C 0 inu_EX10_mend_10 rfl (by decide) (by decide) (List.mem_of_getElem? (i := 4) rfl) rfl k0_ k21.1 dX10_mend_39 ?_
    refine pv_iload_n C 2 dX10_mend_42 rfl rfl ?_
    refine pv_iload_n C 3 dX10_mend_43 rfl rfl ?_
    obtain ⟨v22, S23, e24, h⟩ := pq_bs h
    refine pv_calliV C (ci := 5) rfl (by decide) k20.2 [.ref (pq_r G a0 0), .int x1, .int x2] (fun sz => r_X5_isRoomFor W0 k20.2 k21.2 e24 sz) (cwV 3 C.1.2.2.2.2 gX10_mend_X5_isRoomFor rfl rfl rfl (by decide +kernel) ⟨Nat.le_of_ble_eq_true rfl, Nat.le_of_ble_eq_true rfl⟩) rfl rfl (Nat.le_of_ble_eq_true rfl) dX10_mend_44 ⟨Nat.le_of_ble_eq_true rfl, Nat.le_of_ble_eq_true rfl⟩ ?_
    refine pv_if_ne (tgt := 60) C dX10_mend_47 (by decide) (fun c25 => ?_) (fun c25 => ?_)
    · have h := pq_if c25 h
      refine pv_aload_n C 1 dX10_mend_60 rfl rfl ?_
      have k26 := pq_wt (k := 1) W0 k0_ rfl
      refine pv_getr (T := TX10) (N := 7) C 1 inu_EX10_mend_10 rfl (by decide) (by decide) (List.mem_of_getElem? (i := 5) rfl) rfl k0_ k26.1 dX10_mend_61 ?_
      refine pv_aload_n C 1 dX10_mend_64 rfl rfl ?_
      have k27 := pq_wt (k := 0) W0 k0_ rfl
      refine pv_getr (T := TX10) (N := 7) C 0 inu_EX10_mend_10 rfl (by decide) (by decide) (List.mem_of_getElem? (i := 4) rfl) rfl k0_ k27.1 dX10_mend_65 ?_
      obtain ⟨⟨⟩, S29, e30, h⟩ := pq_bs h
      refine pv_callvV C (ci := 2) rfl (by decide) k26.2 [.ref (pq_r G a0 0)] (fun sz => r_X2_save W0 k26.2 k27.2 e30 sz) (cwV 1 C.1.2.2.2.2 gX10_mend_X2_save rfl rfl rfl (by decide +kernel) ⟨Nat.le_of_ble_eq_true rfl, Nat.le_of_ble_eq_true rfl⟩) rfl rfl (Nat.le_of_ble_eq_true rfl) dX10_mend_68 ⟨Nat.le_of_ble_eq_true rfl, Nat.le_of_ble_eq_true rfl⟩ ?_
      refine pv_aload_n C 1 dX10_mend_71 rfl rfl ?_
      have k31 := pq_wt (k := 4) W0 k0_ rfl
      refine pv_getr (T := TX10) (N := 7) C 4 inu_EX10_mend_10 rfl (by decide) (by decide) (List.mem_of_getElem? (i := 3) rfl) rfl k0_ k31.1 dX10_mend_72 ?_
      refine pv_aload_n C 1 dX10_mend_75 rfl rfl ?_
      have k32 := pq_wt (k := 0) W0 k0_ rfl
      refine pv_getr (T := TX10) (N := 7) C 0 inu_EX10_mend_10 rfl (by decide) (by decide) (List.mem_of_getElem? (i := 4) rfl) rfl k0_ k32.1 dX10_mend_76 ?_
      refine pv_iload_n C 2 dX10_mend_79 rfl rfl ?_
      refine pv_iload_n C 3 dX10_mend_80 rfl rfl ?_
      obtain ⟨⟨⟩, S34, e35, h⟩ := pq_bs h
      refine pv_callvV C (ci := 5) rfl (by decide) k31.2 [.ref (pq_r G a0 0), .int x1, .int x2] (fun sz => r_X5_putRight W0 k31.2 k32.2 e35 sz) (cwV 3 C.1.2.2.2.2 gX10_mend_X5_putRight rfl rfl rfl (by decide +kernel) ⟨Nat.le_of_ble_eq_true rfl, Nat.le_of_ble_eq_true rfl⟩) rfl rfl (Nat.le_of_ble_eq_true rfl) dX10_mend_81 ⟨Nat.le_of_ble_eq_true rfl, Nat.le_of_ble_eq_true rfl⟩ ?_
      refine pv_iload_n C 0 dX10_mend_84 rfl rfl ?_
      exact pv_iret C hr hlk h dX10_mend_85
    · have h := pq_it c25 h
      cases h
  · have h := pq_it c19 h
    cases h
def E_X10_originOf (G : pq_G) (S : pq_N) (a0 : Nat) (x1 : Int32) (x2 : Int32) : Option (Int32 × pq_N) := (pq_bd (E_X10_needQuotation G S a0 x1 x2) fun _ S12 => (pq_bd (F_X5_trace G S12 (pq_r G a0 4) (pq_r G a0 0) x1 x2) fun _ S17 => some ((S17.1 (pq_r G a0 4) 1), S17)))
theorem d_X10_originOf (G : pq_G) (S : pq_N) (a0 : Nat) (x1 : Int32) (x2 : Int32) : E_X10_originOf G S a0 x1 x2 = pq_dr (F_X10_originOf G S a0 x1 x2) := by
  simp only [F_X10_originOf, E_X10_originOf, dr_n, dr_l, dr_r, dr_if, dr_bd, dr_lt, dr_bx, d_X10_needQuotation]
theorem inu_EX10_originOf_5 : ∀ w ∈ u_ws RX5 TX5 3, w ∈ wsX10_originOf := pq_inu 99 rfl
theorem inu_EX10_originOf_10 : ∀ w ∈ u_ws RX10 TX10 7, w ∈ wsX10_originOf := pq_inu 92 rfl
set_option maxHeartbeats 4000000 in
set_option maxRecDepth 100000 in
theorem e_X10_originOf {l : Launch} {D : va_G} {y : pq_Y} {G : pq_G} (W0 : pq_WT G) {S : pq_N} {a0 : Nat} {x1 : Int32} {x2 : Int32} (k0_ : pq_ok G 10 a0) {r : Int32} {S1 : pq_N} (h : E_X10_originOf G S a0 x1 x2 = some (r, S1)) (sz : Nat) : Met l yX10_originOf wsX10_originOf ({ frames := 6, cells := 0, slots := 0, locals := 152 } : Room) (pq_P D y G S sz [.ref a0, .int x1, .int x2]) (pq_Qi D y G sz r S1) 0 0 (pq_A G sz) := by
  refine pq_enter RX10 3 (by decide) rfl rfl rfl ?_
  intro p e s m below meth c C hsz hr hlk
  subst hsz
  unfold E_X10_originOf at h
  refine pv_sub (lo1 := [(0, .ref a0), (1, .int x1), (2, .int x2)]) [0, 1, 2] rfl ?_
  refine pv_aload_n C 0 dX10_originOf_0 rfl rfl ?_
  refine pv_iload_n C 1 dX10_originOf_1 rfl rfl ?_
  refine pv_iload_n C 2 dX10_originOf_2 rfl rfl ?_
  obtain ⟨⟨⟩, S12, e13, h⟩ := pq_bs h
  refine pv_callvV C (ci := 10) rfl (by decide) k0_ [.int x1, .int x2] (fun sz => e_X10_needQuotation W0 k0_ e13 sz) (cwV 2 C.1.2.2.2.2 gX10_originOf_X10_needQuotation rfl rfl rfl (by decide +kernel) ⟨Nat.le_of_ble_eq_true rfl, Nat.le_of_ble_eq_true rfl⟩) rfl rfl (Nat.le_of_ble_eq_true rfl) dX10_originOf_3 ⟨Nat.le_of_ble_eq_true rfl, Nat.le_of_ble_eq_true rfl⟩ ?_
  refine pv_aload_n C 0 dX10_originOf_6 rfl rfl ?_
  have k14 := pq_wt (k := 4) W0 k0_ rfl
  refine pv_getr (T := TX10) (N := 7) C 4 inu_EX10_originOf_10 rfl (by decide) (by decide) (List.mem_of_getElem? (i := 1) rfl) rfl k0_ k14.1 dX10_originOf_7 ?_
  refine pv_aload_n C 0 dX10_originOf_10 rfl rfl ?_
  have k15 := pq_wt (k := 0) W0 k0_ rfl
  refine pv_getr (T := TX10) (N := 7) C 0 inu_EX10_originOf_10 rfl (by decide) (by decide) (List.mem_of_getElem? (i := 2) rfl) rfl k0_ k15.1 dX10_originOf_11 ?_
  refine pv_iload_n C 1 dX10_originOf_14 rfl rfl ?_
  refine pv_iload_n C 2 dX10_originOf_15 rfl rfl ?_
  obtain ⟨⟨⟩, S17, e18, h⟩ := pq_bs h
  refine pv_callvV C (ci := 5) rfl (by decide) k14.2 [.ref (pq_r G a0 0), .int x1, .int x2] (fun sz => r_X5_trace W0 k14.2 k15.2 e18 sz) (cwV 3 C.1.2.2.2.2 gX10_originOf_X5_trace rfl rfl rfl (by decide +kernel) ⟨Nat.le_of_ble_eq_true rfl, Nat.le_of_ble_eq_true rfl⟩) rfl rfl (Nat.le_of_ble_eq_true rfl) dX10_originOf_16 ⟨Nat.le_of_ble_eq_true rfl, Nat.le_of_ble_eq_true rfl⟩ ?_
  refine pv_aload_n C 0 dX10_originOf_19 rfl rfl ?_
  have k19 := pq_wt (k := 4) W0 k0_ rfl
  refine pv_getr (T := TX10) (N := 7) C 4 inu_EX10_originOf_10 rfl (by decide) (by decide) (List.mem_of_getElem? (i := 1) rfl) rfl k0_ k19.1 dX10_originOf_20 ?_
  refine pv_getiN (T := TX5) (N := 3) C 1 inu_EX10_originOf_5 rfl (by decide) (by decide) (List.mem_of_getElem? (i := 46) rfl) rfl k19.2 dX10_originOf_23 ?_
  exact pv_iret C hr hlk h dX10_originOf_26
def E_X10_pageOf (G : pq_G) (S : pq_N) (a0 : Nat) (x1 : Int32) (x2 : Int32) : Option (Int32 × pq_N) := (pq_bd (E_X10_needQuotation G S a0 x1 x2) fun _ S12 => (pq_bd (F_X5_find G S12 (pq_r G a0 4) (pq_r G a0 0) x1 x2) fun v16 S17 => some (((S17.1 (pq_r G (pq_r G a0 4) 0) 2) / (8 : Int32)), S17)))
theorem d_X10_pageOf (G : pq_G) (S : pq_N) (a0 : Nat) (x1 : Int32) (x2 : Int32) : E_X10_pageOf G S a0 x1 x2 = pq_dr (F_X10_pageOf G S a0 x1 x2) := by
  simp only [F_X10_pageOf, E_X10_pageOf, dr_n, dr_l, dr_r, dr_if, dr_bd, dr_lt, dr_bx, d_X10_needQuotation]
theorem inu_EX10_pageOf_5 : ∀ w ∈ u_ws RX5 TX5 3, w ∈ wsX10_pageOf := pq_inu 76 rfl
theorem inu_EX10_pageOf_8 : ∀ w ∈ u_ws RX8 TX8 4, w ∈ wsX10_pageOf := pq_inu 79 rfl
theorem inu_EX10_pageOf_10 : ∀ w ∈ u_ws RX10 TX10 7, w ∈ wsX10_pageOf := pq_inu 69 rfl
set_option maxHeartbeats 4000000 in
set_option maxRecDepth 100000 in
theorem e_X10_pageOf {l : Launch} {D : va_G} {y : pq_Y} {G : pq_G} (W0 : pq_WT G) {S : pq_N} {a0 : Nat} {x1 : Int32} {x2 : Int32} (k0_ : pq_ok G 10 a0) {r : Int32} {S1 : pq_N} (h : E_X10_pageOf G S a0 x1 x2 = some (r, S1)) (sz : Nat) : Met l yX10_pageOf wsX10_pageOf ({ frames := 4, cells := 0, slots := 0, locals := 103 } : Room) (pq_P D y G S sz [.ref a0, .int x1, .int x2]) (pq_Qi D y G sz r S1) 0 0 (pq_A G sz) := by
  refine pq_enter RX10 3 (by decide) rfl rfl rfl ?_
  intro p e s m below meth c C hsz hr hlk
  subst hsz
  unfold E_X10_pageOf at h
  refine pv_sub (lo1 := [(0, .ref a0), (1, .int x1), (2, .int x2)]) [0, 1, 2] rfl ?_
  refine pv_aload_n C 0 dX10_pageOf_0 rfl rfl ?_
  refine pv_iload_n C 1 dX10_pageOf_1 rfl rfl ?_
  refine pv_iload_n C 2 dX10_pageOf_2 rfl rfl ?_
  obtain ⟨⟨⟩, S12, e13, h⟩ := pq_bs h
  refine pv_callvV C (ci := 10) rfl (by decide) k0_ [.int x1, .int x2] (fun sz => e_X10_needQuotation W0 k0_ e13 sz) (cwV 2 C.1.2.2.2.2 gX10_pageOf_X10_needQuotation rfl rfl rfl (by decide +kernel) ⟨Nat.le_of_ble_eq_true rfl, Nat.le_of_ble_eq_true rfl⟩) rfl rfl (Nat.le_of_ble_eq_true rfl) dX10_pageOf_3 ⟨Nat.le_of_ble_eq_true rfl, Nat.le_of_ble_eq_true rfl⟩ ?_
  refine pv_aload_n C 0 dX10_pageOf_6 rfl rfl ?_
  have k14 := pq_wt (k := 4) W0 k0_ rfl
  refine pv_getr (T := TX10) (N := 7) C 4 inu_EX10_pageOf_10 rfl (by decide) (by decide) (List.mem_of_getElem? (i := 1) rfl) rfl k0_ k14.1 dX10_pageOf_7 ?_
  refine pv_aload_n C 0 dX10_pageOf_10 rfl rfl ?_
  have k15 := pq_wt (k := 0) W0 k0_ rfl
  refine pv_getr (T := TX10) (N := 7) C 0 inu_EX10_pageOf_10 rfl (by decide) (by decide) (List.mem_of_getElem? (i := 2) rfl) rfl k0_ k15.1 dX10_pageOf_11 ?_
  refine pv_iload_n C 1 dX10_pageOf_14 rfl rfl ?_
  refine pv_iload_n C 2 dX10_pageOf_15 rfl rfl ?_
  obtain ⟨v16, S17, e18, h⟩ := pq_bs h
  refine pv_calliV C (ci := 5) rfl (by decide) k14.2 [.ref (pq_r G a0 0), .int x1, .int x2] (fun sz => r_X5_find W0 k14.2 k15.2 e18 sz) (cwV 3 C.1.2.2.2.2 gX10_pageOf_X5_find rfl rfl rfl (by decide +kernel) ⟨Nat.le_of_ble_eq_true rfl, Nat.le_of_ble_eq_true rfl⟩) rfl rfl (Nat.le_of_ble_eq_true rfl) dX10_pageOf_16 ⟨Nat.le_of_ble_eq_true rfl, Nat.le_of_ble_eq_true rfl⟩ ?_
  refine pv_pop C dX10_pageOf_19 rfl ?_
  refine pv_aload_n C 0 dX10_pageOf_20 rfl rfl ?_
  have k19 := pq_wt (k := 4) W0 k0_ rfl
  refine pv_getr (T := TX10) (N := 7) C 4 inu_EX10_pageOf_10 rfl (by decide) (by decide) (List.mem_of_getElem? (i := 1) rfl) rfl k0_ k19.1 dX10_pageOf_21 ?_
  have k20 := pq_wt (k := 0) W0 k19.2 rfl
  refine pv_getrN (T := TX5) (N := 3) C 0 inu_EX10_pageOf_5 rfl (by decide) (by decide) (List.mem_of_getElem? (i := 45) rfl) rfl k19.2 k20.1 dX10_pageOf_24 ?_
  refine pv_getiN (T := TX8) (N := 4) C 2 inu_EX10_pageOf_8 rfl (by decide) (by decide) (List.mem_of_getElem? (i := 42) rfl) rfl k20.2 dX10_pageOf_27 ?_
  refine pv_bipush (v := 8) C dX10_pageOf_30 (by decide) ?_
  refine pv_idiv C dX10_pageOf_32 (by decide) ?_
  exact pv_iret C hr hlk h dX10_pageOf_33
def E_X10_pagesOf (G : pq_G) (S : pq_N) (a0 : Nat) (x1 : Int32) : Option (Int32 × pq_N) := (pq_bd (E_X10_needPamphlet G S a0 x1) fun _ S12 => (pq_bd (F_X9_at G S12 (pq_r G a0 0) x1) fun v15 S16 => (pq_bd (F_X4_pageCount G S16 v15) fun v19 S20 => some (v19, S20))))
theorem d_X10_pagesOf (G : pq_G) (S : pq_N) (a0 : Nat) (x1 : Int32) : E_X10_pagesOf G S a0 x1 = pq_dr (F_X10_pagesOf G S a0 x1) := by
  simp only [F_X10_pagesOf, E_X10_pagesOf, dr_n, dr_l, dr_r, dr_if, dr_bd, dr_lt, dr_bx, d_X10_needPamphlet]
theorem inu_EX10_pagesOf_10 : ∀ w ∈ u_ws RX10 TX10 7, w ∈ wsX10_pagesOf := pq_inu 27 rfl
set_option maxHeartbeats 4000000 in
set_option maxRecDepth 100000 in
theorem e_X10_pagesOf {l : Launch} {D : va_G} {y : pq_Y} {G : pq_G} (W0 : pq_WT G) {S : pq_N} {a0 : Nat} {x1 : Int32} (k0_ : pq_ok G 10 a0) {r : Int32} {S1 : pq_N} (h : E_X10_pagesOf G S a0 x1 = some (r, S1)) (sz : Nat) : Met l yX10_pagesOf wsX10_pagesOf ({ frames := 2, cells := 0, slots := 0, locals := 42 } : Room) (pq_P D y G S sz [.ref a0, .int x1]) (pq_Qi D y G sz r S1) 0 0 (pq_A G sz) := by
  refine pq_enter RX10 2 (by decide) rfl rfl rfl ?_
  intro p e s m below meth c C hsz hr hlk
  subst hsz
  unfold E_X10_pagesOf at h
  refine pv_sub (lo1 := [(0, .ref a0), (1, .int x1)]) [0, 1] rfl ?_
  refine pv_aload_n C 0 dX10_pagesOf_0 rfl rfl ?_
  refine pv_iload_n C 1 dX10_pagesOf_1 rfl rfl ?_
  obtain ⟨⟨⟩, S12, e13, h⟩ := pq_bs h
  refine pv_callvV C (ci := 10) rfl (by decide) k0_ [.int x1] (fun sz => e_X10_needPamphlet W0 k0_ e13 sz) (cwV 1 C.1.2.2.2.2 gX10_pagesOf_X10_needPamphlet rfl rfl rfl (by decide +kernel) ⟨Nat.le_of_ble_eq_true rfl, Nat.le_of_ble_eq_true rfl⟩) rfl rfl (Nat.le_of_ble_eq_true rfl) dX10_pagesOf_2 ⟨Nat.le_of_ble_eq_true rfl, Nat.le_of_ble_eq_true rfl⟩ ?_
  refine pv_aload_n C 0 dX10_pagesOf_5 rfl rfl ?_
  have k14 := pq_wt (k := 0) W0 k0_ rfl
  refine pv_getr (T := TX10) (N := 7) C 0 inu_EX10_pagesOf_10 rfl (by decide) (by decide) (List.mem_of_getElem? (i := 1) rfl) rfl k0_ k14.1 dX10_pagesOf_6 ?_
  refine pv_iload_n C 1 dX10_pagesOf_9 rfl rfl ?_
  obtain ⟨v15, S16, e17, h⟩ := pq_bs h
  have k18 := o_X9_at W0 k14.2 e17
  refine pv_callrV C (ci := 9) rfl (by decide) k14.2 [.int x1] (fun sz => r_X9_at W0 k14.2 e17 sz) (cwV 1 C.1.2.2.2.2 gX10_pagesOf_X9_at rfl rfl rfl (by decide +kernel) ⟨Nat.le_of_ble_eq_true rfl, Nat.le_of_ble_eq_true rfl⟩) rfl rfl (Nat.le_of_ble_eq_true rfl) dX10_pagesOf_10 ⟨Nat.le_of_ble_eq_true rfl, Nat.le_of_ble_eq_true rfl⟩ ?_
  obtain ⟨v19, S20, e21, h⟩ := pq_bs h
  refine pv_calliV C (ci := 4) rfl (by decide) k18 [] (fun sz => r_X4_pageCount W0 k18 e21 sz) (cwV 0 C.1.2.2.2.2 gX10_pagesOf_X4_pageCount rfl rfl rfl (by decide +kernel) ⟨Nat.le_of_ble_eq_true rfl, Nat.le_of_ble_eq_true rfl⟩) rfl rfl (Nat.le_of_ble_eq_true rfl) dX10_pagesOf_13 ⟨Nat.le_of_ble_eq_true rfl, Nat.le_of_ble_eq_true rfl⟩ ?_
  exact pv_iret C hr hlk h dX10_pagesOf_16
def E_X10_pass (G : pq_G) (S : pq_N) (a0 : Nat) (x1 : Int32) : Option (Int32 × pq_N) := (if x1 < (1 : Int32) then none else (if x1 ≤ (100 : Int32) then (pq_bd (F_X2_save G S (pq_r G a0 1) (pq_r G a0 0)) fun _ S16 => (pq_lt (pq_wi S16 (pq_r G a0 0) 3 ((S16.1 (pq_r G a0 0) 3) + x1)) fun S19 => some ((S19.1 (pq_r G a0 0) 3), S19))) else none))
theorem d_X10_pass (G : pq_G) (S : pq_N) (a0 : Nat) (x1 : Int32) : E_X10_pass G S a0 x1 = pq_dr (F_X10_pass G S a0 x1) := by
  simp only [F_X10_pass, E_X10_pass, dr_n, dr_l, dr_r, dr_if, dr_bd, dr_lt, dr_bx]
theorem inu_EX10_pass_9 : ∀ w ∈ u_ws RX9 TX9 4, w ∈ wsX10_pass := pq_inu 60 rfl
theorem inu_EX10_pass_10 : ∀ w ∈ u_ws RX10 TX10 7, w ∈ wsX10_pass := pq_inu 53 rfl
set_option maxHeartbeats 4000000 in
set_option maxRecDepth 100000 in
theorem e_X10_pass {l : Launch} {D : va_G} {y : pq_Y} {G : pq_G} (W0 : pq_WT G) {S : pq_N} {a0 : Nat} {x1 : Int32} (k0_ : pq_ok G 10 a0) {r : Int32} {S1 : pq_N} (h : E_X10_pass G S a0 x1 = some (r, S1)) (sz : Nat) : Met l yX10_pass wsX10_pass ({ frames := 5, cells := 0, slots := 0, locals := 113 } : Room) (pq_P D y G S sz [.ref a0, .int x1]) (pq_Qi D y G sz r S1) 0 0 (pq_A G sz) := by
  refine pq_enter RX10 2 (by decide) rfl rfl rfl ?_
  intro p e s m below meth c C hsz hr hlk
  subst hsz
  unfold E_X10_pass at h
  refine pv_sub (lo1 := [(0, .ref a0), (1, .int x1)]) [0, 1] rfl ?_
  refine pv_iload_n C 1 dX10_pass_0 rfl rfl ?_
  refine pv_iconst (v := 1) C dX10_pass_1 (by decide) ?_
  refine pv_icmp_lt (tgt := 11) C dX10_pass_2 (by decide) (fun c11 => ?_) (fun c11 => ?_)
  · have h := pq_it c11 h
    cases h
  · have h := pq_if c11 h
    refine pv_iload_n C 1 dX10_pass_5 rfl rfl ?_
    refine pv_bipush (v := 100) C dX10_pass_6 (by decide) ?_
    refine pv_icmp_le (tgt := 21) C dX10_pass_8 (by decide) (fun c12 => ?_) (fun c12 => ?_)
    · have h := pq_it c12 h
      refine pv_aload_n C 0 dX10_pass_21 rfl rfl ?_
      have k13 := pq_wt (k := 1) W0 k0_ rfl
      refine pv_getr (T := TX10) (N := 7) C 1 inu_EX10_pass_10 rfl (by decide) (by decide) (List.mem_of_getElem? (i := 3) rfl) rfl k0_ k13.1 dX10_pass_22 ?_
      refine pv_aload_n C 0 dX10_pass_25 rfl rfl ?_
      have k14 := pq_wt (k := 0) W0 k0_ rfl
      refine pv_getr (T := TX10) (N := 7) C 0 inu_EX10_pass_10 rfl (by decide) (by decide) (List.mem_of_getElem? (i := 4) rfl) rfl k0_ k14.1 dX10_pass_26 ?_
      obtain ⟨⟨⟩, S16, e17, h⟩ := pq_bs h
      refine pv_callvV C (ci := 2) rfl (by decide) k13.2 [.ref (pq_r G a0 0)] (fun sz => r_X2_save W0 k13.2 k14.2 e17 sz) (cwV 1 C.1.2.2.2.2 gX10_pass_X2_save rfl rfl rfl (by decide +kernel) ⟨Nat.le_of_ble_eq_true rfl, Nat.le_of_ble_eq_true rfl⟩) rfl rfl (Nat.le_of_ble_eq_true rfl) dX10_pass_29 ⟨Nat.le_of_ble_eq_true rfl, Nat.le_of_ble_eq_true rfl⟩ ?_
      refine pv_aload_n C 0 dX10_pass_32 rfl rfl ?_
      have k18 := pq_wt (k := 0) W0 k0_ rfl
      refine pv_getr (T := TX10) (N := 7) C 0 inu_EX10_pass_10 rfl (by decide) (by decide) (List.mem_of_getElem? (i := 4) rfl) rfl k0_ k18.1 dX10_pass_33 ?_
      refine pv_dup C dX10_pass_36 rfl ?_
      refine pv_getiN (T := TX9) (N := 4) C 3 inu_EX10_pass_9 rfl (by decide) (by decide) (List.mem_of_getElem? (i := 31) rfl) rfl k18.2 dX10_pass_37 ?_
      refine pv_iload_n C 1 dX10_pass_40 rfl rfl ?_
      refine pv_iadd C dX10_pass_41 ?_
      refine pv_putN (T := TX9) (N := 4) (ty := .int) C 3 inu_EX10_pass_9 rfl (by decide) tyX9 tyX9_ok nmX9 (by decide) (List.mem_of_getElem? (i := 31) rfl) rfl k18.2 rfl (by decide +kernel) rfl rfl dX10_pass_42 ?_
      refine pv_nm (fun S19 e20 => ?_)
      have h := pq_ls e20 h
      refine pv_aload_n C 0 dX10_pass_45 rfl rfl ?_
      have k21 := pq_wt (k := 0) W0 k0_ rfl
      refine pv_getr (T := TX10) (N := 7) C 0 inu_EX10_pass_10 rfl (by decide) (by decide) (List.mem_of_getElem? (i := 4) rfl) rfl k0_ k21.1 dX10_pass_46 ?_
      refine pv_getiN (T := TX9) (N := 4) C 3 inu_EX10_pass_9 rfl (by decide) (by decide) (List.mem_of_getElem? (i := 31) rfl) rfl k21.2 dX10_pass_49 ?_
      exact pv_iret C hr hlk h dX10_pass_52
    · have h := pq_if c12 h
      cases h
def E_X10_passageLength (G : pq_G) (S : pq_N) (a0 : Nat) (x1 : Int32) (x2 : Int32) : Option (Int32 × pq_N) := (pq_bd (E_X10_needQuotation G S a0 x1 x2) fun _ S12 => (pq_bd (F_X5_find G S12 (pq_r G a0 4) (pq_r G a0 0) x1 x2) fun v16 S17 => some ((S17.1 (pq_r G (pq_r G a0 4) 0) 3), S17)))
theorem d_X10_passageLength (G : pq_G) (S : pq_N) (a0 : Nat) (x1 : Int32) (x2 : Int32) : E_X10_passageLength G S a0 x1 x2 = pq_dr (F_X10_passageLength G S a0 x1 x2) := by
  simp only [F_X10_passageLength, E_X10_passageLength, dr_n, dr_l, dr_r, dr_if, dr_bd, dr_lt, dr_bx, d_X10_needQuotation]
theorem inu_EX10_passageLength_5 : ∀ w ∈ u_ws RX5 TX5 3, w ∈ wsX10_passageLength := pq_inu 76 rfl
theorem inu_EX10_passageLength_8 : ∀ w ∈ u_ws RX8 TX8 4, w ∈ wsX10_passageLength := pq_inu 79 rfl
theorem inu_EX10_passageLength_10 : ∀ w ∈ u_ws RX10 TX10 7, w ∈ wsX10_passageLength := pq_inu 69 rfl
set_option maxHeartbeats 4000000 in
set_option maxRecDepth 100000 in
theorem e_X10_passageLength {l : Launch} {D : va_G} {y : pq_Y} {G : pq_G} (W0 : pq_WT G) {S : pq_N} {a0 : Nat} {x1 : Int32} {x2 : Int32} (k0_ : pq_ok G 10 a0) {r : Int32} {S1 : pq_N} (h : E_X10_passageLength G S a0 x1 x2 = some (r, S1)) (sz : Nat) : Met l yX10_passageLength wsX10_passageLength ({ frames := 4, cells := 0, slots := 0, locals := 103 } : Room) (pq_P D y G S sz [.ref a0, .int x1, .int x2]) (pq_Qi D y G sz r S1) 0 0 (pq_A G sz) := by
  refine pq_enter RX10 3 (by decide) rfl rfl rfl ?_
  intro p e s m below meth c C hsz hr hlk
  subst hsz
  unfold E_X10_passageLength at h
  refine pv_sub (lo1 := [(0, .ref a0), (1, .int x1), (2, .int x2)]) [0, 1, 2] rfl ?_
  refine pv_aload_n C 0 dX10_passageLength_0 rfl rfl ?_
  refine pv_iload_n C 1 dX10_passageLength_1 rfl rfl ?_
  refine pv_iload_n C 2 dX10_passageLength_2 rfl rfl ?_
  obtain ⟨⟨⟩, S12, e13, h⟩ := pq_bs h
  refine pv_callvV C (ci := 10) rfl (by decide) k0_ [.int x1, .int x2] (fun sz => e_X10_needQuotation W0 k0_ e13 sz) (cwV 2 C.1.2.2.2.2 gX10_passageLength_X10_needQuotation rfl rfl rfl (by decide +kernel) ⟨Nat.le_of_ble_eq_true rfl, Nat.le_of_ble_eq_true rfl⟩) rfl rfl (Nat.le_of_ble_eq_true rfl) dX10_passageLength_3 ⟨Nat.le_of_ble_eq_true rfl, Nat.le_of_ble_eq_true rfl⟩ ?_
  refine pv_aload_n C 0 dX10_passageLength_6 rfl rfl ?_
  have k14 := pq_wt (k := 4) W0 k0_ rfl
  refine pv_getr (T := TX10) (N := 7) C 4 inu_EX10_passageLength_10 rfl (by decide) (by decide) (List.mem_of_getElem? (i := 1) rfl) rfl k0_ k14.1 dX10_passageLength_7 ?_
  refine pv_aload_n C 0 dX10_passageLength_10 rfl rfl ?_
  have k15 := pq_wt (k := 0) W0 k0_ rfl
  refine pv_getr (T := TX10) (N := 7) C 0 inu_EX10_passageLength_10 rfl (by decide) (by decide) (List.mem_of_getElem? (i := 2) rfl) rfl k0_ k15.1 dX10_passageLength_11 ?_
  refine pv_iload_n C 1 dX10_passageLength_14 rfl rfl ?_
  refine pv_iload_n C 2 dX10_passageLength_15 rfl rfl ?_
  obtain ⟨v16, S17, e18, h⟩ := pq_bs h
  refine pv_calliV C (ci := 5) rfl (by decide) k14.2 [.ref (pq_r G a0 0), .int x1, .int x2] (fun sz => r_X5_find W0 k14.2 k15.2 e18 sz) (cwV 3 C.1.2.2.2.2 gX10_passageLength_X5_find rfl rfl rfl (by decide +kernel) ⟨Nat.le_of_ble_eq_true rfl, Nat.le_of_ble_eq_true rfl⟩) rfl rfl (Nat.le_of_ble_eq_true rfl) dX10_passageLength_16 ⟨Nat.le_of_ble_eq_true rfl, Nat.le_of_ble_eq_true rfl⟩ ?_
  refine pv_pop C dX10_passageLength_19 rfl ?_
  refine pv_aload_n C 0 dX10_passageLength_20 rfl rfl ?_
  have k19 := pq_wt (k := 4) W0 k0_ rfl
  refine pv_getr (T := TX10) (N := 7) C 4 inu_EX10_passageLength_10 rfl (by decide) (by decide) (List.mem_of_getElem? (i := 1) rfl) rfl k0_ k19.1 dX10_passageLength_21 ?_
  have k20 := pq_wt (k := 0) W0 k19.2 rfl
  refine pv_getrN (T := TX5) (N := 3) C 0 inu_EX10_passageLength_5 rfl (by decide) (by decide) (List.mem_of_getElem? (i := 45) rfl) rfl k19.2 k20.1 dX10_passageLength_24 ?_
  refine pv_getiN (T := TX8) (N := 4) C 3 inu_EX10_passageLength_8 rfl (by decide) (by decide) (List.mem_of_getElem? (i := 44) rfl) rfl k20.2 dX10_passageLength_27 ?_
  exact pv_iret C hr hlk h dX10_passageLength_30
def E_X10_passageOf (G : pq_G) (S : pq_N) (a0 : Nat) (x1 : Int32) (x2 : Int32) : Option (Int32 × pq_N) := (pq_bd (E_X10_needQuotation G S a0 x1 x2) fun _ S12 => (pq_bd (F_X5_find G S12 (pq_r G a0 4) (pq_r G a0 0) x1 x2) fun v16 S17 => some ((S17.1 (pq_r G (pq_r G a0 4) 0) 2), S17)))
theorem d_X10_passageOf (G : pq_G) (S : pq_N) (a0 : Nat) (x1 : Int32) (x2 : Int32) : E_X10_passageOf G S a0 x1 x2 = pq_dr (F_X10_passageOf G S a0 x1 x2) := by
  simp only [F_X10_passageOf, E_X10_passageOf, dr_n, dr_l, dr_r, dr_if, dr_bd, dr_lt, dr_bx, d_X10_needQuotation]
theorem inu_EX10_passageOf_5 : ∀ w ∈ u_ws RX5 TX5 3, w ∈ wsX10_passageOf := pq_inu 76 rfl
theorem inu_EX10_passageOf_8 : ∀ w ∈ u_ws RX8 TX8 4, w ∈ wsX10_passageOf := pq_inu 79 rfl
theorem inu_EX10_passageOf_10 : ∀ w ∈ u_ws RX10 TX10 7, w ∈ wsX10_passageOf := pq_inu 69 rfl
set_option maxHeartbeats 4000000 in
set_option maxRecDepth 100000 in
theorem e_X10_passageOf {l : Launch} {D : va_G} {y : pq_Y} {G : pq_G} (W0 : pq_WT G) {S : pq_N} {a0 : Nat} {x1 : Int32} {x2 : Int32} (k0_ : pq_ok G 10 a0) {r : Int32} {S1 : pq_N} (h : E_X10_passageOf G S a0 x1 x2 = some (r, S1)) (sz : Nat) : Met l yX10_passageOf wsX10_passageOf ({ frames := 4, cells := 0, slots := 0, locals := 103 } : Room) (pq_P D y G S sz [.ref a0, .int x1, .int x2]) (pq_Qi D y G sz r S1) 0 0 (pq_A G sz) := by
  refine pq_enter RX10 3 (by decide) rfl rfl rfl ?_
  intro p e s m below meth c C hsz hr hlk
  subst hsz
  unfold E_X10_passageOf at h
  refine pv_sub (lo1 := [(0, .ref a0), (1, .int x1), (2, .int x2)]) [0, 1, 2] rfl ?_
  refine pv_aload_n C 0 dX10_passageOf_0 rfl rfl ?_
  refine pv_iload_n C 1 dX10_passageOf_1 rfl rfl ?_
  refine pv_iload_n C 2 dX10_passageOf_2 rfl rfl ?_
  obtain ⟨⟨⟩, S12, e13, h⟩ := pq_bs h
  refine pv_callvV C (ci := 10) rfl (by decide) k0_ [.int x1, .int x2] (fun sz => e_X10_needQuotation W0 k0_ e13 sz) (cwV 2 C.1.2.2.2.2 gX10_passageOf_X10_needQuotation rfl rfl rfl (by decide +kernel) ⟨Nat.le_of_ble_eq_true rfl, Nat.le_of_ble_eq_true rfl⟩) rfl rfl (Nat.le_of_ble_eq_true rfl) dX10_passageOf_3 ⟨Nat.le_of_ble_eq_true rfl, Nat.le_of_ble_eq_true rfl⟩ ?_
  refine pv_aload_n C 0 dX10_passageOf_6 rfl rfl ?_
  have k14 := pq_wt (k := 4) W0 k0_ rfl
  refine pv_getr (T := TX10) (N := 7) C 4 inu_EX10_passageOf_10 rfl (by decide) (by decide) (List.mem_of_getElem? (i := 1) rfl) rfl k0_ k14.1 dX10_passageOf_7 ?_
  refine pv_aload_n C 0 dX10_passageOf_10 rfl rfl ?_
  have k15 := pq_wt (k := 0) W0 k0_ rfl
  refine pv_getr (T := TX10) (N := 7) C 0 inu_EX10_passageOf_10 rfl (by decide) (by decide) (List.mem_of_getElem? (i := 2) rfl) rfl k0_ k15.1 dX10_passageOf_11 ?_
  refine pv_iload_n C 1 dX10_passageOf_14 rfl rfl ?_
  refine pv_iload_n C 2 dX10_passageOf_15 rfl rfl ?_
  obtain ⟨v16, S17, e18, h⟩ := pq_bs h
  refine pv_calliV C (ci := 5) rfl (by decide) k14.2 [.ref (pq_r G a0 0), .int x1, .int x2] (fun sz => r_X5_find W0 k14.2 k15.2 e18 sz) (cwV 3 C.1.2.2.2.2 gX10_passageOf_X5_find rfl rfl rfl (by decide +kernel) ⟨Nat.le_of_ble_eq_true rfl, Nat.le_of_ble_eq_true rfl⟩) rfl rfl (Nat.le_of_ble_eq_true rfl) dX10_passageOf_16 ⟨Nat.le_of_ble_eq_true rfl, Nat.le_of_ble_eq_true rfl⟩ ?_
  refine pv_pop C dX10_passageOf_19 rfl ?_
  refine pv_aload_n C 0 dX10_passageOf_20 rfl rfl ?_
  have k19 := pq_wt (k := 4) W0 k0_ rfl
  refine pv_getr (T := TX10) (N := 7) C 4 inu_EX10_passageOf_10 rfl (by decide) (by decide) (List.mem_of_getElem? (i := 1) rfl) rfl k0_ k19.1 dX10_passageOf_21 ?_
  have k20 := pq_wt (k := 0) W0 k19.2 rfl
  refine pv_getrN (T := TX5) (N := 3) C 0 inu_EX10_passageOf_5 rfl (by decide) (by decide) (List.mem_of_getElem? (i := 45) rfl) rfl k19.2 k20.1 dX10_passageOf_24 ?_
  refine pv_getiN (T := TX8) (N := 4) C 2 inu_EX10_passageOf_8 rfl (by decide) (by decide) (List.mem_of_getElem? (i := 42) rfl) rfl k20.2 dX10_passageOf_27 ?_
  exact pv_iret C hr hlk h dX10_passageOf_30
def E_X10_print (G : pq_G) (S : pq_N) (a0 : Nat) (x1 : Int32) : Option (Int32 × pq_N) := (pq_bd (F_X10_isAuthor G S x1) fun v11 S12 => (if v11 = (0 : Int32) then none else (pq_bd (F_X10_whyNotPrinted G S12 a0) fun v15 S16 => (if v15 ≤ (0 : Int32) then (pq_bd (F_X2_save G S16 (pq_r G a0 1) (pq_r G a0 0)) fun _ S22 => (pq_bd (F_X9_add G S22 (pq_r G a0 0) (pq_r G (pq_r G a0 3) 0) x1) fun _ S28 => (pq_lt (pq_wi S28 (pq_r G a0 2) 1 (0 : Int32)) fun S31 => some (((S31.1 (pq_r G a0 0) 2) - (1 : Int32)), S31)))) else none))))
theorem d_X10_print (G : pq_G) (S : pq_N) (a0 : Nat) (x1 : Int32) : E_X10_print G S a0 x1 = pq_dr (F_X10_print G S a0 x1) := by
  simp only [F_X10_print, E_X10_print, dr_n, dr_l, dr_r, dr_if, dr_bd, dr_lt, dr_bx]
theorem inu_EX10_print_0 : ∀ w ∈ u_ws RX0 TX0 2, w ∈ wsX10_print := pq_inu 159 rfl
theorem inu_EX10_print_6 : ∀ w ∈ u_ws RX6 TX6 5, w ∈ wsX10_print := pq_inu 154 rfl
theorem inu_EX10_print_9 : ∀ w ∈ u_ws RX9 TX9 4, w ∈ wsX10_print := pq_inu 161 rfl
theorem inu_EX10_print_10 : ∀ w ∈ u_ws RX10 TX10 7, w ∈ wsX10_print := pq_inu 147 rfl
set_option maxHeartbeats 4000000 in
set_option maxRecDepth 100000 in
theorem e_X10_print {l : Launch} {D : va_G} {y : pq_Y} {G : pq_G} (W0 : pq_WT G) {S : pq_N} {a0 : Nat} {x1 : Int32} (k0_ : pq_ok G 10 a0) {r : Int32} {S1 : pq_N} (h : E_X10_print G S a0 x1 = some (r, S1)) (sz : Nat) : Met l yX10_print wsX10_print ({ frames := 6, cells := 0, slots := 0, locals := 130 } : Room) (pq_P D y G S sz [.ref a0, .int x1]) (pq_Qi D y G sz r S1) 0 0 (pq_A G sz) := by
  refine pq_enter RX10 2 (by decide) rfl rfl rfl ?_
  intro p e s m below meth c C hsz hr hlk
  subst hsz
  unfold E_X10_print at h
  refine pv_sub (lo1 := [(0, .ref a0), (1, .int x1)]) [0, 1] rfl ?_
  refine pv_iload_n C 1 dX10_print_0 rfl rfl ?_
  obtain ⟨v11, S12, e13, h⟩ := pq_bs h
  refine pv_calliS C [.int x1] (fun sz => r_X10_isAuthor W0  e13 sz) (va_cwS 1 C.1.2.2.2.2 gX10_print_X10_isAuthor rfl rfl rfl (by decide +kernel) ⟨Nat.le_of_ble_eq_true rfl, Nat.le_of_ble_eq_true rfl⟩) rfl rfl (Nat.le_of_ble_eq_true rfl) dX10_print_1 ⟨Nat.le_of_ble_eq_true rfl, Nat.le_of_ble_eq_true rfl⟩ ?_
  refine pv_if_ne (tgt := 17) C dX10_print_4 (by decide) (fun c14 => ?_) (fun c14 => ?_)
  · have h := pq_if c14 h
    refine pv_aload_n C 0 dX10_print_17 rfl rfl ?_
    obtain ⟨v15, S16, e17, h⟩ := pq_bs h
    refine pv_calliV C (ci := 10) rfl (by decide) k0_ [] (fun sz => r_X10_whyNotPrinted W0 k0_ e17 sz) (cwV 0 C.1.2.2.2.2 gX10_print_X10_whyNotPrinted rfl rfl rfl (by decide +kernel) ⟨Nat.le_of_ble_eq_true rfl, Nat.le_of_ble_eq_true rfl⟩) rfl rfl (Nat.le_of_ble_eq_true rfl) dX10_print_18 ⟨Nat.le_of_ble_eq_true rfl, Nat.le_of_ble_eq_true rfl⟩ ?_
    refine pv_if_le (tgt := 34) C dX10_print_21 (by decide) (fun c18 => ?_) (fun c18 => ?_)
    · have h := pq_it c18 h
      refine pv_aload_n C 0 dX10_print_34 rfl rfl ?_
      have k19 := pq_wt (k := 1) W0 k0_ rfl
      refine pv_getr (T := TX10) (N := 7) C 1 inu_EX10_print_10 rfl (by decide) (by decide) (List.mem_of_getElem? (i := 5) rfl) rfl k0_ k19.1 dX10_print_35 ?_
      refine pv_aload_n C 0 dX10_print_38 rfl rfl ?_
      have k20 := pq_wt (k := 0) W0 k0_ rfl
      refine pv_getr (T := TX10) (N := 7) C 0 inu_EX10_print_10 rfl (by decide) (by decide) (List.mem_of_getElem? (i := 6) rfl) rfl k0_ k20.1 dX10_print_39 ?_
      obtain ⟨⟨⟩, S22, e23, h⟩ := pq_bs h
      refine pv_callvV C (ci := 2) rfl (by decide) k19.2 [.ref (pq_r G a0 0)] (fun sz => r_X2_save W0 k19.2 k20.2 e23 sz) (cwV 1 C.1.2.2.2.2 gX10_print_X2_save rfl rfl rfl (by decide +kernel) ⟨Nat.le_of_ble_eq_true rfl, Nat.le_of_ble_eq_true rfl⟩) rfl rfl (Nat.le_of_ble_eq_true rfl) dX10_print_42 ⟨Nat.le_of_ble_eq_true rfl, Nat.le_of_ble_eq_true rfl⟩ ?_
      refine pv_aload_n C 0 dX10_print_45 rfl rfl ?_
      have k24 := pq_wt (k := 0) W0 k0_ rfl
      refine pv_getr (T := TX10) (N := 7) C 0 inu_EX10_print_10 rfl (by decide) (by decide) (List.mem_of_getElem? (i := 6) rfl) rfl k0_ k24.1 dX10_print_46 ?_
      refine pv_aload_n C 0 dX10_print_49 rfl rfl ?_
      have k25 := pq_wt (k := 3) W0 k0_ rfl
      refine pv_getr (T := TX10) (N := 7) C 3 inu_EX10_print_10 rfl (by decide) (by decide) (List.mem_of_getElem? (i := 7) rfl) rfl k0_ k25.1 dX10_print_50 ?_
      have k26 := pq_wt (k := 0) W0 k25.2 rfl
      refine pv_getrN (T := TX6) (N := 5) C 0 inu_EX10_print_6 rfl (by decide) (by decide) (List.mem_of_getElem? (i := 38) rfl) rfl k25.2 k26.1 dX10_print_53 ?_
      refine pv_iload_n C 1 dX10_print_56 rfl rfl ?_
      obtain ⟨⟨⟩, S28, e29, h⟩ := pq_bs h
      refine pv_callvV C (ci := 9) rfl (by decide) k24.2 [.ref (pq_r G (pq_r G a0 3) 0), .int x1] (fun sz => r_X9_add W0 k24.2 k26.2 e29 sz) (cwV 2 C.1.2.2.2.2 gX10_print_X9_add rfl rfl rfl (by decide +kernel) ⟨Nat.le_of_ble_eq_true rfl, Nat.le_of_ble_eq_true rfl⟩) rfl rfl (Nat.le_of_ble_eq_true rfl) dX10_print_57 ⟨Nat.le_of_ble_eq_true rfl, Nat.le_of_ble_eq_true rfl⟩ ?_
      refine pv_aload_n C 0 dX10_print_60 rfl rfl ?_
      have k30 := pq_wt (k := 2) W0 k0_ rfl
      refine pv_getr (T := TX10) (N := 7) C 2 inu_EX10_print_10 rfl (by decide) (by decide) (List.mem_of_getElem? (i := 8) rfl) rfl k0_ k30.1 dX10_print_61 ?_
      refine pv_iconst (v := 0) C dX10_print_64 (by decide) ?_
      refine pv_putN (T := TX0) (N := 2) (ty := .int) C 1 inu_EX10_print_0 rfl (by decide) tyX0 tyX0_ok nmX0 (by decide) (List.mem_of_getElem? (i := 37) rfl) rfl k30.2 rfl (by decide +kernel) rfl rfl dX10_print_65 ?_
      refine pv_nm (fun S31 e32 => ?_)
      have h := pq_ls e32 h
      refine pv_aload_n C 0 dX10_print_68 rfl rfl ?_
      have k33 := pq_wt (k := 0) W0 k0_ rfl
      refine pv_getr (T := TX10) (N := 7) C 0 inu_EX10_print_10 rfl (by decide) (by decide) (List.mem_of_getElem? (i := 6) rfl) rfl k0_ k33.1 dX10_print_69 ?_
      refine pv_getiN (T := TX9) (N := 4) C 2 inu_EX10_print_9 rfl (by decide) (by decide) (List.mem_of_getElem? (i := 29) rfl) rfl k33.2 dX10_print_72 ?_
      refine pv_iconst (v := 1) C dX10_print_75 (by decide) ?_
      refine pv_isub C dX10_print_76 ?_
      exact pv_iret C hr hlk h dX10_print_77
    · have h := pq_if c18 h
      cases h
  · have h := pq_it c14 h
    cases h
def E_X10_quotationsOf (G : pq_G) (S : pq_N) (a0 : Nat) (x1 : Int32) : Option (Int32 × pq_N) := (pq_bd (E_X10_needPamphlet G S a0 x1) fun _ S12 => (pq_bd (F_X9_at G S12 (pq_r G a0 0) x1) fun v15 S16 => some ((S16.1 v15 7), S16)))
theorem d_X10_quotationsOf (G : pq_G) (S : pq_N) (a0 : Nat) (x1 : Int32) : E_X10_quotationsOf G S a0 x1 = pq_dr (F_X10_quotationsOf G S a0 x1) := by
  simp only [F_X10_quotationsOf, E_X10_quotationsOf, dr_n, dr_l, dr_r, dr_if, dr_bd, dr_lt, dr_bx, d_X10_needPamphlet]
theorem inu_EX10_quotationsOf_4 : ∀ w ∈ u_ws RX4 TX4 8, w ∈ wsX10_quotationsOf := pq_inu 28 rfl
theorem inu_EX10_quotationsOf_10 : ∀ w ∈ u_ws RX10 TX10 7, w ∈ wsX10_quotationsOf := pq_inu 21 rfl
set_option maxHeartbeats 4000000 in
set_option maxRecDepth 100000 in
theorem e_X10_quotationsOf {l : Launch} {D : va_G} {y : pq_Y} {G : pq_G} (W0 : pq_WT G) {S : pq_N} {a0 : Nat} {x1 : Int32} (k0_ : pq_ok G 10 a0) {r : Int32} {S1 : pq_N} (h : E_X10_quotationsOf G S a0 x1 = some (r, S1)) (sz : Nat) : Met l yX10_quotationsOf wsX10_quotationsOf ({ frames := 2, cells := 0, slots := 0, locals := 42 } : Room) (pq_P D y G S sz [.ref a0, .int x1]) (pq_Qi D y G sz r S1) 0 0 (pq_A G sz) := by
  refine pq_enter RX10 2 (by decide) rfl rfl rfl ?_
  intro p e s m below meth c C hsz hr hlk
  subst hsz
  unfold E_X10_quotationsOf at h
  refine pv_sub (lo1 := [(0, .ref a0), (1, .int x1)]) [0, 1] rfl ?_
  refine pv_aload_n C 0 dX10_quotationsOf_0 rfl rfl ?_
  refine pv_iload_n C 1 dX10_quotationsOf_1 rfl rfl ?_
  obtain ⟨⟨⟩, S12, e13, h⟩ := pq_bs h
  refine pv_callvV C (ci := 10) rfl (by decide) k0_ [.int x1] (fun sz => e_X10_needPamphlet W0 k0_ e13 sz) (cwV 1 C.1.2.2.2.2 gX10_quotationsOf_X10_needPamphlet rfl rfl rfl (by decide +kernel) ⟨Nat.le_of_ble_eq_true rfl, Nat.le_of_ble_eq_true rfl⟩) rfl rfl (Nat.le_of_ble_eq_true rfl) dX10_quotationsOf_2 ⟨Nat.le_of_ble_eq_true rfl, Nat.le_of_ble_eq_true rfl⟩ ?_
  refine pv_aload_n C 0 dX10_quotationsOf_5 rfl rfl ?_
  have k14 := pq_wt (k := 0) W0 k0_ rfl
  refine pv_getr (T := TX10) (N := 7) C 0 inu_EX10_quotationsOf_10 rfl (by decide) (by decide) (List.mem_of_getElem? (i := 1) rfl) rfl k0_ k14.1 dX10_quotationsOf_6 ?_
  refine pv_iload_n C 1 dX10_quotationsOf_9 rfl rfl ?_
  obtain ⟨v15, S16, e17, h⟩ := pq_bs h
  have k18 := o_X9_at W0 k14.2 e17
  refine pv_callrV C (ci := 9) rfl (by decide) k14.2 [.int x1] (fun sz => r_X9_at W0 k14.2 e17 sz) (cwV 1 C.1.2.2.2.2 gX10_quotationsOf_X9_at rfl rfl rfl (by decide +kernel) ⟨Nat.le_of_ble_eq_true rfl, Nat.le_of_ble_eq_true rfl⟩) rfl rfl (Nat.le_of_ble_eq_true rfl) dX10_quotationsOf_10 ⟨Nat.le_of_ble_eq_true rfl, Nat.le_of_ble_eq_true rfl⟩ ?_
  refine pv_getiN (T := TX4) (N := 8) C 7 inu_EX10_quotationsOf_4 rfl (by decide) (by decide) (List.mem_of_getElem? (i := 27) rfl) rfl k18 dX10_quotationsOf_13 ?_
  exact pv_iret C hr hlk h dX10_quotationsOf_16
def E_X10_quotedAgain (G : pq_G) (S : pq_N) (a0 : Nat) (x1 : Int32) (x2 : Int32) : Option (Int32 × pq_N) := (pq_bd (E_X10_needQuotation G S a0 x1 x2) fun _ S12 => (pq_bd (F_X5_children G S12 (pq_r G a0 4) (pq_r G a0 0) x1 x2) fun v16 S17 => some (v16, S17)))
theorem d_X10_quotedAgain (G : pq_G) (S : pq_N) (a0 : Nat) (x1 : Int32) (x2 : Int32) : E_X10_quotedAgain G S a0 x1 x2 = pq_dr (F_X10_quotedAgain G S a0 x1 x2) := by
  simp only [F_X10_quotedAgain, E_X10_quotedAgain, dr_n, dr_l, dr_r, dr_if, dr_bd, dr_lt, dr_bx, d_X10_needQuotation]
theorem inu_EX10_quotedAgain_10 : ∀ w ∈ u_ws RX10 TX10 7, w ∈ wsX10_quotedAgain := pq_inu 81 rfl
set_option maxHeartbeats 4000000 in
set_option maxRecDepth 100000 in
theorem e_X10_quotedAgain {l : Launch} {D : va_G} {y : pq_Y} {G : pq_G} (W0 : pq_WT G) {S : pq_N} {a0 : Nat} {x1 : Int32} {x2 : Int32} (k0_ : pq_ok G 10 a0) {r : Int32} {S1 : pq_N} (h : E_X10_quotedAgain G S a0 x1 x2 = some (r, S1)) (sz : Nat) : Met l yX10_quotedAgain wsX10_quotedAgain ({ frames := 5, cells := 0, slots := 0, locals := 131 } : Room) (pq_P D y G S sz [.ref a0, .int x1, .int x2]) (pq_Qi D y G sz r S1) 0 0 (pq_A G sz) := by
  refine pq_enter RX10 3 (by decide) rfl rfl rfl ?_
  intro p e s m below meth c C hsz hr hlk
  subst hsz
  unfold E_X10_quotedAgain at h
  refine pv_sub (lo1 := [(0, .ref a0), (1, .int x1), (2, .int x2)]) [0, 1, 2] rfl ?_
  refine pv_aload_n C 0 dX10_quotedAgain_0 rfl rfl ?_
  refine pv_iload_n C 1 dX10_quotedAgain_1 rfl rfl ?_
  refine pv_iload_n C 2 dX10_quotedAgain_2 rfl rfl ?_
  obtain ⟨⟨⟩, S12, e13, h⟩ := pq_bs h
  refine pv_callvV C (ci := 10) rfl (by decide) k0_ [.int x1, .int x2] (fun sz => e_X10_needQuotation W0 k0_ e13 sz) (cwV 2 C.1.2.2.2.2 gX10_quotedAgain_X10_needQuotation rfl rfl rfl (by decide +kernel) ⟨Nat.le_of_ble_eq_true rfl, Nat.le_of_ble_eq_true rfl⟩) rfl rfl (Nat.le_of_ble_eq_true rfl) dX10_quotedAgain_3 ⟨Nat.le_of_ble_eq_true rfl, Nat.le_of_ble_eq_true rfl⟩ ?_
  refine pv_aload_n C 0 dX10_quotedAgain_6 rfl rfl ?_
  have k14 := pq_wt (k := 4) W0 k0_ rfl
  refine pv_getr (T := TX10) (N := 7) C 4 inu_EX10_quotedAgain_10 rfl (by decide) (by decide) (List.mem_of_getElem? (i := 1) rfl) rfl k0_ k14.1 dX10_quotedAgain_7 ?_
  refine pv_aload_n C 0 dX10_quotedAgain_10 rfl rfl ?_
  have k15 := pq_wt (k := 0) W0 k0_ rfl
  refine pv_getr (T := TX10) (N := 7) C 0 inu_EX10_quotedAgain_10 rfl (by decide) (by decide) (List.mem_of_getElem? (i := 2) rfl) rfl k0_ k15.1 dX10_quotedAgain_11 ?_
  refine pv_iload_n C 1 dX10_quotedAgain_14 rfl rfl ?_
  refine pv_iload_n C 2 dX10_quotedAgain_15 rfl rfl ?_
  obtain ⟨v16, S17, e18, h⟩ := pq_bs h
  refine pv_calliV C (ci := 5) rfl (by decide) k14.2 [.ref (pq_r G a0 0), .int x1, .int x2] (fun sz => r_X5_children W0 k14.2 k15.2 e18 sz) (cwV 3 C.1.2.2.2.2 gX10_quotedAgain_X5_children rfl rfl rfl (by decide +kernel) ⟨Nat.le_of_ble_eq_true rfl, Nat.le_of_ble_eq_true rfl⟩) rfl rfl (Nat.le_of_ble_eq_true rfl) dX10_quotedAgain_16 ⟨Nat.le_of_ble_eq_true rfl, Nat.le_of_ble_eq_true rfl⟩ ?_
  exact pv_iret C hr hlk h dX10_quotedAgain_19
def E_X10_readAt (G : pq_G) (S : pq_N) (a0 : Nat) (x1 : Int32) (x2 : Int32) : Option (Int32 × pq_N) := (pq_bd (E_X10_needPamphlet G S a0 x1) fun _ S12 => (pq_bd (F_X3_gatherReading G S12 (pq_r G a0 5) (pq_r G a0 0) x1) fun v16 S17 => (pq_bd (E_X10_needPlace G S17 x2 v16) fun _ S20 => (pq_bd (F_X3_readIn G S20 (pq_r G a0 5) x2) fun v23 S24 => some (v23, S24)))))
theorem d_X10_readAt (G : pq_G) (S : pq_N) (a0 : Nat) (x1 : Int32) (x2 : Int32) : E_X10_readAt G S a0 x1 x2 = pq_dr (F_X10_readAt G S a0 x1 x2) := by
  simp only [F_X10_readAt, E_X10_readAt, dr_n, dr_l, dr_r, dr_if, dr_bd, dr_lt, dr_bx, d_X10_needPlace, d_X10_needPamphlet]
theorem inu_EX10_readAt_10 : ∀ w ∈ u_ws RX10 TX10 7, w ∈ wsX10_readAt := pq_inu 49 rfl
set_option maxHeartbeats 4000000 in
set_option maxRecDepth 100000 in
theorem e_X10_readAt {l : Launch} {D : va_G} {y : pq_Y} {G : pq_G} (W0 : pq_WT G) {S : pq_N} {a0 : Nat} {x1 : Int32} {x2 : Int32} (k0_ : pq_ok G 10 a0) {r : Int32} {S1 : pq_N} (h : E_X10_readAt G S a0 x1 x2 = some (r, S1)) (sz : Nat) : Met l yX10_readAt wsX10_readAt ({ frames := 3, cells := 0, slots := 0, locals := 69 } : Room) (pq_P D y G S sz [.ref a0, .int x1, .int x2]) (pq_Qi D y G sz r S1) 0 0 (pq_A G sz) := by
  refine pq_enter RX10 3 (by decide) rfl rfl rfl ?_
  intro p e s m below meth c C hsz hr hlk
  subst hsz
  unfold E_X10_readAt at h
  refine pv_sub (lo1 := [(0, .ref a0), (1, .int x1), (2, .int x2)]) [0, 1, 2] rfl ?_
  refine pv_aload_n C 0 dX10_readAt_0 rfl rfl ?_
  refine pv_iload_n C 1 dX10_readAt_1 rfl rfl ?_
  obtain ⟨⟨⟩, S12, e13, h⟩ := pq_bs h
  refine pv_callvV C (ci := 10) rfl (by decide) k0_ [.int x1] (fun sz => e_X10_needPamphlet W0 k0_ e13 sz) (cwV 1 C.1.2.2.2.2 gX10_readAt_X10_needPamphlet rfl rfl rfl (by decide +kernel) ⟨Nat.le_of_ble_eq_true rfl, Nat.le_of_ble_eq_true rfl⟩) rfl rfl (Nat.le_of_ble_eq_true rfl) dX10_readAt_2 ⟨Nat.le_of_ble_eq_true rfl, Nat.le_of_ble_eq_true rfl⟩ ?_
  refine pv_iload_n C 2 dX10_readAt_5 rfl rfl ?_
  refine pv_aload_n C 0 dX10_readAt_6 rfl rfl ?_
  have k14 := pq_wt (k := 5) W0 k0_ rfl
  refine pv_getr (T := TX10) (N := 7) C 5 inu_EX10_readAt_10 rfl (by decide) (by decide) (List.mem_of_getElem? (i := 1) rfl) rfl k0_ k14.1 dX10_readAt_7 ?_
  refine pv_aload_n C 0 dX10_readAt_10 rfl rfl ?_
  have k15 := pq_wt (k := 0) W0 k0_ rfl
  refine pv_getr (T := TX10) (N := 7) C 0 inu_EX10_readAt_10 rfl (by decide) (by decide) (List.mem_of_getElem? (i := 2) rfl) rfl k0_ k15.1 dX10_readAt_11 ?_
  refine pv_iload_n C 1 dX10_readAt_14 rfl rfl ?_
  obtain ⟨v16, S17, e18, h⟩ := pq_bs h
  refine pv_calliV C (ci := 3) rfl (by decide) k14.2 [.ref (pq_r G a0 0), .int x1] (fun sz => r_X3_gatherReading W0 k14.2 k15.2 e18 sz) (cwV 2 C.1.2.2.2.2 gX10_readAt_X3_gatherReading rfl rfl rfl (by decide +kernel) ⟨Nat.le_of_ble_eq_true rfl, Nat.le_of_ble_eq_true rfl⟩) rfl rfl (Nat.le_of_ble_eq_true rfl) dX10_readAt_15 ⟨Nat.le_of_ble_eq_true rfl, Nat.le_of_ble_eq_true rfl⟩ ?_
  obtain ⟨⟨⟩, S20, e21, h⟩ := pq_bs h
  refine pv_callvS C [.int x2, .int v16] (fun sz => e_X10_needPlace W0  e21 sz) (va_cwS 2 C.1.2.2.2.2 gX10_readAt_X10_needPlace rfl rfl rfl (by decide +kernel) ⟨Nat.le_of_ble_eq_true rfl, Nat.le_of_ble_eq_true rfl⟩) rfl rfl (Nat.le_of_ble_eq_true rfl) dX10_readAt_18 ⟨Nat.le_of_ble_eq_true rfl, Nat.le_of_ble_eq_true rfl⟩ ?_
  refine pv_aload_n C 0 dX10_readAt_21 rfl rfl ?_
  have k22 := pq_wt (k := 5) W0 k0_ rfl
  refine pv_getr (T := TX10) (N := 7) C 5 inu_EX10_readAt_10 rfl (by decide) (by decide) (List.mem_of_getElem? (i := 1) rfl) rfl k0_ k22.1 dX10_readAt_22 ?_
  refine pv_iload_n C 2 dX10_readAt_25 rfl rfl ?_
  obtain ⟨v23, S24, e25, h⟩ := pq_bs h
  refine pv_calliV C (ci := 3) rfl (by decide) k22.2 [.int x2] (fun sz => r_X3_readIn W0 k22.2 e25 sz) (cwV 1 C.1.2.2.2.2 gX10_readAt_X3_readIn rfl rfl rfl (by decide +kernel) ⟨Nat.le_of_ble_eq_true rfl, Nat.le_of_ble_eq_true rfl⟩) rfl rfl (Nat.le_of_ble_eq_true rfl) dX10_readAt_26 ⟨Nat.le_of_ble_eq_true rfl, Nat.le_of_ble_eq_true rfl⟩ ?_
  exact pv_iret C hr hlk h dX10_readAt_29
def E_X10_readingOf (G : pq_G) (S : pq_N) (a0 : Nat) (x1 : Int32) : Option (Int32 × pq_N) := (pq_bd (E_X10_needPamphlet G S a0 x1) fun _ S12 => (pq_bd (F_X3_gatherReading G S12 (pq_r G a0 5) (pq_r G a0 0) x1) fun v16 S17 => some (v16, S17)))
theorem d_X10_readingOf (G : pq_G) (S : pq_N) (a0 : Nat) (x1 : Int32) : E_X10_readingOf G S a0 x1 = pq_dr (F_X10_readingOf G S a0 x1) := by
  simp only [F_X10_readingOf, E_X10_readingOf, dr_n, dr_l, dr_r, dr_if, dr_bd, dr_lt, dr_bx, d_X10_needPamphlet]
theorem inu_EX10_readingOf_10 : ∀ w ∈ u_ws RX10 TX10 7, w ∈ wsX10_readingOf := pq_inu 42 rfl
set_option maxHeartbeats 4000000 in
set_option maxRecDepth 100000 in
theorem e_X10_readingOf {l : Launch} {D : va_G} {y : pq_Y} {G : pq_G} (W0 : pq_WT G) {S : pq_N} {a0 : Nat} {x1 : Int32} (k0_ : pq_ok G 10 a0) {r : Int32} {S1 : pq_N} (h : E_X10_readingOf G S a0 x1 = some (r, S1)) (sz : Nat) : Met l yX10_readingOf wsX10_readingOf ({ frames := 3, cells := 0, slots := 0, locals := 69 } : Room) (pq_P D y G S sz [.ref a0, .int x1]) (pq_Qi D y G sz r S1) 0 0 (pq_A G sz) := by
  refine pq_enter RX10 2 (by decide) rfl rfl rfl ?_
  intro p e s m below meth c C hsz hr hlk
  subst hsz
  unfold E_X10_readingOf at h
  refine pv_sub (lo1 := [(0, .ref a0), (1, .int x1)]) [0, 1] rfl ?_
  refine pv_aload_n C 0 dX10_readingOf_0 rfl rfl ?_
  refine pv_iload_n C 1 dX10_readingOf_1 rfl rfl ?_
  obtain ⟨⟨⟩, S12, e13, h⟩ := pq_bs h
  refine pv_callvV C (ci := 10) rfl (by decide) k0_ [.int x1] (fun sz => e_X10_needPamphlet W0 k0_ e13 sz) (cwV 1 C.1.2.2.2.2 gX10_readingOf_X10_needPamphlet rfl rfl rfl (by decide +kernel) ⟨Nat.le_of_ble_eq_true rfl, Nat.le_of_ble_eq_true rfl⟩) rfl rfl (Nat.le_of_ble_eq_true rfl) dX10_readingOf_2 ⟨Nat.le_of_ble_eq_true rfl, Nat.le_of_ble_eq_true rfl⟩ ?_
  refine pv_aload_n C 0 dX10_readingOf_5 rfl rfl ?_
  have k14 := pq_wt (k := 5) W0 k0_ rfl
  refine pv_getr (T := TX10) (N := 7) C 5 inu_EX10_readingOf_10 rfl (by decide) (by decide) (List.mem_of_getElem? (i := 1) rfl) rfl k0_ k14.1 dX10_readingOf_6 ?_
  refine pv_aload_n C 0 dX10_readingOf_9 rfl rfl ?_
  have k15 := pq_wt (k := 0) W0 k0_ rfl
  refine pv_getr (T := TX10) (N := 7) C 0 inu_EX10_readingOf_10 rfl (by decide) (by decide) (List.mem_of_getElem? (i := 2) rfl) rfl k0_ k15.1 dX10_readingOf_10 ?_
  refine pv_iload_n C 1 dX10_readingOf_13 rfl rfl ?_
  obtain ⟨v16, S17, e18, h⟩ := pq_bs h
  refine pv_calliV C (ci := 3) rfl (by decide) k14.2 [.ref (pq_r G a0 0), .int x1] (fun sz => r_X3_gatherReading W0 k14.2 k15.2 e18 sz) (cwV 2 C.1.2.2.2.2 gX10_readingOf_X3_gatherReading rfl rfl rfl (by decide +kernel) ⟨Nat.le_of_ble_eq_true rfl, Nat.le_of_ble_eq_true rfl⟩) rfl rfl (Nat.le_of_ble_eq_true rfl) dX10_readingOf_14 ⟨Nat.le_of_ble_eq_true rfl, Nat.le_of_ble_eq_true rfl⟩ ?_
  exact pv_iret C hr hlk h dX10_readingOf_17
def E_X10_restoreSnapshot (G : pq_G) (S : pq_N) (a0 : Nat) : Option (Int32 × pq_N) := (if (S.1 (pq_r G a0 1) 2) = (0 : Int32) then none else (pq_bd (F_X2_save G S (pq_r G a0 1) (pq_r G a0 0)) fun _ S16 => (pq_bd (F_X9_copy G S16 (pq_r G a0 0) (pq_r G (pq_r G a0 1) 1)) fun _ S22 => some ((S22.1 (pq_r G a0 0) 2), S22))))
theorem d_X10_restoreSnapshot (G : pq_G) (S : pq_N) (a0 : Nat) : E_X10_restoreSnapshot G S a0 = pq_dr (F_X10_restoreSnapshot G S a0) := by
  simp only [F_X10_restoreSnapshot, E_X10_restoreSnapshot, dr_n, dr_l, dr_r, dr_if, dr_bd, dr_lt, dr_bx]
theorem inu_EX10_restoreSnapshot_2 : ∀ w ∈ u_ws RX2 TX2 5, w ∈ wsX10_restoreSnapshot := pq_inu 61 rfl
theorem inu_EX10_restoreSnapshot_9 : ∀ w ∈ u_ws RX9 TX9 4, w ∈ wsX10_restoreSnapshot := pq_inu 66 rfl
theorem inu_EX10_restoreSnapshot_10 : ∀ w ∈ u_ws RX10 TX10 7, w ∈ wsX10_restoreSnapshot := pq_inu 54 rfl
set_option maxHeartbeats 4000000 in
set_option maxRecDepth 100000 in
theorem e_X10_restoreSnapshot {l : Launch} {D : va_G} {y : pq_Y} {G : pq_G} (W0 : pq_WT G) {S : pq_N} {a0 : Nat} (k0_ : pq_ok G 10 a0) {r : Int32} {S1 : pq_N} (h : E_X10_restoreSnapshot G S a0 = some (r, S1)) (sz : Nat) : Met l yX10_restoreSnapshot wsX10_restoreSnapshot ({ frames := 5, cells := 0, slots := 0, locals := 113 } : Room) (pq_P D y G S sz [.ref a0]) (pq_Qi D y G sz r S1) 0 0 (pq_A G sz) := by
  refine pq_enter RX10 1 (by decide) rfl rfl rfl ?_
  intro p e s m below meth c C hsz hr hlk
  subst hsz
  unfold E_X10_restoreSnapshot at h
  refine pv_sub (lo1 := [(0, .ref a0)]) [0] rfl ?_
  refine pv_aload_n C 0 dX10_restoreSnapshot_0 rfl rfl ?_
  have k11 := pq_wt (k := 1) W0 k0_ rfl
  refine pv_getr (T := TX10) (N := 7) C 1 inu_EX10_restoreSnapshot_10 rfl (by decide) (by decide) (List.mem_of_getElem? (i := 3) rfl) rfl k0_ k11.1 dX10_restoreSnapshot_1 ?_
  refine pv_getiN (T := TX2) (N := 5) C 2 inu_EX10_restoreSnapshot_2 rfl (by decide) (by decide) (List.mem_of_getElem? (i := 33) rfl) rfl k11.2 dX10_restoreSnapshot_4 ?_
  refine pv_if_ne (tgt := 21) C dX10_restoreSnapshot_7 (by decide) (fun c12 => ?_) (fun c12 => ?_)
  · have h := pq_if c12 h
    refine pv_aload_n C 0 dX10_restoreSnapshot_21 rfl rfl ?_
    have k13 := pq_wt (k := 1) W0 k0_ rfl
    refine pv_getr (T := TX10) (N := 7) C 1 inu_EX10_restoreSnapshot_10 rfl (by decide) (by decide) (List.mem_of_getElem? (i := 3) rfl) rfl k0_ k13.1 dX10_restoreSnapshot_22 ?_
    refine pv_aload_n C 0 dX10_restoreSnapshot_25 rfl rfl ?_
    have k14 := pq_wt (k := 0) W0 k0_ rfl
    refine pv_getr (T := TX10) (N := 7) C 0 inu_EX10_restoreSnapshot_10 rfl (by decide) (by decide) (List.mem_of_getElem? (i := 4) rfl) rfl k0_ k14.1 dX10_restoreSnapshot_26 ?_
    obtain ⟨⟨⟩, S16, e17, h⟩ := pq_bs h
    refine pv_callvV C (ci := 2) rfl (by decide) k13.2 [.ref (pq_r G a0 0)] (fun sz => r_X2_save W0 k13.2 k14.2 e17 sz) (cwV 1 C.1.2.2.2.2 gX10_restoreSnapshot_X2_save rfl rfl rfl (by decide +kernel) ⟨Nat.le_of_ble_eq_true rfl, Nat.le_of_ble_eq_true rfl⟩) rfl rfl (Nat.le_of_ble_eq_true rfl) dX10_restoreSnapshot_29 ⟨Nat.le_of_ble_eq_true rfl, Nat.le_of_ble_eq_true rfl⟩ ?_
    refine pv_aload_n C 0 dX10_restoreSnapshot_32 rfl rfl ?_
    have k18 := pq_wt (k := 0) W0 k0_ rfl
    refine pv_getr (T := TX10) (N := 7) C 0 inu_EX10_restoreSnapshot_10 rfl (by decide) (by decide) (List.mem_of_getElem? (i := 4) rfl) rfl k0_ k18.1 dX10_restoreSnapshot_33 ?_
    refine pv_aload_n C 0 dX10_restoreSnapshot_36 rfl rfl ?_
    have k19 := pq_wt (k := 1) W0 k0_ rfl
    refine pv_getr (T := TX10) (N := 7) C 1 inu_EX10_restoreSnapshot_10 rfl (by decide) (by decide) (List.mem_of_getElem? (i := 3) rfl) rfl k0_ k19.1 dX10_restoreSnapshot_37 ?_
    have k20 := pq_wt (k := 1) W0 k19.2 rfl
    refine pv_getrN (T := TX2) (N := 5) C 1 inu_EX10_restoreSnapshot_2 rfl (by decide) (by decide) (List.mem_of_getElem? (i := 32) rfl) rfl k19.2 k20.1 dX10_restoreSnapshot_40 ?_
    obtain ⟨⟨⟩, S22, e23, h⟩ := pq_bs h
    refine pv_callvV C (ci := 9) rfl (by decide) k18.2 [.ref (pq_r G (pq_r G a0 1) 1)] (fun sz => r_X9_copy W0 k18.2 k20.2 e23 sz) (cwV 1 C.1.2.2.2.2 gX10_restoreSnapshot_X9_copy rfl rfl rfl (by decide +kernel) ⟨Nat.le_of_ble_eq_true rfl, Nat.le_of_ble_eq_true rfl⟩) rfl rfl (Nat.le_of_ble_eq_true rfl) dX10_restoreSnapshot_43 ⟨Nat.le_of_ble_eq_true rfl, Nat.le_of_ble_eq_true rfl⟩ ?_
    refine pv_aload_n C 0 dX10_restoreSnapshot_46 rfl rfl ?_
    have k24 := pq_wt (k := 0) W0 k0_ rfl
    refine pv_getr (T := TX10) (N := 7) C 0 inu_EX10_restoreSnapshot_10 rfl (by decide) (by decide) (List.mem_of_getElem? (i := 4) rfl) rfl k0_ k24.1 dX10_restoreSnapshot_47 ?_
    refine pv_getiN (T := TX9) (N := 4) C 2 inu_EX10_restoreSnapshot_9 rfl (by decide) (by decide) (List.mem_of_getElem? (i := 29) rfl) rfl k24.2 dX10_restoreSnapshot_50 ?_
    exact pv_iret C hr hlk h dX10_restoreSnapshot_53
  · have h := pq_it c12 h
    cases h
def E_X10_sourceOf (G : pq_G) (S : pq_N) (a0 : Nat) (x1 : Int32) (x2 : Int32) : Option (Int32 × pq_N) := (pq_bd (E_X10_needQuotation G S a0 x1 x2) fun _ S12 => (pq_bd (F_X9_at G S12 (pq_r G a0 0) x1) fun v15 S16 => (pq_bd (F_X7_number G S16 (pq_r G v15 1) x2) fun v20 S21 => some (v20, S21))))
theorem d_X10_sourceOf (G : pq_G) (S : pq_N) (a0 : Nat) (x1 : Int32) (x2 : Int32) : E_X10_sourceOf G S a0 x1 x2 = pq_dr (F_X10_sourceOf G S a0 x1 x2) := by
  simp only [F_X10_sourceOf, E_X10_sourceOf, dr_n, dr_l, dr_r, dr_if, dr_bd, dr_lt, dr_bx, d_X10_needQuotation]
theorem inu_EX10_sourceOf_4 : ∀ w ∈ u_ws RX4 TX4 8, w ∈ wsX10_sourceOf := pq_inu 38 rfl
theorem inu_EX10_sourceOf_10 : ∀ w ∈ u_ws RX10 TX10 7, w ∈ wsX10_sourceOf := pq_inu 31 rfl
set_option maxHeartbeats 4000000 in
set_option maxRecDepth 100000 in
theorem e_X10_sourceOf {l : Launch} {D : va_G} {y : pq_Y} {G : pq_G} (W0 : pq_WT G) {S : pq_N} {a0 : Nat} {x1 : Int32} {x2 : Int32} (k0_ : pq_ok G 10 a0) {r : Int32} {S1 : pq_N} (h : E_X10_sourceOf G S a0 x1 x2 = some (r, S1)) (sz : Nat) : Met l yX10_sourceOf wsX10_sourceOf ({ frames := 3, cells := 0, slots := 0, locals := 64 } : Room) (pq_P D y G S sz [.ref a0, .int x1, .int x2]) (pq_Qi D y G sz r S1) 0 0 (pq_A G sz) := by
  refine pq_enter RX10 3 (by decide) rfl rfl rfl ?_
  intro p e s m below meth c C hsz hr hlk
  subst hsz
  unfold E_X10_sourceOf at h
  refine pv_sub (lo1 := [(0, .ref a0), (1, .int x1), (2, .int x2)]) [0, 1, 2] rfl ?_
  refine pv_aload_n C 0 dX10_sourceOf_0 rfl rfl ?_
  refine pv_iload_n C 1 dX10_sourceOf_1 rfl rfl ?_
  refine pv_iload_n C 2 dX10_sourceOf_2 rfl rfl ?_
  obtain ⟨⟨⟩, S12, e13, h⟩ := pq_bs h
  refine pv_callvV C (ci := 10) rfl (by decide) k0_ [.int x1, .int x2] (fun sz => e_X10_needQuotation W0 k0_ e13 sz) (cwV 2 C.1.2.2.2.2 gX10_sourceOf_X10_needQuotation rfl rfl rfl (by decide +kernel) ⟨Nat.le_of_ble_eq_true rfl, Nat.le_of_ble_eq_true rfl⟩) rfl rfl (Nat.le_of_ble_eq_true rfl) dX10_sourceOf_3 ⟨Nat.le_of_ble_eq_true rfl, Nat.le_of_ble_eq_true rfl⟩ ?_
  refine pv_aload_n C 0 dX10_sourceOf_6 rfl rfl ?_
  have k14 := pq_wt (k := 0) W0 k0_ rfl
  refine pv_getr (T := TX10) (N := 7) C 0 inu_EX10_sourceOf_10 rfl (by decide) (by decide) (List.mem_of_getElem? (i := 1) rfl) rfl k0_ k14.1 dX10_sourceOf_7 ?_
  refine pv_iload_n C 1 dX10_sourceOf_10 rfl rfl ?_
  obtain ⟨v15, S16, e17, h⟩ := pq_bs h
  have k18 := o_X9_at W0 k14.2 e17
  refine pv_callrV C (ci := 9) rfl (by decide) k14.2 [.int x1] (fun sz => r_X9_at W0 k14.2 e17 sz) (cwV 1 C.1.2.2.2.2 gX10_sourceOf_X9_at rfl rfl rfl (by decide +kernel) ⟨Nat.le_of_ble_eq_true rfl, Nat.le_of_ble_eq_true rfl⟩) rfl rfl (Nat.le_of_ble_eq_true rfl) dX10_sourceOf_11 ⟨Nat.le_of_ble_eq_true rfl, Nat.le_of_ble_eq_true rfl⟩ ?_
  have k19 := pq_wt (k := 1) W0 k18 rfl
  refine pv_getrN (T := TX4) (N := 8) C 1 inu_EX10_sourceOf_4 rfl (by decide) (by decide) (List.mem_of_getElem? (i := 8) rfl) rfl k18 k19.1 dX10_sourceOf_14 ?_
  refine pv_iload_n C 2 dX10_sourceOf_17 rfl rfl ?_
  obtain ⟨v20, S21, e22, h⟩ := pq_bs h
  refine pv_calliV C (ci := 7) rfl (by decide) k19.2 [.int x2] (fun sz => r_X7_number W0 k19.2 e22 sz) (cwV 1 C.1.2.2.2.2 gX10_sourceOf_X7_number rfl rfl rfl (by decide +kernel) ⟨Nat.le_of_ble_eq_true rfl, Nat.le_of_ble_eq_true rfl⟩) rfl rfl (Nat.le_of_ble_eq_true rfl) dX10_sourceOf_18 ⟨Nat.le_of_ble_eq_true rfl, Nat.le_of_ble_eq_true rfl⟩ ?_
  exact pv_iret C hr hlk h dX10_sourceOf_21
def E_X10_timesOf (G : pq_G) (S : pq_N) (a0 : Nat) (x1 : Int32) : Option (Int32 × pq_N) := (pq_bd (F_X1_gather G S (pq_r G a0 6) (pq_r G a0 0)) fun _ S14 => (pq_bd (E_X10_needPlace G S14 x1 (S14.1 (pq_r G a0 6) 2)) fun _ S18 => (pq_bd (F_X7_number G S18 (pq_r G (pq_r G a0 6) 1) x1) fun v22 S23 => some (v22, S23))))
theorem d_X10_timesOf (G : pq_G) (S : pq_N) (a0 : Nat) (x1 : Int32) : E_X10_timesOf G S a0 x1 = pq_dr (F_X10_timesOf G S a0 x1) := by
  simp only [F_X10_timesOf, E_X10_timesOf, dr_n, dr_l, dr_r, dr_if, dr_bd, dr_lt, dr_bx, d_X10_needPlace]
theorem inu_EX10_timesOf_1 : ∀ w ∈ u_ws RX1 TX1 3, w ∈ wsX10_timesOf := pq_inu 58 rfl
theorem inu_EX10_timesOf_10 : ∀ w ∈ u_ws RX10 TX10 7, w ∈ wsX10_timesOf := pq_inu 51 rfl
set_option maxHeartbeats 4000000 in
set_option maxRecDepth 100000 in
theorem e_X10_timesOf {l : Launch} {D : va_G} {y : pq_Y} {G : pq_G} (W0 : pq_WT G) {S : pq_N} {a0 : Nat} {x1 : Int32} (k0_ : pq_ok G 10 a0) {r : Int32} {S1 : pq_N} (h : E_X10_timesOf G S a0 x1 = some (r, S1)) (sz : Nat) : Met l yX10_timesOf wsX10_timesOf ({ frames := 4, cells := 0, slots := 0, locals := 95 } : Room) (pq_P D y G S sz [.ref a0, .int x1]) (pq_Qi D y G sz r S1) 0 0 (pq_A G sz) := by
  refine pq_enter RX10 2 (by decide) rfl rfl rfl ?_
  intro p e s m below meth c C hsz hr hlk
  subst hsz
  unfold E_X10_timesOf at h
  refine pv_sub (lo1 := [(0, .ref a0), (1, .int x1)]) [0, 1] rfl ?_
  refine pv_aload_n C 0 dX10_timesOf_0 rfl rfl ?_
  have k11 := pq_wt (k := 6) W0 k0_ rfl
  refine pv_getr (T := TX10) (N := 7) C 6 inu_EX10_timesOf_10 rfl (by decide) (by decide) (List.mem_of_getElem? (i := 1) rfl) rfl k0_ k11.1 dX10_timesOf_1 ?_
  refine pv_aload_n C 0 dX10_timesOf_4 rfl rfl ?_
  have k12 := pq_wt (k := 0) W0 k0_ rfl
  refine pv_getr (T := TX10) (N := 7) C 0 inu_EX10_timesOf_10 rfl (by decide) (by decide) (List.mem_of_getElem? (i := 2) rfl) rfl k0_ k12.1 dX10_timesOf_5 ?_
  obtain ⟨⟨⟩, S14, e15, h⟩ := pq_bs h
  refine pv_callvV C (ci := 1) rfl (by decide) k11.2 [.ref (pq_r G a0 0)] (fun sz => r_X1_gather W0 k11.2 k12.2 e15 sz) (cwV 1 C.1.2.2.2.2 gX10_timesOf_X1_gather rfl rfl rfl (by decide +kernel) ⟨Nat.le_of_ble_eq_true rfl, Nat.le_of_ble_eq_true rfl⟩) rfl rfl (Nat.le_of_ble_eq_true rfl) dX10_timesOf_8 ⟨Nat.le_of_ble_eq_true rfl, Nat.le_of_ble_eq_true rfl⟩ ?_
  refine pv_iload_n C 1 dX10_timesOf_11 rfl rfl ?_
  refine pv_aload_n C 0 dX10_timesOf_12 rfl rfl ?_
  have k16 := pq_wt (k := 6) W0 k0_ rfl
  refine pv_getr (T := TX10) (N := 7) C 6 inu_EX10_timesOf_10 rfl (by decide) (by decide) (List.mem_of_getElem? (i := 1) rfl) rfl k0_ k16.1 dX10_timesOf_13 ?_
  refine pv_getiN (T := TX1) (N := 3) C 2 inu_EX10_timesOf_1 rfl (by decide) (by decide) (List.mem_of_getElem? (i := 50) rfl) rfl k16.2 dX10_timesOf_16 ?_
  obtain ⟨⟨⟩, S18, e19, h⟩ := pq_bs h
  refine pv_callvS C [.int x1, .int (S14.1 (pq_r G a0 6) 2)] (fun sz => e_X10_needPlace W0  e19 sz) (va_cwS 2 C.1.2.2.2.2 gX10_timesOf_X10_needPlace rfl rfl rfl (by decide +kernel) ⟨Nat.le_of_ble_eq_true rfl, Nat.le_of_ble_eq_true rfl⟩) rfl rfl (Nat.le_of_ble_eq_true rfl) dX10_timesOf_19 ⟨Nat.le_of_ble_eq_true rfl, Nat.le_of_ble_eq_true rfl⟩ ?_
  refine pv_aload_n C 0 dX10_timesOf_22 rfl rfl ?_
  have k20 := pq_wt (k := 6) W0 k0_ rfl
  refine pv_getr (T := TX10) (N := 7) C 6 inu_EX10_timesOf_10 rfl (by decide) (by decide) (List.mem_of_getElem? (i := 1) rfl) rfl k0_ k20.1 dX10_timesOf_23 ?_
  have k21 := pq_wt (k := 1) W0 k20.2 rfl
  refine pv_getrN (T := TX1) (N := 3) C 1 inu_EX10_timesOf_1 rfl (by decide) (by decide) (List.mem_of_getElem? (i := 49) rfl) rfl k20.2 k21.1 dX10_timesOf_26 ?_
  refine pv_iload_n C 1 dX10_timesOf_29 rfl rfl ?_
  obtain ⟨v22, S23, e24, h⟩ := pq_bs h
  refine pv_calliV C (ci := 7) rfl (by decide) k21.2 [.int x1] (fun sz => r_X7_number W0 k21.2 e24 sz) (cwV 1 C.1.2.2.2.2 gX10_timesOf_X7_number rfl rfl rfl (by decide +kernel) ⟨Nat.le_of_ble_eq_true rfl, Nat.le_of_ble_eq_true rfl⟩) rfl rfl (Nat.le_of_ble_eq_true rfl) dX10_timesOf_30 ⟨Nat.le_of_ble_eq_true rfl, Nat.le_of_ble_eq_true rfl⟩ ?_
  exact pv_iret C hr hlk h dX10_timesOf_33
def E_X10_traceOf (G : pq_G) (S : pq_N) (a0 : Nat) (x1 : Int32) (x2 : Int32) : Option (Int32 × pq_N) := (pq_bd (E_X10_needQuotation G S a0 x1 x2) fun _ S12 => (pq_bd (F_X5_trace G S12 (pq_r G a0 4) (pq_r G a0 0) x1 x2) fun _ S17 => some ((S17.1 (pq_r G a0 4) 2), S17)))
theorem d_X10_traceOf (G : pq_G) (S : pq_N) (a0 : Nat) (x1 : Int32) (x2 : Int32) : E_X10_traceOf G S a0 x1 x2 = pq_dr (F_X10_traceOf G S a0 x1 x2) := by
  simp only [F_X10_traceOf, E_X10_traceOf, dr_n, dr_l, dr_r, dr_if, dr_bd, dr_lt, dr_bx, d_X10_needQuotation]
theorem inu_EX10_traceOf_5 : ∀ w ∈ u_ws RX5 TX5 3, w ∈ wsX10_traceOf := pq_inu 99 rfl
theorem inu_EX10_traceOf_10 : ∀ w ∈ u_ws RX10 TX10 7, w ∈ wsX10_traceOf := pq_inu 92 rfl
set_option maxHeartbeats 4000000 in
set_option maxRecDepth 100000 in
theorem e_X10_traceOf {l : Launch} {D : va_G} {y : pq_Y} {G : pq_G} (W0 : pq_WT G) {S : pq_N} {a0 : Nat} {x1 : Int32} {x2 : Int32} (k0_ : pq_ok G 10 a0) {r : Int32} {S1 : pq_N} (h : E_X10_traceOf G S a0 x1 x2 = some (r, S1)) (sz : Nat) : Met l yX10_traceOf wsX10_traceOf ({ frames := 6, cells := 0, slots := 0, locals := 152 } : Room) (pq_P D y G S sz [.ref a0, .int x1, .int x2]) (pq_Qi D y G sz r S1) 0 0 (pq_A G sz) := by
  refine pq_enter RX10 3 (by decide) rfl rfl rfl ?_
  intro p e s m below meth c C hsz hr hlk
  subst hsz
  unfold E_X10_traceOf at h
  refine pv_sub (lo1 := [(0, .ref a0), (1, .int x1), (2, .int x2)]) [0, 1, 2] rfl ?_
  refine pv_aload_n C 0 dX10_traceOf_0 rfl rfl ?_
  refine pv_iload_n C 1 dX10_traceOf_1 rfl rfl ?_
  refine pv_iload_n C 2 dX10_traceOf_2 rfl rfl ?_
  obtain ⟨⟨⟩, S12, e13, h⟩ := pq_bs h
  refine pv_callvV C (ci := 10) rfl (by decide) k0_ [.int x1, .int x2] (fun sz => e_X10_needQuotation W0 k0_ e13 sz) (cwV 2 C.1.2.2.2.2 gX10_traceOf_X10_needQuotation rfl rfl rfl (by decide +kernel) ⟨Nat.le_of_ble_eq_true rfl, Nat.le_of_ble_eq_true rfl⟩) rfl rfl (Nat.le_of_ble_eq_true rfl) dX10_traceOf_3 ⟨Nat.le_of_ble_eq_true rfl, Nat.le_of_ble_eq_true rfl⟩ ?_
  refine pv_aload_n C 0 dX10_traceOf_6 rfl rfl ?_
  have k14 := pq_wt (k := 4) W0 k0_ rfl
  refine pv_getr (T := TX10) (N := 7) C 4 inu_EX10_traceOf_10 rfl (by decide) (by decide) (List.mem_of_getElem? (i := 1) rfl) rfl k0_ k14.1 dX10_traceOf_7 ?_
  refine pv_aload_n C 0 dX10_traceOf_10 rfl rfl ?_
  have k15 := pq_wt (k := 0) W0 k0_ rfl
  refine pv_getr (T := TX10) (N := 7) C 0 inu_EX10_traceOf_10 rfl (by decide) (by decide) (List.mem_of_getElem? (i := 2) rfl) rfl k0_ k15.1 dX10_traceOf_11 ?_
  refine pv_iload_n C 1 dX10_traceOf_14 rfl rfl ?_
  refine pv_iload_n C 2 dX10_traceOf_15 rfl rfl ?_
  obtain ⟨⟨⟩, S17, e18, h⟩ := pq_bs h
  refine pv_callvV C (ci := 5) rfl (by decide) k14.2 [.ref (pq_r G a0 0), .int x1, .int x2] (fun sz => r_X5_trace W0 k14.2 k15.2 e18 sz) (cwV 3 C.1.2.2.2.2 gX10_traceOf_X5_trace rfl rfl rfl (by decide +kernel) ⟨Nat.le_of_ble_eq_true rfl, Nat.le_of_ble_eq_true rfl⟩) rfl rfl (Nat.le_of_ble_eq_true rfl) dX10_traceOf_16 ⟨Nat.le_of_ble_eq_true rfl, Nat.le_of_ble_eq_true rfl⟩ ?_
  refine pv_aload_n C 0 dX10_traceOf_19 rfl rfl ?_
  have k19 := pq_wt (k := 4) W0 k0_ rfl
  refine pv_getr (T := TX10) (N := 7) C 4 inu_EX10_traceOf_10 rfl (by decide) (by decide) (List.mem_of_getElem? (i := 1) rfl) rfl k0_ k19.1 dX10_traceOf_20 ?_
  refine pv_getiN (T := TX5) (N := 3) C 2 inu_EX10_traceOf_5 rfl (by decide) (by decide) (List.mem_of_getElem? (i := 47) rfl) rfl k19.2 dX10_traceOf_23 ?_
  exact pv_iret C hr hlk h dX10_traceOf_26
def E_X10_undo (G : pq_G) (S : pq_N) (a0 : Nat) : Option (Int32 × pq_N) := (if (S.1 (pq_r G a0 1) 4) = (0 : Int32) then none else (pq_bd (F_X2_takeBack G S (pq_r G a0 1) (pq_r G a0 0)) fun _ S16 => some ((S16.1 (pq_r G a0 1) 4), S16)))
theorem d_X10_undo (G : pq_G) (S : pq_N) (a0 : Nat) : E_X10_undo G S a0 = pq_dr (F_X10_undo G S a0) := by
  simp only [F_X10_undo, E_X10_undo, dr_n, dr_l, dr_r, dr_if, dr_bd, dr_lt, dr_bx]
theorem inu_EX10_undo_2 : ∀ w ∈ u_ws RX2 TX2 5, w ∈ wsX10_undo := pq_inu 60 rfl
theorem inu_EX10_undo_10 : ∀ w ∈ u_ws RX10 TX10 7, w ∈ wsX10_undo := pq_inu 53 rfl
set_option maxHeartbeats 4000000 in
set_option maxRecDepth 100000 in
theorem e_X10_undo {l : Launch} {D : va_G} {y : pq_Y} {G : pq_G} (W0 : pq_WT G) {S : pq_N} {a0 : Nat} (k0_ : pq_ok G 10 a0) {r : Int32} {S1 : pq_N} (h : E_X10_undo G S a0 = some (r, S1)) (sz : Nat) : Met l yX10_undo wsX10_undo ({ frames := 5, cells := 0, slots := 0, locals := 113 } : Room) (pq_P D y G S sz [.ref a0]) (pq_Qi D y G sz r S1) 0 0 (pq_A G sz) := by
  refine pq_enter RX10 1 (by decide) rfl rfl rfl ?_
  intro p e s m below meth c C hsz hr hlk
  subst hsz
  unfold E_X10_undo at h
  refine pv_sub (lo1 := [(0, .ref a0)]) [0] rfl ?_
  refine pv_aload_n C 0 dX10_undo_0 rfl rfl ?_
  have k11 := pq_wt (k := 1) W0 k0_ rfl
  refine pv_getr (T := TX10) (N := 7) C 1 inu_EX10_undo_10 rfl (by decide) (by decide) (List.mem_of_getElem? (i := 3) rfl) rfl k0_ k11.1 dX10_undo_1 ?_
  refine pv_getiN (T := TX2) (N := 5) C 4 inu_EX10_undo_2 rfl (by decide) (by decide) (List.mem_of_getElem? (i := 34) rfl) rfl k11.2 dX10_undo_4 ?_
  refine pv_if_ne (tgt := 21) C dX10_undo_7 (by decide) (fun c12 => ?_) (fun c12 => ?_)
  · have h := pq_if c12 h
    refine pv_aload_n C 0 dX10_undo_21 rfl rfl ?_
    have k13 := pq_wt (k := 1) W0 k0_ rfl
    refine pv_getr (T := TX10) (N := 7) C 1 inu_EX10_undo_10 rfl (by decide) (by decide) (List.mem_of_getElem? (i := 3) rfl) rfl k0_ k13.1 dX10_undo_22 ?_
    refine pv_aload_n C 0 dX10_undo_25 rfl rfl ?_
    have k14 := pq_wt (k := 0) W0 k0_ rfl
    refine pv_getr (T := TX10) (N := 7) C 0 inu_EX10_undo_10 rfl (by decide) (by decide) (List.mem_of_getElem? (i := 4) rfl) rfl k0_ k14.1 dX10_undo_26 ?_
    obtain ⟨⟨⟩, S16, e17, h⟩ := pq_bs h
    refine pv_callvV C (ci := 2) rfl (by decide) k13.2 [.ref (pq_r G a0 0)] (fun sz => r_X2_takeBack W0 k13.2 k14.2 e17 sz) (cwV 1 C.1.2.2.2.2 gX10_undo_X2_takeBack rfl rfl rfl (by decide +kernel) ⟨Nat.le_of_ble_eq_true rfl, Nat.le_of_ble_eq_true rfl⟩) rfl rfl (Nat.le_of_ble_eq_true rfl) dX10_undo_29 ⟨Nat.le_of_ble_eq_true rfl, Nat.le_of_ble_eq_true rfl⟩ ?_
    refine pv_aload_n C 0 dX10_undo_32 rfl rfl ?_
    have k18 := pq_wt (k := 1) W0 k0_ rfl
    refine pv_getr (T := TX10) (N := 7) C 1 inu_EX10_undo_10 rfl (by decide) (by decide) (List.mem_of_getElem? (i := 3) rfl) rfl k0_ k18.1 dX10_undo_33 ?_
    refine pv_getiN (T := TX2) (N := 5) C 4 inu_EX10_undo_2 rfl (by decide) (by decide) (List.mem_of_getElem? (i := 34) rfl) rfl k18.2 dX10_undo_36 ?_
    exact pv_iret C hr hlk h dX10_undo_39
  · have h := pq_it c12 h
    cases h
def E_X10_withdraw (G : pq_G) (S : pq_N) (a0 : Nat) : Option (Int32 × pq_N) := (if (S.1 (pq_r G a0 0) 2) = (0 : Int32) then none else (pq_bd (F_X9_at G S (pq_r G a0 0) ((S.1 (pq_r G a0 0) 2) - (1 : Int32))) fun v15 S16 => (if (S16.1 v15 5) = (S16.1 (pq_r G a0 0) 3) then (pq_bd (F_X2_save G S16 (pq_r G a0 1) (pq_r G a0 0)) fun _ S24 => (pq_lt (pq_wi S24 (pq_r G a0 0) 2 ((S24.1 (pq_r G a0 0) 2) - (1 : Int32))) fun S27 => some ((S27.1 (pq_r G a0 0) 2), S27))) else none)))
theorem d_X10_withdraw (G : pq_G) (S : pq_N) (a0 : Nat) : E_X10_withdraw G S a0 = pq_dr (F_X10_withdraw G S a0) := by
  simp only [F_X10_withdraw, E_X10_withdraw, dr_n, dr_l, dr_r, dr_if, dr_bd, dr_lt, dr_bx]
theorem inu_EX10_withdraw_4 : ∀ w ∈ u_ws RX4 TX4 8, w ∈ wsX10_withdraw := pq_inu 65 rfl
theorem inu_EX10_withdraw_9 : ∀ w ∈ u_ws RX9 TX9 4, w ∈ wsX10_withdraw := pq_inu 61 rfl
theorem inu_EX10_withdraw_10 : ∀ w ∈ u_ws RX10 TX10 7, w ∈ wsX10_withdraw := pq_inu 54 rfl
set_option maxHeartbeats 4000000 in
set_option maxRecDepth 100000 in
theorem e_X10_withdraw {l : Launch} {D : va_G} {y : pq_Y} {G : pq_G} (W0 : pq_WT G) {S : pq_N} {a0 : Nat} (k0_ : pq_ok G 10 a0) {r : Int32} {S1 : pq_N} (h : E_X10_withdraw G S a0 = some (r, S1)) (sz : Nat) : Met l yX10_withdraw wsX10_withdraw ({ frames := 5, cells := 0, slots := 0, locals := 113 } : Room) (pq_P D y G S sz [.ref a0]) (pq_Qi D y G sz r S1) 0 0 (pq_A G sz) := by
  refine pq_enter RX10 1 (by decide) rfl rfl rfl ?_
  intro p e s m below meth c C hsz hr hlk
  subst hsz
  unfold E_X10_withdraw at h
  refine pv_sub (lo1 := [(0, .ref a0)]) [0] rfl ?_
  refine pv_aload_n C 0 dX10_withdraw_0 rfl rfl ?_
  have k11 := pq_wt (k := 0) W0 k0_ rfl
  refine pv_getr (T := TX10) (N := 7) C 0 inu_EX10_withdraw_10 rfl (by decide) (by decide) (List.mem_of_getElem? (i := 3) rfl) rfl k0_ k11.1 dX10_withdraw_1 ?_
  refine pv_getiN (T := TX9) (N := 4) C 2 inu_EX10_withdraw_9 rfl (by decide) (by decide) (List.mem_of_getElem? (i := 29) rfl) rfl k11.2 dX10_withdraw_4 ?_
  refine pv_if_ne (tgt := 20) C dX10_withdraw_7 (by decide) (fun c12 => ?_) (fun c12 => ?_)
  · have h := pq_if c12 h
    refine pv_aload_n C 0 dX10_withdraw_20 rfl rfl ?_
    have k13 := pq_wt (k := 0) W0 k0_ rfl
    refine pv_getr (T := TX10) (N := 7) C 0 inu_EX10_withdraw_10 rfl (by decide) (by decide) (List.mem_of_getElem? (i := 3) rfl) rfl k0_ k13.1 dX10_withdraw_21 ?_
    refine pv_aload_n C 0 dX10_withdraw_24 rfl rfl ?_
    have k14 := pq_wt (k := 0) W0 k0_ rfl
    refine pv_getr (T := TX10) (N := 7) C 0 inu_EX10_withdraw_10 rfl (by decide) (by decide) (List.mem_of_getElem? (i := 3) rfl) rfl k0_ k14.1 dX10_withdraw_25 ?_
    refine pv_getiN (T := TX9) (N := 4) C 2 inu_EX10_withdraw_9 rfl (by decide) (by decide) (List.mem_of_getElem? (i := 29) rfl) rfl k14.2 dX10_withdraw_28 ?_
    refine pv_iconst (v := 1) C dX10_withdraw_31 (by decide) ?_
    refine pv_isub C dX10_withdraw_32 ?_
    obtain ⟨v15, S16, e17, h⟩ := pq_bs h
    have k18 := o_X9_at W0 k13.2 e17
    refine pv_callrV C (ci := 9) rfl (by decide) k13.2 [.int ((S.1 (pq_r G a0 0) 2) - (1 : Int32))] (fun sz => r_X9_at W0 k13.2 e17 sz) (cwV 1 C.1.2.2.2.2 gX10_withdraw_X9_at rfl rfl rfl (by decide +kernel) ⟨Nat.le_of_ble_eq_true rfl, Nat.le_of_ble_eq_true rfl⟩) rfl rfl (Nat.le_of_ble_eq_true rfl) dX10_withdraw_33 ⟨Nat.le_of_ble_eq_true rfl, Nat.le_of_ble_eq_true rfl⟩ ?_
    refine pv_getiN (T := TX4) (N := 8) C 5 inu_EX10_withdraw_4 rfl (by decide) (by decide) (List.mem_of_getElem? (i := 17) rfl) rfl k18 dX10_withdraw_36 ?_
    refine pv_aload_n C 0 dX10_withdraw_39 rfl rfl ?_
    have k19 := pq_wt (k := 0) W0 k0_ rfl
    refine pv_getr (T := TX10) (N := 7) C 0 inu_EX10_withdraw_10 rfl (by decide) (by decide) (List.mem_of_getElem? (i := 3) rfl) rfl k0_ k19.1 dX10_withdraw_40 ?_
    refine pv_getiN (T := TX9) (N := 4) C 3 inu_EX10_withdraw_9 rfl (by decide) (by decide) (List.mem_of_getElem? (i := 31) rfl) rfl k19.2 dX10_withdraw_43 ?_
    refine pv_icmp_eq (tgt := 59) C dX10_withdraw_46 (by decide) (fun c20 => ?_) (fun c20 => ?_)
    · have h := pq_it c20 h
      refine pv_aload_n C 0 dX10_withdraw_59 rfl rfl ?_
      have k21 := pq_wt (k := 1) W0 k0_ rfl
      refine pv_getr (T := TX10) (N := 7) C 1 inu_EX10_withdraw_10 rfl (by decide) (by decide) (List.mem_of_getElem? (i := 4) rfl) rfl k0_ k21.1 dX10_withdraw_60 ?_
      refine pv_aload_n C 0 dX10_withdraw_63 rfl rfl ?_
      have k22 := pq_wt (k := 0) W0 k0_ rfl
      refine pv_getr (T := TX10) (N := 7) C 0 inu_EX10_withdraw_10 rfl (by decide) (by decide) (List.mem_of_getElem? (i := 3) rfl) rfl k0_ k22.1 dX10_withdraw_64 ?_
      obtain ⟨⟨⟩, S24, e25, h⟩ := pq_bs h
      refine pv_callvV C (ci := 2) rfl (by decide) k21.2 [.ref (pq_r G a0 0)] (fun sz => r_X2_save W0 k21.2 k22.2 e25 sz) (cwV 1 C.1.2.2.2.2 gX10_withdraw_X2_save rfl rfl rfl (by decide +kernel) ⟨Nat.le_of_ble_eq_true rfl, Nat.le_of_ble_eq_true rfl⟩) rfl rfl (Nat.le_of_ble_eq_true rfl) dX10_withdraw_67 ⟨Nat.le_of_ble_eq_true rfl, Nat.le_of_ble_eq_true rfl⟩ ?_
      refine pv_aload_n C 0 dX10_withdraw_70 rfl rfl ?_
      have k26 := pq_wt (k := 0) W0 k0_ rfl
      refine pv_getr (T := TX10) (N := 7) C 0 inu_EX10_withdraw_10 rfl (by decide) (by decide) (List.mem_of_getElem? (i := 3) rfl) rfl k0_ k26.1 dX10_withdraw_71 ?_
      refine pv_dup C dX10_withdraw_74 rfl ?_
      refine pv_getiN (T := TX9) (N := 4) C 2 inu_EX10_withdraw_9 rfl (by decide) (by decide) (List.mem_of_getElem? (i := 29) rfl) rfl k26.2 dX10_withdraw_75 ?_
      refine pv_iconst (v := 1) C dX10_withdraw_78 (by decide) ?_
      refine pv_isub C dX10_withdraw_79 ?_
      refine pv_putN (T := TX9) (N := 4) (ty := .int) C 2 inu_EX10_withdraw_9 rfl (by decide) tyX9 tyX9_ok nmX9 (by decide) (List.mem_of_getElem? (i := 29) rfl) rfl k26.2 rfl (by decide +kernel) rfl rfl dX10_withdraw_80 ?_
      refine pv_nm (fun S27 e28 => ?_)
      have h := pq_ls e28 h
      refine pv_aload_n C 0 dX10_withdraw_83 rfl rfl ?_
      have k29 := pq_wt (k := 0) W0 k0_ rfl
      refine pv_getr (T := TX10) (N := 7) C 0 inu_EX10_withdraw_10 rfl (by decide) (by decide) (List.mem_of_getElem? (i := 3) rfl) rfl k0_ k29.1 dX10_withdraw_84 ?_
      refine pv_getiN (T := TX9) (N := 4) C 2 inu_EX10_withdraw_9 rfl (by decide) (by decide) (List.mem_of_getElem? (i := 29) rfl) rfl k29.2 dX10_withdraw_87 ?_
      exact pv_iret C hr hlk h dX10_withdraw_90
    · have h := pq_if c20 h
      cases h
  · have h := pq_it c12 h
    cases h
def E_X10_wordsOf (G : pq_G) (S : pq_N) (a0 : Nat) (x1 : Int32) : Option (Int32 × pq_N) := (pq_bd (E_X10_needPamphlet G S a0 x1) fun _ S12 => (pq_bd (F_X9_at G S12 (pq_r G a0 0) x1) fun v15 S16 => some ((S16.1 v15 6), S16)))
theorem d_X10_wordsOf (G : pq_G) (S : pq_N) (a0 : Nat) (x1 : Int32) : E_X10_wordsOf G S a0 x1 = pq_dr (F_X10_wordsOf G S a0 x1) := by
  simp only [F_X10_wordsOf, E_X10_wordsOf, dr_n, dr_l, dr_r, dr_if, dr_bd, dr_lt, dr_bx, d_X10_needPamphlet]
theorem inu_EX10_wordsOf_4 : ∀ w ∈ u_ws RX4 TX4 8, w ∈ wsX10_wordsOf := pq_inu 28 rfl
theorem inu_EX10_wordsOf_10 : ∀ w ∈ u_ws RX10 TX10 7, w ∈ wsX10_wordsOf := pq_inu 21 rfl
set_option maxHeartbeats 4000000 in
set_option maxRecDepth 100000 in
theorem e_X10_wordsOf {l : Launch} {D : va_G} {y : pq_Y} {G : pq_G} (W0 : pq_WT G) {S : pq_N} {a0 : Nat} {x1 : Int32} (k0_ : pq_ok G 10 a0) {r : Int32} {S1 : pq_N} (h : E_X10_wordsOf G S a0 x1 = some (r, S1)) (sz : Nat) : Met l yX10_wordsOf wsX10_wordsOf ({ frames := 2, cells := 0, slots := 0, locals := 42 } : Room) (pq_P D y G S sz [.ref a0, .int x1]) (pq_Qi D y G sz r S1) 0 0 (pq_A G sz) := by
  refine pq_enter RX10 2 (by decide) rfl rfl rfl ?_
  intro p e s m below meth c C hsz hr hlk
  subst hsz
  unfold E_X10_wordsOf at h
  refine pv_sub (lo1 := [(0, .ref a0), (1, .int x1)]) [0, 1] rfl ?_
  refine pv_aload_n C 0 dX10_wordsOf_0 rfl rfl ?_
  refine pv_iload_n C 1 dX10_wordsOf_1 rfl rfl ?_
  obtain ⟨⟨⟩, S12, e13, h⟩ := pq_bs h
  refine pv_callvV C (ci := 10) rfl (by decide) k0_ [.int x1] (fun sz => e_X10_needPamphlet W0 k0_ e13 sz) (cwV 1 C.1.2.2.2.2 gX10_wordsOf_X10_needPamphlet rfl rfl rfl (by decide +kernel) ⟨Nat.le_of_ble_eq_true rfl, Nat.le_of_ble_eq_true rfl⟩) rfl rfl (Nat.le_of_ble_eq_true rfl) dX10_wordsOf_2 ⟨Nat.le_of_ble_eq_true rfl, Nat.le_of_ble_eq_true rfl⟩ ?_
  refine pv_aload_n C 0 dX10_wordsOf_5 rfl rfl ?_
  have k14 := pq_wt (k := 0) W0 k0_ rfl
  refine pv_getr (T := TX10) (N := 7) C 0 inu_EX10_wordsOf_10 rfl (by decide) (by decide) (List.mem_of_getElem? (i := 1) rfl) rfl k0_ k14.1 dX10_wordsOf_6 ?_
  refine pv_iload_n C 1 dX10_wordsOf_9 rfl rfl ?_
  obtain ⟨v15, S16, e17, h⟩ := pq_bs h
  have k18 := o_X9_at W0 k14.2 e17
  refine pv_callrV C (ci := 9) rfl (by decide) k14.2 [.int x1] (fun sz => r_X9_at W0 k14.2 e17 sz) (cwV 1 C.1.2.2.2.2 gX10_wordsOf_X9_at rfl rfl rfl (by decide +kernel) ⟨Nat.le_of_ble_eq_true rfl, Nat.le_of_ble_eq_true rfl⟩) rfl rfl (Nat.le_of_ble_eq_true rfl) dX10_wordsOf_10 ⟨Nat.le_of_ble_eq_true rfl, Nat.le_of_ble_eq_true rfl⟩ ?_
  refine pv_getiN (T := TX4) (N := 8) C 6 inu_EX10_wordsOf_4 rfl (by decide) (by decide) (List.mem_of_getElem? (i := 22) rfl) rfl k18 dX10_wordsOf_13 ?_
  exact pv_iret C hr hlk h dX10_wordsOf_16
def E_X10_wordsOn (G : pq_G) (S : pq_N) (a0 : Nat) (x1 : Int32) (x2 : Int32) : Option (Int32 × pq_N) := (pq_bd (E_X10_needPamphlet G S a0 x1) fun _ S12 => (pq_bd (F_X9_at G S12 (pq_r G a0 0) x1) fun v15 S16 => (if x2 < (0 : Int32) then none else (pq_bd (F_X4_pageCount G S16 v15) fun v20 S21 => (if x2 < v20 then some ((if ((S21.1 v15 6) - (x2 * (8 : Int32))) < (8 : Int32) then ((S21.1 v15 6) - (x2 * (8 : Int32))) else (8 : Int32)), S21) else none)))))
theorem d_X10_wordsOn (G : pq_G) (S : pq_N) (a0 : Nat) (x1 : Int32) (x2 : Int32) : E_X10_wordsOn G S a0 x1 x2 = pq_dr (F_X10_wordsOn G S a0 x1 x2) := by
  simp only [F_X10_wordsOn, E_X10_wordsOn, dr_n, dr_l, dr_r, dr_if, dr_bd, dr_lt, dr_bx, d_X10_needPamphlet]
theorem inu_EX10_wordsOn_4 : ∀ w ∈ u_ws RX4 TX4 8, w ∈ wsX10_wordsOn := pq_inu 38 rfl
theorem inu_EX10_wordsOn_10 : ∀ w ∈ u_ws RX10 TX10 7, w ∈ wsX10_wordsOn := pq_inu 31 rfl
set_option maxHeartbeats 4000000 in
set_option maxRecDepth 100000 in
theorem e_X10_wordsOn {l : Launch} {D : va_G} {y : pq_Y} {G : pq_G} (W0 : pq_WT G) {S : pq_N} {a0 : Nat} {x1 : Int32} {x2 : Int32} (k0_ : pq_ok G 10 a0) {r : Int32} {S1 : pq_N} (h : E_X10_wordsOn G S a0 x1 x2 = some (r, S1)) (sz : Nat) : Met l yX10_wordsOn wsX10_wordsOn ({ frames := 2, cells := 0, slots := 0, locals := 42 } : Room) (pq_P D y G S sz [.ref a0, .int x1, .int x2]) (pq_Qi D y G sz r S1) 0 0 (pq_A G sz) := by
  refine pq_enter RX10 4 (by decide) rfl rfl rfl ?_
  intro p e s m below meth c C hsz hr hlk
  subst hsz
  unfold E_X10_wordsOn at h
  refine pv_sub (lo1 := [(0, .ref a0), (1, .int x1), (2, .int x2)]) [0, 1, 2] rfl ?_
  refine pv_aload_n C 0 dX10_wordsOn_0 rfl rfl ?_
  refine pv_iload_n C 1 dX10_wordsOn_1 rfl rfl ?_
  obtain ⟨⟨⟩, S12, e13, h⟩ := pq_bs h
  refine pv_callvV C (ci := 10) rfl (by decide) k0_ [.int x1] (fun sz => e_X10_needPamphlet W0 k0_ e13 sz) (cwV 1 C.1.2.2.2.2 gX10_wordsOn_X10_needPamphlet rfl rfl rfl (by decide +kernel) ⟨Nat.le_of_ble_eq_true rfl, Nat.le_of_ble_eq_true rfl⟩) rfl rfl (Nat.le_of_ble_eq_true rfl) dX10_wordsOn_2 ⟨Nat.le_of_ble_eq_true rfl, Nat.le_of_ble_eq_true rfl⟩ ?_
  refine pv_aload_n C 0 dX10_wordsOn_5 rfl rfl ?_
  have k14 := pq_wt (k := 0) W0 k0_ rfl
  refine pv_getr (T := TX10) (N := 7) C 0 inu_EX10_wordsOn_10 rfl (by decide) (by decide) (List.mem_of_getElem? (i := 3) rfl) rfl k0_ k14.1 dX10_wordsOn_6 ?_
  refine pv_iload_n C 1 dX10_wordsOn_9 rfl rfl ?_
  obtain ⟨v15, S16, e17, h⟩ := pq_bs h
  have k18 := o_X9_at W0 k14.2 e17
  refine pv_callrV C (ci := 9) rfl (by decide) k14.2 [.int x1] (fun sz => r_X9_at W0 k14.2 e17 sz) (cwV 1 C.1.2.2.2.2 gX10_wordsOn_X9_at rfl rfl rfl (by decide +kernel) ⟨Nat.le_of_ble_eq_true rfl, Nat.le_of_ble_eq_true rfl⟩) rfl rfl (Nat.le_of_ble_eq_true rfl) dX10_wordsOn_10 ⟨Nat.le_of_ble_eq_true rfl, Nat.le_of_ble_eq_true rfl⟩ ?_
  refine pv_astore_n C [(3, .ref v15), (0, .ref a0), (1, .int x1), (2, .int x2)] dX10_wordsOn_13 rfl (by decide) rfl ?_
  refine pv_iload_n C 3 dX10_wordsOn_14 rfl rfl ?_
  refine pv_if_lt (tgt := 26) C dX10_wordsOn_15 (by decide) (fun c19 => ?_) (fun c19 => ?_)
  · have h := pq_it c19 h
    cases h
  · have h := pq_if c19 h
    refine pv_iload_n C 3 dX10_wordsOn_18 rfl rfl ?_
    refine pv_aload_n C 0 dX10_wordsOn_19 rfl rfl ?_
    obtain ⟨v20, S21, e22, h⟩ := pq_bs h
    refine pv_calliV C (ci := 4) rfl (by decide) k18 [] (fun sz => r_X4_pageCount W0 k18 e22 sz) (cwV 0 C.1.2.2.2.2 gX10_wordsOn_X4_pageCount rfl rfl rfl (by decide +kernel) ⟨Nat.le_of_ble_eq_true rfl, Nat.le_of_ble_eq_true rfl⟩) rfl rfl (Nat.le_of_ble_eq_true rfl) dX10_wordsOn_20 ⟨Nat.le_of_ble_eq_true rfl, Nat.le_of_ble_eq_true rfl⟩ ?_
    refine pv_icmp_lt (tgt := 36) C dX10_wordsOn_23 (by decide) (fun c23 => ?_) (fun c23 => ?_)
    · have h := pq_it c23 h
      refine pv_bipush (v := 8) C dX10_wordsOn_36 (by decide) ?_
      refine pv_aload_n C 0 dX10_wordsOn_38 rfl rfl ?_
      refine pv_getiN (T := TX4) (N := 8) C 6 inu_EX10_wordsOn_4 rfl (by decide) (by decide) (List.mem_of_getElem? (i := 22) rfl) rfl k18 dX10_wordsOn_39 ?_
      refine pv_iload_n C 3 dX10_wordsOn_42 rfl rfl ?_
      refine pv_bipush (v := 8) C dX10_wordsOn_43 (by decide) ?_
      refine pv_imul C dX10_wordsOn_45 ?_
      refine pv_isub C dX10_wordsOn_46 ?_
      refine pv_mmin C (List.mem_of_getElem? (i := 4) rfl) (List.mem_of_getElem? (i := 5) rfl) (List.mem_of_getElem? (i := 6) rfl) (List.mem_of_getElem? (i := 7) rfl) (Nat.le_of_ble_eq_true rfl) (Nat.le_of_ble_eq_true rfl) (Nat.le_of_ble_eq_true rfl) (Nat.le_of_ble_eq_true rfl) dX10_wordsOn_47 ?_
      exact pv_iret C hr hlk h dX10_wordsOn_50
    · have h := pq_if c23 h
      cases h
def E_X10_wrongs (G : pq_G) (S : pq_N) (a0 : Nat) (x1 : Int32) (x2 : Int32) : Option (Int32 × pq_N) := (pq_bd (E_X10_needAuthor G S x1) fun _ S12 => (pq_bd (E_X10_needAuthor G S12 x2) fun _ S15 => (pq_bd (F_X5_changesWritten G S15 (pq_r G a0 4) (pq_r G a0 0) x1 x2) fun v19 S20 => some (v19, S20))))
theorem d_X10_wrongs (G : pq_G) (S : pq_N) (a0 : Nat) (x1 : Int32) (x2 : Int32) : E_X10_wrongs G S a0 x1 x2 = pq_dr (F_X10_wrongs G S a0 x1 x2) := by
  simp only [F_X10_wrongs, E_X10_wrongs, dr_n, dr_l, dr_r, dr_if, dr_bd, dr_lt, dr_bx, d_X10_needAuthor]
theorem inu_EX10_wrongs_10 : ∀ w ∈ u_ws RX10 TX10 7, w ∈ wsX10_wrongs := pq_inu 69 rfl
set_option maxHeartbeats 4000000 in
set_option maxRecDepth 100000 in
theorem e_X10_wrongs {l : Launch} {D : va_G} {y : pq_Y} {G : pq_G} (W0 : pq_WT G) {S : pq_N} {a0 : Nat} {x1 : Int32} {x2 : Int32} (k0_ : pq_ok G 10 a0) {r : Int32} {S1 : pq_N} (h : E_X10_wrongs G S a0 x1 x2 = some (r, S1)) (sz : Nat) : Met l yX10_wrongs wsX10_wrongs ({ frames := 6, cells := 0, slots := 0, locals := 155 } : Room) (pq_P D y G S sz [.ref a0, .int x1, .int x2]) (pq_Qi D y G sz r S1) 0 0 (pq_A G sz) := by
  refine pq_enter RX10 3 (by decide) rfl rfl rfl ?_
  intro p e s m below meth c C hsz hr hlk
  subst hsz
  unfold E_X10_wrongs at h
  refine pv_sub (lo1 := [(0, .ref a0), (1, .int x1), (2, .int x2)]) [0, 1, 2] rfl ?_
  refine pv_iload_n C 1 dX10_wrongs_0 rfl rfl ?_
  obtain ⟨⟨⟩, S12, e13, h⟩ := pq_bs h
  refine pv_callvS C [.int x1] (fun sz => e_X10_needAuthor W0  e13 sz) (va_cwS 1 C.1.2.2.2.2 gX10_wrongs_X10_needAuthor rfl rfl rfl (by decide +kernel) ⟨Nat.le_of_ble_eq_true rfl, Nat.le_of_ble_eq_true rfl⟩) rfl rfl (Nat.le_of_ble_eq_true rfl) dX10_wrongs_1 ⟨Nat.le_of_ble_eq_true rfl, Nat.le_of_ble_eq_true rfl⟩ ?_
  refine pv_iload_n C 2 dX10_wrongs_4 rfl rfl ?_
  obtain ⟨⟨⟩, S15, e16, h⟩ := pq_bs h
  refine pv_callvS C [.int x2] (fun sz => e_X10_needAuthor W0  e16 sz) (va_cwS 1 C.1.2.2.2.2 gX10_wrongs_X10_needAuthor rfl rfl rfl (by decide +kernel) ⟨Nat.le_of_ble_eq_true rfl, Nat.le_of_ble_eq_true rfl⟩) rfl rfl (Nat.le_of_ble_eq_true rfl) dX10_wrongs_5 ⟨Nat.le_of_ble_eq_true rfl, Nat.le_of_ble_eq_true rfl⟩ ?_
  refine pv_aload_n C 0 dX10_wrongs_8 rfl rfl ?_
  have k17 := pq_wt (k := 4) W0 k0_ rfl
  refine pv_getr (T := TX10) (N := 7) C 4 inu_EX10_wrongs_10 rfl (by decide) (by decide) (List.mem_of_getElem? (i := 1) rfl) rfl k0_ k17.1 dX10_wrongs_9 ?_
  refine pv_aload_n C 0 dX10_wrongs_12 rfl rfl ?_
  have k18 := pq_wt (k := 0) W0 k0_ rfl
  refine pv_getr (T := TX10) (N := 7) C 0 inu_EX10_wrongs_10 rfl (by decide) (by decide) (List.mem_of_getElem? (i := 2) rfl) rfl k0_ k18.1 dX10_wrongs_13 ?_
  refine pv_iload_n C 1 dX10_wrongs_16 rfl rfl ?_
  refine pv_iload_n C 2 dX10_wrongs_17 rfl rfl ?_
  obtain ⟨v19, S20, e21, h⟩ := pq_bs h
  refine pv_calliV C (ci := 5) rfl (by decide) k17.2 [.ref (pq_r G a0 0), .int x1, .int x2] (fun sz => r_X5_changesWritten W0 k17.2 k18.2 e21 sz) (cwV 3 C.1.2.2.2.2 gX10_wrongs_X5_changesWritten rfl rfl rfl (by decide +kernel) ⟨Nat.le_of_ble_eq_true rfl, Nat.le_of_ble_eq_true rfl⟩) rfl rfl (Nat.le_of_ble_eq_true rfl) dX10_wrongs_18 ⟨Nat.le_of_ble_eq_true rfl, Nat.le_of_ble_eq_true rfl⟩ ?_
  exact pv_iret C hr hlk h dX10_wrongs_21
