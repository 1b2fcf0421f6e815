/-! THE SCRIPT'S CELLS: the method that reads one, and its call -/
def clv (L : Nat) (xs : Nat → Int32) (k : Nat) : Int32 := if k < L then xs k else (934660563 : Int32) * (nI k + (5 : Int32)) + (764535719 : Int32)
def pq_PS (D : va_G) (y : pq_Y) (G : pq_G) (S : pq_N) (bb L : Nat) (xs : Nat → Int32) (sz : Nat) (av : List Value) : Array Value → State → Prop := va_Pc av (fun U => U.heap.size = sz ∧ pq_B D y G S U ∧ va_X bb L xs U U.heap ∧ bb < sz ∧ bb ∉ G.1)
section CE
variable {p : Program} {l : Launch} {e : Env} {R : Room} {s : State} {m : MethodId} {args : Array Value} {below : List Frame} {meth : Method} {c : Code} {cells slots : Nat} {Q : State → Prop} {D : va_G} {y : pq_Y} {own : String} {Ts : List Cond} {cc : ByteArray} {nL : Nat} {A : Nat → Prop} {z : Heap → Prop} {G : pq_G} {S : pq_N} {pc : Nat} {lo : List (Nat × Value)} {rest : List Value}
theorem pq_blindS {bb L sz : Nat} {xs : Nat → Int32} {av : List Value} : FrameBlind (pq_PS D y G S bb L xs sz av) := fun a U g mk q => by
  obtain ⟨q0, q1, ⟨qP, qK, qD, qT⟩, qX, qb, qn⟩ := q
  exact ⟨q0, q1, ⟨qP, va_K.moved (u := U) (U := U.calling g mk a) (Vm.Alike.refl U.vm) qK, qD, pq_Tb.same (s := U) (U := U.calling g mk a) rfl qT⟩, va_X.moved (u := U) (U := U.calling g mk a) (Vm.Alike.refl U.vm) qX, qb, qn⟩
theorem pq_preS (C : pq_C p s m args c D y own Ts cc nL) {bb L : Nat} {xs : Nat → Int32} {H : Heap} {locs : List Loc} {av : List Value} (hXs : va_X bb L xs s s.heap) (hbl : bb < s.heap.size) (hbA : ¬ pq_A G s.heap.size bb) (hP : va_P D vwCl (pq_wl y G S) H) (hD : va_D (pq_A G s.heap.size) (pq_wl y G S)) (hS : va_S (pq_A G s.heap.size) s.heap H locs) (U : State) (hU : U.heap = H) (hW : s.WarmedH U.vm) : pq_PS D y G S bb L xs H.size av av.toArray U :=
  ⟨rfl, by rw [hU], ⟨by rw [hU]; exact hP, va_K.moved hW.alike C.2.1, hD.weaken (fun _ _ _ _ => trivial), pq_Tb.warm hW C.2.2⟩, by
    rw [hU]
    exact va_X.moved hW.alike (hXs.kept (hS.2.1 bb hbl hbA)), Nat.lt_of_lt_of_le hbl hS.1, fun h => hbA (Or.inl h)⟩
set_option maxHeartbeats 4000000 in
set_option maxRecDepth 100000 in
theorem r_L_cell {bb L k : Nat} {xs : Nat → Int32} (hk : k < 2147483648) (hL : L < 2147483648) (sz : Nat) : Met l yL_cell wsL_cell ({ frames := 0, cells := 0, slots := 0, locals := 0 } : Room) (pq_PS D y G S bb L xs sz [.ref bb, .int (nI k)]) (pq_Qi D y G sz (clv L xs k) S) 0 0 (pq_A G sz) := by
  refine Met.ofW (cc := cL_cell) (maxL := 2) (ret := some .int) (by decide) rfl ?_
  intro p e s m args below meth c s₁ B hml hv
  obtain ⟨rfl, hsz, ⟨hP, hK, hD0, hT⟩, hXs, hbl, hn⟩ := hv
  subst hsz
  have hts := atoms_spec (ws := wsL_cell) B.pre
  have hown : s.vm.findClass RL = some m.cls := findClass_of_methodNamed B.named
  have hl := lv_entry [.ref bb, .int (nI k)] (n := 2) (Nat.le_of_ble_eq_true rfl)
  have C : pq_C p s m ([.ref bb, .int (nI k)] : List Value).toArray c D y RL wsL_cell cL_cell 2 := ⟨⟨B.exec, B.bytes, hml, hown, hts⟩, hK, hT⟩
  have hr := B.returns
  have hlk := B.notSynchronized
  have hbA : ¬ pq_A G s.heap.size bb := fun z => z.elim hn (fun z => absurd hbl (Nat.not_lt.mpr z))
  rw [lg_entry_eq]
  have K : pq_V p l e (headSpec wsL_cell ({ frames := 0, cells := 0, slots := 0, locals := 0 } : Room)).room s m ([.ref bb, .int (nI k)] : List Value).toArray below meth c 0 0 (MQ below (pq_Qi D y G s.heap.size (clv L xs k) S) ([.ref bb, .int (nI k)] : List Value).toArray s 0 0 (pq_A G s.heap.size)) D y 2 (pq_A G s.heap.size) (fun _ => True) G S 0 [(0, .ref bb), (1, .int (nI k))] [] := by
    refine pv_iload_n C 1 dL_cell_0 rfl rfl ?_
    refine pv_aload_n C 0 dL_cell_1 rfl rfl ?_
    refine pv_slen C hXs hbl hbA dL_cell_2 ?_
    refine pv_icmp_ge (tgt := 12) C dL_cell_3 (by decide) (fun c1 => ?_) (fun c1 => ?_)
    · have c2 : ¬ k < L := fun z => nI_ge z hL c1
      refine pv_ldc C (List.mem_of_getElem? (i := 1) rfl) dL_cell_12 ?_
      refine pv_iload_n C 1 dL_cell_14 rfl rfl ?_
      refine pv_iconst (v := 5) C dL_cell_15 (by decide) ?_
      refine pv_iadd C dL_cell_16 ?_
      refine pv_imul C dL_cell_17 ?_
      refine pv_ldc C (List.mem_of_getElem? (i := 2) rfl) dL_cell_18 ?_
      refine pv_iadd C dL_cell_20 ?_
      exact pv_iret C hr hlk (by unfold clv; rw [if_neg c2]) dL_cell_21
    · have c2 : k < L := by
        rcases Nat.lt_or_ge k L with z | z
        · exact z
        · exact absurd (nI_le z hk) c1
      refine pv_aload_n C 0 dL_cell_6 rfl rfl ?_
      refine pv_iload_n C 1 dL_cell_7 rfl rfl ?_
      refine pv_sld C hXs hbl hbA (nI_in c2 hL) dL_cell_8 ?_
      refine pv_goto (tgt := 21) C dL_cell_9 (by decide) ?_
      rw [nI_clamp hk]
      exact pv_iret C hr hlk (by unfold clv; rw [if_pos c2]) dL_cell_21
  refine K s.heap [] _ trivial hP ⟨hD0.1, fun k q hk => Or.inl ?_⟩ va_S.rf hl
  obtain ⟨a, ha, e1⟩ := List.mem_map.mp (List.mem_of_getElem? hk)
  rw [← e1]; exact ha
theorem pv_cell (C : pq_C p s m args c D y own Ts cc nL) {bb L k : Nat} {xs : Nat → Int32} (hXs : va_X bb L xs s s.heap) (hbl : bb < s.heap.size) (hbA : ¬ pq_A G s.heap.size bb) (hk : k < 2147483648) (hL : L < 2147483648) {bytes : ByteArray} {maxL index : Nat} {ret : Option FieldType} (cw : CallB R s args own index yL_cell bytes maxL ret wsL_cell ({ frames := 0, cells := 0, slots := 0, locals := 0 } : Room) 0 0 2 ∧ (Cond.static yL_cell).before args s = true) {st0 : List Value} (hst : st0 = .int (nI k) :: .ref bb :: rest) (hW : (rest.map fun v => v.category).sum ≤ 8) (hdg : decode cc pc = .ok (.invokestatic index, 3)) (hf : cells ≤ R.cells ∧ slots ≤ R.slots) (kk : pq_V p l e R s m args below meth c cells slots Q D y nL (pq_A G s.heap.size) (fun _ => True) G S (pc + 3) lo (.int (clv L xs k) :: rest)) : pq_V p l e R s m args below meth c cells slots Q D y nL (pq_A G s.heap.size) z G S pc lo st0 := by
  intro H locs ls hz hP hD hS hl
  refine va_calli (va_runS (As := [.ref bb, .int (nI k)]) (rest := rest) C.1 (r_L_cell (l := l) (D := D) (y := y) (G := G) (S := S) (bb := bb) (L := L) (xs := xs) hk hL H.size) cw ⟨pq_blindS, fun U hU hW => pq_preS C hXs hbl hbA hP hD hS U hU hW⟩ rfl rfl hl.1 hst (lv_room hW) hdg hf) hS (fun q hq h => h.elim Or.inl (fun h => absurd hq (Nat.not_lt.mpr h))) (fun q h => h.elim Or.inl (fun h => Or.inr (Nat.le_trans hS.1 h))) (fun r1 u t H1 locs1 ht hvm hw hB hz1 hk1 hS1 => ?_)
  obtain ⟨rfl, rfl⟩ := hw
  obtain ⟨hP1, hD1⟩ := pq_back C hD ht hB
  exact kk H1 locs1 ls trivial hP1 hD1 hS1 hl
end CE
