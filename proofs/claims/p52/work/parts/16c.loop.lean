/-! THE LAW'S LOOP, and its end -/
section LL
variable {p : Program} {l : Launch} {e : Env} {s : State} {m : MethodId} {av : Array Value} {below : List Frame} {meth : Method} {c : Code} {Q : State → Prop} {D : va_G} {y : pq_Y} {G : pq_G}
theorem pv_z {R : Room} {cells slots : Nat} {nL : Nat} {A : Nat → Prop} {z : Heap → Prop} {S : pq_N} {pc : Nat} {lo : List (Nat × Value)} {st : List Value} (k : pq_V p l e R s m av below meth c cells slots Q D y nL A (fun _ => True) G S pc lo st) : pq_V p l e R s m av below meth c cells slots Q D y nL A z G S pc lo st := fun H locs ls _ => k H locs ls trivial
/-- the world behind b days at most -/
def IV (x b : Nat) (S : pq_N) (W : tW) : Prop := rC S x W ∧ vW W ∧ wT b W.1
theorem IV_act {x b : Nat} {S : pq_N} {W : tW} (h : sh_G G x) (i : IV x b S W) (u v w : Int32) : ∃ S1 W1, F_L_act G S x u v w = some (1, S1) ∧ IV x (b + 100) S1 W1 := by
  obtain ⟨T, n, H, g, N, len, c⟩ := W
  obtain ⟨a, W1, ⟨S1, k1, k2⟩, k3, k4, k5⟩ := l_act h i.2.1 i.2.2 i.1 (u := u) (y := v) (z := w)
  subst k3
  exact ⟨S1, W1, k1, k2, k4, k5⟩
theorem IV_holds {x b : Nat} {S : pq_N} {W : tW} (h : sh_G G x) (hb : b ≤ 1000000) (i : IV x b S W) (u : Int32) : ∃ S1, F_L_holds G S x u = some (1, S1) ∧ IV x b S1 W := by
  obtain ⟨S1, k1, k2⟩ := l_hold h i.2.1 hb i.2.2 i.1 (y := u)
  exact ⟨S1, k1, k2, i.2.1, i.2.2⟩
theorem IV_returns {x b : Nat} {S : pq_N} {W : tW} (h : sh_G G x) (i : IV x b S W) : ∃ S1 W1, F_L_returns G S x = some (1, S1) ∧ IV x b S1 W1 := by
  obtain ⟨T, n, H, g, N, len, c⟩ := W
  obtain ⟨a, W1, ⟨S1, k1, k2⟩, k3, k4, k5⟩ := l_returns h i.2.1 i.2.2 i.1
  subst k3
  exact ⟨S1, W1, k1, k2, k4, k5⟩
theorem IV_mendsAll {x b : Nat} {S : pq_N} {W : tW} (h : sh_G G x) (i : IV x b S W) : ∃ S1 W1, F_L_mendsAll G S x = some (1, S1) ∧ IV x b S1 W1 := by
  obtain ⟨T, n, H, g, N, len, c⟩ := W
  obtain ⟨a, W1, ⟨S1, k1, k2⟩, k3, k4, k5⟩ := l_mendsAll h i.2.1 i.2.2 i.1
  subst k3
  exact ⟨S1, W1, k1, k2, k4, k5⟩
set_option maxHeartbeats 4000000 in
set_option maxRecDepth 100000 in
/-- behind the loop -/
theorem law_end {x b : Nat} (h : sh_G G x) (C : pq_C p s m av c D y RL wsL_law cL_law 4) (k1_ : pq_ok G 10 x) {lo : List (Nat × Value)} {cells slots : Nat} {S : pq_N} {W : tW} (hc : cells ≤ 600104) (hs : slots ≤ 7301314) (iv : IV x b S W) {bb : Nat} {x2 : Int32} (fin : ∀ (S : pq_N), pq_V p l e room_1 s m av below meth c cells slots Q D y 4 (pq_A G s.heap.size) (fun _ => True) G S 138 [(0, .ref bb), (1, .ref x), (2, .int x2)] [.int 1]) : pq_V p l e room_1 s m av below meth c cells slots Q D y 4 (pq_A G s.heap.size) (fun _ => True) G S 119 [(0, .ref bb), (1, .ref x), (2, .int x2)] [] := by
  have W0 : pq_WT G := h.1
  obtain ⟨S1, W1, e1, i1⟩ := IV_returns h iv
  obtain ⟨S2, W2, e2, i2⟩ := IV_mendsAll h i1
  refine pv_aload_n C 1 dL_law_119 rfl rfl ?_
  refine pv_calliS C [.ref x] (fun sz => r_L_returns W0 k1_ e1 sz) (va_cwS 1 C.1.2.2.2.2 gL_law_L_returns rfl rfl rfl (by decide +kernel) ⟨Nat.le_of_ble_eq_true rfl, Nat.le_of_ble_eq_true rfl⟩) rfl rfl (Nat.le_of_ble_eq_true rfl) dL_law_120 ⟨hc, hs⟩ ?_
  refine pv_if_eq (tgt := 137) C dL_law_123 (by decide) (fun c1 => absurd c1 (by decide)) (fun _ => ?_)
  refine pv_aload_n C 1 dL_law_126 rfl rfl ?_
  refine pv_calliS C [.ref x] (fun sz => r_L_mendsAll W0 k1_ e2 sz) (va_cwS 1 C.1.2.2.2.2 gL_law_L_mendsAll rfl rfl rfl (by decide +kernel) ⟨Nat.le_of_ble_eq_true rfl, Nat.le_of_ble_eq_true rfl⟩) rfl rfl (Nat.le_of_ble_eq_true rfl) dL_law_127 ⟨hc, hs⟩ ?_
  refine pv_if_eq (tgt := 137) C dL_law_130 (by decide) (fun c1 => absurd c1 (by decide)) (fun _ => ?_)
  refine pv_iconst (v := 1) C dL_law_133 (by decide) ?_
  refine pv_goto (tgt := 138) C dL_law_134 (by decide) ?_
  exact fin S2
set_option maxHeartbeats 4000000 in
set_option maxRecDepth 100000 in
theorem law_loop (hl : l.stackTraces = false) {x : Nat} (h : sh_G G x) (C : pq_C p s m av c D y RL wsL_law cL_law 4) (hX : pq_X (pq_A G s.heap.size) s s.heap) {bb L : Nat} {xs : Nat → Int32} (hXs : va_X bb L xs s s.heap) (hbl : bb < s.heap.size) (hbA : ¬ pq_A G s.heap.size bb) (k1_ : pq_ok G 10 x) (hL : L ≤ 260) (fin : ∀ (cells slots : Nat) (S : pq_N), cells ≤ 600104 → slots ≤ 7301314 → pq_V p l e room_1 s m av below meth c cells slots Q D y 4 (pq_A G s.heap.size) (fun _ => True) G S 138 [(0, .ref bb), (1, .ref x), (2, .int (nI 32))] [.int 1]) : ∀ (r i cells slots : Nat) (S : pq_N) (W : tW), i + r = 32 → cells + 3 * r ≤ 600104 → slots + 18 * r ≤ 7301314 → IV x (100 * i) S W → pq_V p l e room_1 s m av below meth c cells slots Q D y 4 (pq_A G s.heap.size) (fun _ => True) G S 41 [(0, .ref bb), (1, .ref x), (2, .int (nI i))] [] := by
  have W0 : pq_WT G := h.1
  intro r
  induction r with
  | zero =>
    intro i cells slots S W hr hc hs iv
    have ei : i = 32 := by omega
    subst ei
    refine pv_iload_n C 2 dL_law_41 rfl rfl ?_
    refine pv_bipush (v := 32) C dL_law_42 (by decide) ?_
    refine pv_icmp_ge (tgt := 119) C dL_law_44 (by decide) (fun _ => ?_) (fun c1 => absurd (show (32 : Int32) ≤ nI 32 by decide) c1)
    exact law_end h C k1_ (lo := []) hc hs iv (fun S => fin cells slots S hc hs)
  | succ r ih =>
    intro i cells slots S W hr hc hs iv
    have nx : ∀ v : Int32, pq_V p l e room_1 s m av below meth c cells slots Q D y 4 (pq_A G s.heap.size) (fun _ => True) G S 76 [(0, .ref bb), (1, .ref x), (2, .int (nI i))] [.int v] := fun v => by
      obtain ⟨S1, W1, e1, i1⟩ := IV_act h iv v (clv L xs (3 * i + 1)) (clv L xs (3 * i + 2))
      obtain ⟨S2, e2, i2⟩ := IV_holds h (by omega) i1 (nI i)
      refine pv_istore_n C [(3, .int v), (0, .ref bb), (1, .ref x), (2, .int (nI i))] dL_law_76 rfl (by decide) rfl ?_
      refine pv_aload_n C 2 dL_law_77 rfl rfl ?_
      refine pv_iload_n C 0 dL_law_78 rfl rfl ?_
      refine pv_aload_n C 1 dL_law_79 rfl rfl ?_
      refine pv_iconst (v := nI 3) C dL_law_80 (by decide) ?_
      refine pv_iload_n C 3 dL_law_81 rfl rfl ?_
      refine pv_imul C dL_law_82 ?_
      refine pv_iconst (v := nI 1) C dL_law_83 (by decide) ?_
      refine pv_iadd C dL_law_84 ?_
      rw [nI_mul, nI_add]
      refine pv_cell C hXs hbl hbA (k := 3 * i + 1) (by omega) (by omega) (va_cwS 2 C.1.2.2.2.2 gL_law_L_cell rfl rfl rfl (by decide +kernel) ⟨Nat.le_of_ble_eq_true rfl, Nat.le_of_ble_eq_true rfl⟩) rfl (Nat.le_of_ble_eq_true rfl) dL_law_85 ⟨show cells ≤ 600104 by omega, show slots ≤ 7301314 by omega⟩ ?_
      refine pv_aload_n C 1 dL_law_88 rfl rfl ?_
      refine pv_iconst (v := nI 3) C dL_law_89 (by decide) ?_
      refine pv_iload_n C 3 dL_law_90 rfl rfl ?_
      refine pv_imul C dL_law_91 ?_
      refine pv_iconst (v := nI 2) C dL_law_92 (by decide) ?_
      refine pv_iadd C dL_law_93 ?_
      rw [nI_mul, nI_add]
      refine pv_cell C hXs hbl hbA (k := 3 * i + 2) (by omega) (by omega) (va_cwS 2 C.1.2.2.2.2 gL_law_L_cell rfl rfl rfl (by decide +kernel) ⟨Nat.le_of_ble_eq_true rfl, Nat.le_of_ble_eq_true rfl⟩) rfl (Nat.le_of_ble_eq_true rfl) dL_law_94 ⟨show cells ≤ 600104 by omega, show slots ≤ 7301314 by omega⟩ ?_
      refine pv_pcalli C (kc := 3) (ks := 18) hX [.ref x, .int v, .int (clv L xs (3 * i + 1)), .int (clv L xs (3 * i + 2))] (fun sz => r_L_act hl W0 k1_ e1 sz) (va_cwS 4 C.1.2.2.2.2 gL_law_L_act rfl rfl rfl (by decide +kernel) ⟨Nat.le_of_ble_eq_true rfl, Nat.le_of_ble_eq_true rfl⟩) rfl rfl (Nat.le_of_ble_eq_true rfl) dL_law_97 ⟨show cells + 3 ≤ 600104 by omega, show slots + 18 ≤ 7301314 by omega⟩ ?_
      refine pv_if_eq (tgt := 111) C dL_law_100 (by decide) (fun c1 => absurd c1 (by decide)) (fun _ => ?_)
      refine pv_aload_n C 2 dL_law_103 rfl rfl ?_
      refine pv_iload_n C 3 dL_law_104 rfl rfl ?_
      refine pv_calliS C [.ref x, .int (nI i)] (fun sz => r_L_holds W0 k1_ e2 sz) (va_cwS 2 C.1.2.2.2.2 gL_law_L_holds rfl rfl rfl (by decide +kernel) ⟨Nat.le_of_ble_eq_true rfl, Nat.le_of_ble_eq_true rfl⟩) rfl rfl (Nat.le_of_ble_eq_true rfl) dL_law_105 ⟨show cells + 3 ≤ 600104 by omega, show slots + 18 ≤ 7301314 by omega⟩ ?_
      refine pv_if_ne (tgt := 113) C dL_law_108 (by decide) (fun _ => ?_) (fun c1 => absurd c1 (by decide))
      refine pv_iinc (v := nI (i + 1)) C 3 [(2, .int (nI (i + 1))), (3, .int v), (0, .ref bb), (1, .ref x)] dL_law_113 rfl (by rw [show Int32.ofInt 1 = nI 1 from by decide]; exact nI_add i 1) (by decide) rfl ?_
      refine pv_goto (tgt := 41) C dL_law_116 (by decide) ?_
      refine pv_sub [2, 3, 0] rfl ?_
      exact ih (i + 1) (cells + 3) (slots + 18) S2 W1 (by omega) (by omega) (by omega) i2
    refine pv_iload_n C 2 dL_law_41 rfl rfl ?_
    refine pv_bipush (v := 32) C dL_law_42 (by decide) ?_
    refine pv_icmp_ge (tgt := 119) C dL_law_44 (by decide) (fun c1 => absurd c1 (show ¬ (32 : Int32) ≤ nI i from nI_ge (b := 32) (by omega) (by decide))) (fun _ => ?_)
    refine pv_iload_n C 2 dL_law_47 rfl rfl ?_
    refine pv_bipush (v := 9) C dL_law_48 (by decide) ?_
    refine pv_icmp_ge (tgt := 69) C dL_law_50 (by decide) (fun _ => ?_) (fun _ => ?_)
    · refine pv_aload_n C 0 dL_law_69 rfl rfl ?_
      refine pv_iconst (v := nI 3) C dL_law_70 (by decide) ?_
      refine pv_iload_n C 2 dL_law_71 rfl rfl ?_
      refine pv_imul C dL_law_72 ?_
      rw [nI_mul]
      refine pv_cell C hXs hbl hbA (k := 3 * i) (by omega) (by omega) (va_cwS 2 C.1.2.2.2.2 gL_law_L_cell rfl rfl rfl (by decide +kernel) ⟨Nat.le_of_ble_eq_true rfl, Nat.le_of_ble_eq_true rfl⟩) rfl (Nat.le_of_ble_eq_true rfl) dL_law_73 ⟨show cells ≤ 600104 by omega, show slots ≤ 7301314 by omega⟩ ?_
      exact nx _
    · refine pv_iload_n C 2 dL_law_53 rfl rfl ?_
      refine pv_iconst (v := 3) C dL_law_54 (by decide) ?_
      refine pv_irem C dL_law_55 (by decide) ?_
      refine pv_iconst (v := 2) C dL_law_56 (by decide) ?_
      refine pv_icmp_ne (tgt := 65) C dL_law_57 (by decide) (fun _ => ?_) (fun _ => ?_)
      · refine pv_iconst (v := 0) C dL_law_65 (by decide) ?_
        refine pv_goto (tgt := 76) C dL_law_66 (by decide) ?_
        exact nx _
      · refine pv_bipush (v := 7) C dL_law_60 (by decide) ?_
        refine pv_goto (tgt := 76) C dL_law_62 (by decide) ?_
        exact nx _
end LL
