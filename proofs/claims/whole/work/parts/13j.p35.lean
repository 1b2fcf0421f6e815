/-! THE LAW'S LOOP -/
section LL
variable {p : Program} {l : Launch} {e : Env} {s : State} {m : MethodId} {av : Array Value} {below : List Frame} {meth : Method} {c : Code} {Q : State → Prop} {D : va_G} {y : pq_Y} {G : pq_G}
theorem pv_z {R : Room} {cells slots : Nat} {nL : Nat} {A : Nat → Prop} {z : Heap → Prop} {S : pq_N} {pc : Nat} {lo : List (Nat × Value)} {st : List Value} (k : pq_V p l e R s m av below meth c cells slots Q D y nL A (fun _ => True) G S pc lo st) : pq_V p l e R s m av below meth c cells slots Q D y nL A z G S pc lo st := fun H locs ls _ => k H locs ls trivial
set_option maxHeartbeats 4000000 in
set_option maxRecDepth 100000 in
theorem law_loop (hl : l.stackTraces = false) {x : Nat} (h : sh_G G x) (ho : pq_n G (x + 1376) = 1) (C : pq_C p s m av c D y RL wsL_law cL_law 9) (hX : pq_X (pq_A G s.heap.size) s s.heap) {bb L : Nat} {xs : Nat → Int32} (hXs : va_X bb L xs s s.heap) (hbl : bb < s.heap.size) (hbA : ¬ pq_A G s.heap.size bb) (k1_ : pq_ok G 10 x) (k2_ : pq_ok G 11 (x + 1365)) (k3_ : pq_ok G 13 (x + 1376)) (hL : L ≤ 2560) (fin : ∀ (cells slots : Nat) (S : pq_N) (x4 : Int32), cells ≤ 601024 → slots ≤ 7293034 → pq_V p l e room_1 s m av below meth c cells slots Q D y 9 (pq_A G s.heap.size) (fun _ => True) G S 2776 [(0, .ref bb), (1, .ref x), (2, .ref (x + 1365)), (3, .ref (x + 1376)), (4, .int x4)] []) : ∀ (r i cells slots : Nat) (S : pq_N) (W : tW), L < i + 5 * (r + 1) → i ≤ 2560 → cells + 8 * r ≤ 601024 → slots + 48 * r ≤ 7293034 → inv x S W → pq_V p l e room_1 s m av below meth c cells slots Q D y 9 (pq_A G s.heap.size) (fun _ => True) G S 23 [(0, .ref bb), (1, .ref x), (2, .ref (x + 1365)), (3, .ref (x + 1376)), (4, .int (nI i))] [] := by
  have W0 : pq_WT G := h.1
  intro r
  induction r with
  | zero =>
    intro i cells slots S W hr hi hc hs iv
    refine pv_iload C 4 dL_law_23 rfl ?_
    refine pv_aload_n C 0 dL_law_25 rfl rfl ?_
    refine pv_slen C hXs hbl hbA dL_law_26 ?_
    refine pv_iconst (v := 5) C dL_law_27 (by decide) ?_
    refine pv_isub C dL_law_28 ?_
    refine pv_icmp_gt (tgt := 2776) C dL_law_29 (by decide) (fun _ => ?_) (fun c1 => ?_)
    · exact fin cells slots S (nI i) (by omega) (by omega)
    · exfalso
      apply c1
      show nI L - nI 5 < nI i
      rw [Int32.lt_iff_toInt_lt, pk_sub_toInt (by omega) (by omega), nI_toInt (by omega)]
      omega
  | succ r ih =>
    intro i cells slots S W hr hi hc hs iv
    refine pv_iload C 4 dL_law_23 rfl ?_
    refine pv_aload_n C 0 dL_law_25 rfl rfl ?_
    refine pv_slen C hXs hbl hbA dL_law_26 ?_
    refine pv_iconst (v := 5) C dL_law_27 (by decide) ?_
    refine pv_isub C dL_law_28 ?_
    refine pv_icmp_gt (tgt := 2776) C dL_law_29 (by decide) (fun _ => ?_) (fun c1 => ?_)
    · exact fin cells slots S (nI i) (by omega) (by omega)
    · have c2 : i + 5 ≤ L := by
        rcases Nat.lt_or_ge L (i + 5) with z | z
        · exfalso
          apply c1
          show nI L - nI 5 < nI i
          rw [Int32.lt_iff_toInt_lt, pk_sub_toInt (by omega) (by omega), nI_toInt (by omega)]
          omega
        · exact z
      have next : ∀ (S1 : pq_N) (W1 : tW), inv x S1 W1 → pq_V p l e room_1 s m av below meth c (cells + 8) (slots + 48) Q D y 9 (pq_A G s.heap.size) (fun _ => True) G S1 2770 [(0, .ref bb), (1, .ref x), (2, .ref (x + 1365)), (3, .ref (x + 1376)), (4, .int (nI i))] [] := fun S1 W1 iv1 => by
        refine pv_iinc (v := nI (i + 5)) C 4 [(4, .int (nI (i + 5))), (0, .ref bb), (1, .ref x), (2, .ref (x + 1365)), (3, .ref (x + 1376))] dL_law_2770 rfl (by rw [show Int32.ofInt 5 = nI 5 from by decide]; exact nI_add i 5) (by decide) rfl ?_
        refine pv_goto (tgt := 23) C dL_law_2773 (by decide) ?_
        refine pv_sub [1, 2, 3, 4, 0] rfl ?_
        exact ih (i + 5) (cells + 8) (slots + 48) S1 W1 (by omega) (by omega) (by omega) (by omega) iv1
      have gd : ∀ (k : Nat), k < 5 → ¬ ((nI i + nI k) < 0 ∨ L ≤ (Int32.toNatClampNeg (nI i + nI k))) := fun k hk => by
        rw [nI_add]
        exact nI_in (by omega) (by omega)
      have g0 : ¬ (nI i < 0 ∨ L ≤ (Int32.toNatClampNeg (nI i))) := nI_in (by omega) (by omega)
      have g1 : ¬ ((nI i + (1 : Int32)) < 0 ∨ L ≤ (Int32.toNatClampNeg (nI i + (1 : Int32)))) := gd 1 (by decide)
      have g2 : ¬ ((nI i + (2 : Int32)) < 0 ∨ L ≤ (Int32.toNatClampNeg (nI i + (2 : Int32)))) := gd 2 (by decide)
      have g3 : ¬ ((nI i + (3 : Int32)) < 0 ∨ L ≤ (Int32.toNatClampNeg (nI i + (3 : Int32)))) := gd 3 (by decide)
      have g4 : ¬ ((nI i + (4 : Int32)) < 0 ∨ L ≤ (Int32.toNatClampNeg (nI i + (4 : Int32)))) := gd 4 (by decide)
      refine pv_aload_n C 0 dL_law_32 rfl rfl ?_
      refine pv_iload C 4 dL_law_33 rfl ?_
      refine pv_sld C hXs hbl hbA g0 dL_law_35 ?_
      refine pv_bipush (v := 63) C dL_law_36 (by decide) ?_
      refine pv_iand C dL_law_38 ?_
      obtain ⟨j, hj, ej⟩ := pk_andE (xs (Int32.toNatClampNeg (nI i))) (m := 63) 6 (by decide)
      rw [ej]
      have hc8 : cells + 8 ≤ 601024 := by omega
      have hs48 : slots + 48 ≤ 7293034 := by omega
      by_cases j0 : j = 0
      · subst j0
        obtain ⟨Sf, W1, f1, f2⟩ := ck_0 (L := L) (xs := xs) h ho g1 iv
        refine pv_tabIn (off := 209) (tgt := 248) C dL_law_39 (by decide) (by decide) rfl (by decide) ?_
        exact r_L_c0 hl W0 C hX hXs hbl hbA k1_ k2_ k3_ hc8 hs48 f1 (next Sf W1 f2)
      by_cases j1 : j = 1
      · subst j1
        obtain ⟨Sf, W1, f1, f2⟩ := ck_1 (L := L) (xs := xs) h ho g1 iv
        refine pv_tabIn (off := 265) (tgt := 304) C dL_law_39 (by decide) (by decide) rfl (by decide) ?_
        exact r_L_c1 hl W0 C hX hXs hbl hbA k1_ k2_ k3_ hc8 hs48 f1 (next Sf W1 f2)
      by_cases j2 : j = 2
      · subst j2
        obtain ⟨Sf, W1, f1, f2⟩ := ck_2 (L := L) (xs := xs) h ho g1 g2 iv
        refine pv_tabIn (off := 321) (tgt := 360) C dL_law_39 (by decide) (by decide) rfl (by decide) ?_
        exact r_L_c2 hl W0 C hX hXs hbl hbA k1_ k2_ k3_ hc8 hs48 f1 (next Sf W1 f2)
      by_cases j3 : j = 3
      · subst j3
        obtain ⟨Sf, W1, f1, f2⟩ := ck_3 (L := L) (xs := xs) h ho  iv
        refine pv_tabIn (off := 389) (tgt := 428) C dL_law_39 (by decide) (by decide) rfl (by decide) ?_
        exact r_L_c3 hl W0 C hX hXs hbl hbA k1_ k2_ k3_ hc8 hs48 f1 (next Sf W1 f2)
      by_cases j4 : j = 4
      · subst j4
        obtain ⟨Sf, W1, f1, f2⟩ := ck_4 (L := L) (xs := xs) h ho  iv
        refine pv_tabIn (off := 402) (tgt := 441) C dL_law_39 (by decide) (by decide) rfl (by decide) ?_
        exact r_L_c4 hl W0 C hX hXs hbl hbA k1_ k2_ k3_ hc8 hs48 f1 (next Sf W1 f2)
      by_cases j5 : j = 5
      · subst j5
        obtain ⟨Sf, W1, f1, f2⟩ := ck_5 (L := L) (xs := xs) h ho  iv
        refine pv_tabIn (off := 446) (tgt := 485) C dL_law_39 (by decide) (by decide) rfl (by decide) ?_
        exact r_L_c5 hl W0 C hX hXs hbl hbA k1_ k2_ k3_ hc8 hs48 f1 (next Sf W1 f2)
      by_cases j6 : j = 6
      · subst j6
        obtain ⟨Sf, W1, f1, f2⟩ := ck_6 (L := L) (xs := xs) h ho  iv
        refine pv_tabIn (off := 459) (tgt := 498) C dL_law_39 (by decide) (by decide) rfl (by decide) ?_
        exact r_L_c6 hl W0 C hX hXs hbl hbA k1_ k2_ k3_ hc8 hs48 f1 (next Sf W1 f2)
      by_cases j7 : j = 7
      · subst j7
        obtain ⟨Sf, W1, f1, f2⟩ := ck_7 (L := L) (xs := xs) h ho g1 iv
        refine pv_tabIn (off := 472) (tgt := 511) C dL_law_39 (by decide) (by decide) rfl (by decide) ?_
        exact r_L_c7 hl W0 C hX hXs hbl hbA k1_ k2_ k3_ hc8 hs48 f1 (next Sf W1 f2)
      by_cases j8 : j = 8
      · subst j8
        obtain ⟨Sf, W1, f1, f2⟩ := ck_8 (L := L) (xs := xs) h ho g1 iv
        refine pv_tabIn (off := 528) (tgt := 567) C dL_law_39 (by decide) (by decide) rfl (by decide) ?_
        exact r_L_c8 hl W0 C hX hXs hbl hbA k1_ k2_ k3_ hc8 hs48 f1 (next Sf W1 f2)
      by_cases j9 : j = 9
      · subst j9
        obtain ⟨Sf, W1, f1, f2⟩ := ck_9 (L := L) (xs := xs) h ho g1 iv
        refine pv_tabIn (off := 584) (tgt := 623) C dL_law_39 (by decide) (by decide) rfl (by decide) ?_
        exact r_L_c9 hl W0 C hX hXs hbl hbA k1_ k2_ k3_ hc8 hs48 f1 (next Sf W1 f2)
      by_cases j10 : j = 10
      · subst j10
        obtain ⟨Sf, W1, f1, f2⟩ := ck_10 (L := L) (xs := xs) h ho g1 iv
        refine pv_tabIn (off := 640) (tgt := 679) C dL_law_39 (by decide) (by decide) rfl (by decide) ?_
        exact r_L_c10 hl W0 C hX hXs hbl hbA k1_ k2_ k3_ hc8 hs48 f1 (next Sf W1 f2)
      by_cases j11 : j = 11
      · subst j11
        obtain ⟨Sf, W1, f1, f2⟩ := ck_11 (L := L) (xs := xs) h ho g1 g2 iv
        refine pv_tabIn (off := 696) (tgt := 735) C dL_law_39 (by decide) (by decide) rfl (by decide) ?_
        exact r_L_c11 hl W0 C hX hXs hbl hbA k1_ k2_ k3_ hc8 hs48 f1 (next Sf W1 f2)
      by_cases j12 : j = 12
      · subst j12
        obtain ⟨Sf, W1, f1, f2⟩ := ck_12 (L := L) (xs := xs) h ho g1 g2 g3 iv
        refine pv_tabIn (off := 764) (tgt := 803) C dL_law_39 (by decide) (by decide) rfl (by decide) ?_
        exact r_L_c12 hl W0 C hX hXs hbl hbA k1_ k2_ k3_ hc8 hs48 f1 (next Sf W1 f2)
      by_cases j13 : j = 13
      · subst j13
        obtain ⟨Sf, W1, f1, f2⟩ := ck_13 (L := L) (xs := xs) h ho g1 g2 g3 g4 iv
        refine pv_tabIn (off := 844) (tgt := 883) C dL_law_39 (by decide) (by decide) rfl (by decide) ?_
        exact r_L_c13 hl W0 C hX hXs hbl hbA k1_ k2_ k3_ hc8 hs48 f1 (next Sf W1 f2)
      by_cases j14 : j = 14
      · subst j14
        obtain ⟨Sf, W1, f1, f2⟩ := ck_14 (L := L) (xs := xs) h ho  iv
        refine pv_tabIn (off := 943) (tgt := 982) C dL_law_39 (by decide) (by decide) rfl (by decide) ?_
        exact r_L_c14 hl W0 C hX hXs hbl hbA k1_ k2_ k3_ hc8 hs48 f1 (next Sf W1 f2)
      by_cases j15 : j = 15
      · subst j15
        obtain ⟨Sf, W1, f1, f2⟩ := ck_15 (L := L) (xs := xs) h ho g1 iv
        refine pv_tabIn (off := 956) (tgt := 995) C dL_law_39 (by decide) (by decide) rfl (by decide) ?_
        exact r_L_c15 hl W0 C hX hXs hbl hbA k1_ k2_ k3_ hc8 hs48 f1 (next Sf W1 f2)
      by_cases j16 : j = 16
      · subst j16
        obtain ⟨Sf, W1, f1, f2⟩ := ck_16 (L := L) (xs := xs) h ho g1 g2 iv
        refine pv_tabIn (off := 1012) (tgt := 1051) C dL_law_39 (by decide) (by decide) rfl (by decide) ?_
        exact r_L_c16 hl W0 C hX hXs hbl hbA k1_ k2_ k3_ hc8 hs48 f1 (next Sf W1 f2)
      by_cases j17 : j = 17
      · subst j17
        obtain ⟨Sf, W1, f1, f2⟩ := ck_17 (L := L) (xs := xs) h ho g1 g2 iv
        refine pv_tabIn (off := 1080) (tgt := 1119) C dL_law_39 (by decide) (by decide) rfl (by decide) ?_
        exact r_L_c17 hl W0 C hX hXs hbl hbA k1_ k2_ k3_ hc8 hs48 f1 (next Sf W1 f2)
      by_cases j18 : j = 18
      · subst j18
        obtain ⟨Sf, W1, f1, f2⟩ := ck_18 (L := L) (xs := xs) h ho g1 g2 iv
        refine pv_tabIn (off := 1148) (tgt := 1187) C dL_law_39 (by decide) (by decide) rfl (by decide) ?_
        exact r_L_c18 hl W0 C hX hXs hbl hbA k1_ k2_ k3_ hc8 hs48 f1 (next Sf W1 f2)
      by_cases j19 : j = 19
      · subst j19
        obtain ⟨Sf, W1, f1, f2⟩ := ck_19 (L := L) (xs := xs) h ho g1 g2 iv
        refine pv_tabIn (off := 1216) (tgt := 1255) C dL_law_39 (by decide) (by decide) rfl (by decide) ?_
        exact r_L_c19 hl W0 C hX hXs hbl hbA k1_ k2_ k3_ hc8 hs48 f1 (next Sf W1 f2)
      by_cases j20 : j = 20
      · subst j20
        obtain ⟨Sf, W1, f1, f2⟩ := ck_20 (L := L) (xs := xs) h ho g1 g2 iv
        refine pv_tabIn (off := 1284) (tgt := 1323) C dL_law_39 (by decide) (by decide) rfl (by decide) ?_
        exact r_L_c20 hl W0 C hX hXs hbl hbA k1_ k2_ k3_ hc8 hs48 f1 (next Sf W1 f2)
      by_cases j21 : j = 21
      · subst j21
        obtain ⟨Sf, W1, f1, f2⟩ := ck_21 (L := L) (xs := xs) h ho g1 g2 iv
        refine pv_tabIn (off := 1352) (tgt := 1391) C dL_law_39 (by decide) (by decide) rfl (by decide) ?_
        exact r_L_c21 hl W0 C hX hXs hbl hbA k1_ k2_ k3_ hc8 hs48 f1 (next Sf W1 f2)
      by_cases j22 : j = 22
      · subst j22
        obtain ⟨Sf, W1, f1, f2⟩ := ck_22 (L := L) (xs := xs) h ho g1 g2 iv
        refine pv_tabIn (off := 1420) (tgt := 1459) C dL_law_39 (by decide) (by decide) rfl (by decide) ?_
        exact r_L_c22 hl W0 C hX hXs hbl hbA k1_ k2_ k3_ hc8 hs48 f1 (next Sf W1 f2)
      by_cases j23 : j = 23
      · subst j23
        obtain ⟨Sf, W1, f1, f2⟩ := ck_23 (L := L) (xs := xs) h ho g1 g2 iv
        refine pv_tabIn (off := 1488) (tgt := 1527) C dL_law_39 (by decide) (by decide) rfl (by decide) ?_
        exact r_L_c23 hl W0 C hX hXs hbl hbA k1_ k2_ k3_ hc8 hs48 f1 (next Sf W1 f2)
      by_cases j24 : j = 24
      · subst j24
        obtain ⟨Sf, W1, f1, f2⟩ := ck_24 (L := L) (xs := xs) h ho g1 g2 iv
        refine pv_tabIn (off := 1556) (tgt := 1595) C dL_law_39 (by decide) (by decide) rfl (by decide) ?_
        exact r_L_c24 hl W0 C hX hXs hbl hbA k1_ k2_ k3_ hc8 hs48 f1 (next Sf W1 f2)
      by_cases j25 : j = 25
      · subst j25
        obtain ⟨Sf, W1, f1, f2⟩ := ck_25 (L := L) (xs := xs) h ho g1 g2 iv
        refine pv_tabIn (off := 1624) (tgt := 1663) C dL_law_39 (by decide) (by decide) rfl (by decide) ?_
        exact r_L_c25 hl W0 C hX hXs hbl hbA k1_ k2_ k3_ hc8 hs48 f1 (next Sf W1 f2)
      by_cases j26 : j = 26
      · subst j26
        obtain ⟨Sf, W1, f1, f2⟩ := ck_26 (L := L) (xs := xs) h ho g1 g2 iv
        refine pv_tabIn (off := 1692) (tgt := 1731) C dL_law_39 (by decide) (by decide) rfl (by decide) ?_
        exact r_L_c26 hl W0 C hX hXs hbl hbA k1_ k2_ k3_ hc8 hs48 f1 (next Sf W1 f2)
      by_cases j27 : j = 27
      · subst j27
        obtain ⟨Sf, W1, f1, f2⟩ := ck_27 (L := L) (xs := xs) h ho g1 g2 iv
        refine pv_tabIn (off := 1760) (tgt := 1799) C dL_law_39 (by decide) (by decide) rfl (by decide) ?_
        exact r_L_c27 hl W0 C hX hXs hbl hbA k1_ k2_ k3_ hc8 hs48 f1 (next Sf W1 f2)
      by_cases j28 : j = 28
      · subst j28
        obtain ⟨Sf, W1, f1, f2⟩ := ck_28 (L := L) (xs := xs) h ho g1 g2 iv
        refine pv_tabIn (off := 1828) (tgt := 1867) C dL_law_39 (by decide) (by decide) rfl (by decide) ?_
        exact r_L_c28 hl W0 C hX hXs hbl hbA k1_ k2_ k3_ hc8 hs48 f1 (next Sf W1 f2)
      by_cases j29 : j = 29
      · subst j29
        obtain ⟨Sf, W1, f1, f2⟩ := ck_29 (L := L) (xs := xs) h ho g1 iv
        refine pv_tabIn (off := 1896) (tgt := 1935) C dL_law_39 (by decide) (by decide) rfl (by decide) ?_
        exact r_L_c29 hl W0 C hX hXs hbl hbA k1_ k2_ k3_ hc8 hs48 f1 (next Sf W1 f2)
      by_cases j30 : j = 30
      · subst j30
        obtain ⟨Sf, W1, f1, f2⟩ := ck_30 (L := L) (xs := xs) h ho g1 g2 iv
        refine pv_tabIn (off := 1952) (tgt := 1991) C dL_law_39 (by decide) (by decide) rfl (by decide) ?_
        exact r_L_c30 hl W0 C hX hXs hbl hbA k1_ k2_ k3_ hc8 hs48 f1 (next Sf W1 f2)
      by_cases j31 : j = 31
      · subst j31
        obtain ⟨Sf, W1, f1, f2⟩ := ck_31 (L := L) (xs := xs) h ho  iv
        refine pv_tabIn (off := 2020) (tgt := 2059) C dL_law_39 (by decide) (by decide) rfl (by decide) ?_
        exact r_L_c31 hl W0 C hX hXs hbl hbA k1_ k2_ k3_ hc8 hs48 f1 (next Sf W1 f2)
      by_cases j32 : j = 32
      · subst j32
        obtain ⟨Sf, W1, f1, f2⟩ := ck_32 (L := L) (xs := xs) h ho  iv
        refine pv_tabIn (off := 2033) (tgt := 2072) C dL_law_39 (by decide) (by decide) rfl (by decide) ?_
        exact r_L_c32 hl W0 C hX hXs hbl hbA k1_ k2_ k3_ hc8 hs48 f1 (next Sf W1 f2)
      by_cases j33 : j = 33
      · subst j33
        obtain ⟨Sf, W1, f1, f2⟩ := ck_33 (L := L) (xs := xs) h ho  iv
        refine pv_tabIn (off := 2046) (tgt := 2085) C dL_law_39 (by decide) (by decide) rfl (by decide) ?_
        exact r_L_c33 hl W0 C hX hXs hbl hbA k1_ k2_ k3_ hc8 hs48 f1 (next Sf W1 f2)
      by_cases j34 : j = 34
      · subst j34
        obtain ⟨Sf, W1, f1, f2⟩ := ck_34 (L := L) (xs := xs) h ho g1 g2 iv
        refine pv_tabIn (off := 2087) (tgt := 2126) C dL_law_39 (by decide) (by decide) rfl (by decide) ?_
        exact r_L_c34 hl W0 C hX hXs hbl hbA k1_ k2_ k3_ hc8 hs48 f1 (next Sf W1 f2)
      by_cases j35 : j = 35
      · subst j35
        obtain ⟨Sf, W1, f1, f2⟩ := ck_35 (L := L) (xs := xs) h ho g1 iv
        refine pv_tabIn (off := 2162) (tgt := 2201) C dL_law_39 (by decide) (by decide) rfl (by decide) ?_
        exact r_L_c35 hl W0 C hX hXs hbl hbA k1_ k2_ k3_ hc8 hs48 f1 (next Sf W1 f2)
      by_cases j36 : j = 36
      · subst j36
        obtain ⟨Sf, W1, f1, f2⟩ := ck_36 (L := L) (xs := xs) h ho g1 iv
        refine pv_tabIn (off := 2218) (tgt := 2257) C dL_law_39 (by decide) (by decide) rfl (by decide) ?_
        exact r_L_c36 hl W0 C hX hXs hbl hbA k1_ k2_ k3_ hc8 hs48 f1 (next Sf W1 f2)
      by_cases j37 : j = 37
      · subst j37
        obtain ⟨Sf, W1, f1, f2⟩ := ck_37 (L := L) (xs := xs) h ho g1 iv
        refine pv_tabIn (off := 2274) (tgt := 2313) C dL_law_39 (by decide) (by decide) rfl (by decide) ?_
        exact r_L_c37 hl W0 C hX hXs hbl hbA k1_ k2_ k3_ hc8 hs48 f1 (next Sf W1 f2)
      by_cases j38 : j = 38
      · subst j38
        obtain ⟨Sf, W1, f1, f2⟩ := ck_38 (L := L) (xs := xs) h ho g1 g2 iv
        refine pv_tabIn (off := 2330) (tgt := 2369) C dL_law_39 (by decide) (by decide) rfl (by decide) ?_
        exact r_L_c38 hl W0 C hX hXs hbl hbA k1_ k2_ k3_ hc8 hs48 f1 (next Sf W1 f2)
      by_cases j39 : j = 39
      · subst j39
        obtain ⟨Sf, W1, f1, f2⟩ := ck_39 (L := L) (xs := xs) h ho  iv
        refine pv_tabIn (off := 2398) (tgt := 2437) C dL_law_39 (by decide) (by decide) rfl (by decide) ?_
        exact r_L_c39 hl W0 C hX hXs hbl hbA k1_ k2_ k3_ hc8 hs48 f1 (next Sf W1 f2)
      by_cases j40 : j = 40
      · subst j40
        obtain ⟨Sf, W1, f1, f2⟩ := ck_40 (L := L) (xs := xs) h ho g1 iv
        refine pv_tabIn (off := 2411) (tgt := 2450) C dL_law_39 (by decide) (by decide) rfl (by decide) ?_
        exact r_L_c40 hl W0 C hX hXs hbl hbA k1_ k2_ k3_ hc8 hs48 f1 (next Sf W1 f2)
      by_cases j41 : j = 41
      · subst j41
        obtain ⟨Sf, W1, f1, f2⟩ := ck_41 (L := L) (xs := xs) h ho g1 g2 iv
        refine pv_tabIn (off := 2467) (tgt := 2506) C dL_law_39 (by decide) (by decide) rfl (by decide) ?_
        exact r_L_c41 hl W0 C hX hXs hbl hbA k1_ k2_ k3_ hc8 hs48 f1 (next Sf W1 f2)
      by_cases j42 : j = 42
      · subst j42
        obtain ⟨Sf, W1, f1, f2⟩ := ck_42 (L := L) (xs := xs) h ho g1 iv
        refine pv_tabIn (off := 2535) (tgt := 2574) C dL_law_39 (by decide) (by decide) rfl (by decide) ?_
        exact r_L_c42 hl W0 C hX hXs hbl hbA k1_ k2_ k3_ hc8 hs48 f1 (next Sf W1 f2)
      by_cases j43 : j = 43
      · subst j43
        obtain ⟨Sf, W1, f1, f2⟩ := ck_43 (L := L) (xs := xs) h ho  iv
        refine pv_tabIn (off := 2591) (tgt := 2630) C dL_law_39 (by decide) (by decide) rfl (by decide) ?_
        exact r_L_c43 hl W0 C hX hXs hbl hbA k1_ k2_ k3_ hc8 hs48 f1 (next Sf W1 f2)
      by_cases j44 : j = 44
      · subst j44
        obtain ⟨Sf, W1, f1, f2⟩ := ck_44 (L := L) (xs := xs) h ho  iv
        refine pv_tabIn (off := 2604) (tgt := 2643) C dL_law_39 (by decide) (by decide) rfl (by decide) ?_
        exact r_L_c44 hl W0 C hX hXs hbl hbA k1_ k2_ k3_ hc8 hs48 f1 (next Sf W1 f2)
      by_cases j45 : j = 45
      · subst j45
        obtain ⟨Sf, W1, f1, f2⟩ := ck_45 (L := L) (xs := xs) h ho  iv
        refine pv_tabIn (off := 2617) (tgt := 2656) C dL_law_39 (by decide) (by decide) rfl (by decide) ?_
        exact r_L_c45 hl W0 C hX hXs hbl hbA k1_ k2_ k3_ hc8 hs48 f1 (next Sf W1 f2)
      by_cases j46 : j = 46
      · subst j46
        obtain ⟨Sf, W1, f1, f2⟩ := ck_46 (L := L) (xs := xs) h ho  iv
        refine pv_tabIn (off := 2661) (tgt := 2700) C dL_law_39 (by decide) (by decide) rfl (by decide) ?_
        exact r_L_c46 hl W0 C hX hXs hbl hbA k1_ k2_ k3_ hc8 hs48 f1 (next Sf W1 f2)
      by_cases j47 : j = 47
      · subst j47
        obtain ⟨Sf, W1, f1, f2⟩ := ck_47 (L := L) (xs := xs) h ho  iv
        refine pv_tabIn (off := 2674) (tgt := 2713) C dL_law_39 (by decide) (by decide) rfl (by decide) ?_
        exact r_L_c47 hl W0 C hX hXs hbl hbA k1_ k2_ k3_ hc8 hs48 f1 (next Sf W1 f2)
      by_cases j48 : j = 48
      · subst j48
        obtain ⟨Sf, W1, f1, f2⟩ := ck_48 (L := L) (xs := xs) h ho  iv
        refine pv_tabIn (off := 2687) (tgt := 2726) C dL_law_39 (by decide) (by decide) rfl (by decide) ?_
        exact r_L_c48 hl W0 C hX hXs hbl hbA k1_ k2_ k3_ hc8 hs48 f1 (next Sf W1 f2)
      refine pv_tabOut (tgt := 2770) C dL_law_39 (Or.inr ?_) (by decide) ?_
      · rw [nI_toInt (by omega)]
        omega
      · exact pv_wide (by omega) (by omega) (next S W iv)
end LL
