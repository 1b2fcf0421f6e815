/-! THE 49 CASES of the law, as functions -/
section CS
variable {G : pq_G} {x L : Nat} {S : pq_N} {xs : Nat → Int32} {x4 : Int32} {W : tW}
theorem ck_0 (h : sh_G G x) (ho : pq_n G (x + 1376) = 1) (g1 : ¬ ((x4 + (1 : Int32)) < 0 ∨ L ≤ (Int32.toNatClampNeg (x4 + (1 : Int32))))) (iv : inv x S W) : ∃ Sf W', F_L_c0 G S xs L x (x + 1365) (x + 1376) x4 = some Sf ∧ inv x Sf W' := by
  obtain ⟨T, n, H, g, N, len, c⟩ := W
  obtain ⟨r, v, d⟩ := iv
  have vt : vT T := v.1
  have r0 : rS S x 0 T := r.1
  obtain ⟨au, pd, hc⟩ := k_print (a := (xs (Int32.toNatClampNeg (x4 + (1 : Int32))))) h v r
  have hcc := hc
  obtain ⟨k, S2, w1, w2, w3, w4, w5⟩ := w_gen (e := e_3) ho d hcc (fun z hz U => g_12 (th_print hz) U)
  have w1' : F_L_print G S x (xs (Int32.toNatClampNeg (x4 + (1 : Int32)))) (x + 1376) = some (k, S2) := w1
  unfold F_L_c0
  rw [if_neg g1, pq_bd1 w1', if_neg g1]
  obtain ⟨Sf, y1, y2⟩ := ck_tail (F := F_X11_print G S2 (x + 1365) (xs (Int32.toNatClampNeg (x4 + (1 : Int32))))) ho w5 w2 w3 (fun z hz => e3_b (by have := th_print hz; omega)) (j_print h v w4 au pd)
  exact ⟨Sf, _, y1, y2⟩
theorem ck_1 (h : sh_G G x) (ho : pq_n G (x + 1376) = 1) (g1 : ¬ ((x4 + (1 : Int32)) < 0 ∨ L ≤ (Int32.toNatClampNeg (x4 + (1 : Int32))))) (iv : inv x S W) : ∃ Sf W', F_L_c1 G S xs L x (x + 1365) (x + 1376) x4 = some Sf ∧ inv x Sf W' := by
  obtain ⟨T, n, H, g, N, len, c⟩ := W
  obtain ⟨r, v, d⟩ := iv
  have vt : vT T := v.1
  have r0 : rS S x 0 T := r.1
  have hcc := (k_pass h v r : cc_ x S (F_X10_pass G S x (xs (Int32.toNatClampNeg (x4 + (1 : Int32))))) _ _)
  obtain ⟨k, S2, w1, w2, w3, w4, w5⟩ := w_gen (e := e_1) ho d hcc (fun z hz U => g_1 (th_pass hz) U)
  have w1' : F_L_pass G S x (xs (Int32.toNatClampNeg (x4 + (1 : Int32)))) (x + 1376) = some (k, S2) := w1
  unfold F_L_c1
  rw [if_neg g1, pq_bd1 w1', if_neg g1]
  obtain ⟨Sf, y1, y2⟩ := ck_tail (F := F_X11_pass G S2 (x + 1365) (xs (Int32.toNatClampNeg (x4 + (1 : Int32))))) ho w5 w2 w3 (fun z hz => e1_b) (j_pass h v w4)
  exact ⟨Sf, _, y1, y2⟩
theorem ck_2 (h : sh_G G x) (ho : pq_n G (x + 1376) = 1) (g1 : ¬ ((x4 + (1 : Int32)) < 0 ∨ L ≤ (Int32.toNatClampNeg (x4 + (1 : Int32))))) (g2 : ¬ ((x4 + (2 : Int32)) < 0 ∨ L ≤ (Int32.toNatClampNeg (x4 + (2 : Int32))))) (iv : inv x S W) : ∃ Sf W', F_L_c2 G S xs L x (x + 1365) (x + 1376) x4 = some Sf ∧ inv x Sf W' := by
  obtain ⟨T, n, H, g, N, len, c⟩ := W
  obtain ⟨r, v, d⟩ := iv
  have vt : vT T := v.1
  have r0 : rS S x 0 T := r.1
  have hcc := (k_mend h v r : cc_ x S (F_X10_mend G S x (xs (Int32.toNatClampNeg (x4 + (1 : Int32)))) (xs (Int32.toNatClampNeg (x4 + (2 : Int32))))) _ _)
  obtain ⟨k, S2, w1, w2, w3, w4, w5⟩ := w_gen (e := e_3) ho d hcc (fun z hz U => g_32 (th_mend hz) U)
  have w1' : F_L_mend G S x (xs (Int32.toNatClampNeg (x4 + (1 : Int32)))) (xs (Int32.toNatClampNeg (x4 + (2 : Int32)))) (x + 1376) = some (k, S2) := w1
  unfold F_L_c2
  rw [if_neg g1, if_neg g2, pq_bd1 w1', if_neg g1, if_neg g2]
  obtain ⟨Sf, y1, y2⟩ := ck_tail (F := F_X11_mend G S2 (x + 1365) (xs (Int32.toNatClampNeg (x4 + (1 : Int32)))) (xs (Int32.toNatClampNeg (x4 + (2 : Int32))))) ho w5 w2 w3 (fun z hz => e3_b (by have := th_mend hz; omega)) (j_mend h v w4)
  exact ⟨Sf, _, y1, y2⟩
theorem ck_3 (h : sh_G G x) (ho : pq_n G (x + 1376) = 1)  (iv : inv x S W) : ∃ Sf W', F_L_c3 G S xs L x (x + 1365) (x + 1376) x4 = some Sf ∧ inv x Sf W' := by
  obtain ⟨T, n, H, g, N, len, c⟩ := W
  obtain ⟨r, v, d⟩ := iv
  have vt : vT T := v.1
  have r0 : rS S x 0 T := r.1
  unfold F_L_c3
  obtain ⟨Sf, y1, y2⟩ := ci_gen (W0 := (T, n, H, g, N, len, c)) (Fr := fun U => F_X11_mendAll G U (x + 1365)) d (k_mendAll h v r) (fun S1 d1 => i_mendAll h v d1)
  exact ⟨Sf, _, y1, y2⟩
theorem ck_4 (h : sh_G G x) (ho : pq_n G (x + 1376) = 1)  (iv : inv x S W) : ∃ Sf W', F_L_c4 G S xs L x (x + 1365) (x + 1376) x4 = some Sf ∧ inv x Sf W' := by
  obtain ⟨T, n, H, g, N, len, c⟩ := W
  obtain ⟨r, v, d⟩ := iv
  have vt : vT T := v.1
  have r0 : rS S x 0 T := r.1
  have hcc := (k_withdraw h v r : cc_ x S (F_X10_withdraw G S x ) _ _)
  obtain ⟨k, S2, w1, w2, w3, w4, w5⟩ := w_gen (e := e_1) ho d hcc (fun z hz U => g_2 (th_wd hz) U)
  have w1' : F_L_withdraw G S x  (x + 1376) = some (k, S2) := w1
  unfold F_L_c4
  rw [pq_bd1 w1']
  obtain ⟨Sf, y1, y2⟩ := ck_tail (F := F_X11_withdraw G S2 (x + 1365) ) ho w5 w2 w3 (fun z hz => e1_b) (j_withdraw h v w4)
  exact ⟨Sf, _, y1, y2⟩
theorem ck_5 (h : sh_G G x) (ho : pq_n G (x + 1376) = 1)  (iv : inv x S W) : ∃ Sf W', F_L_c5 G S xs L x (x + 1365) (x + 1376) x4 = some Sf ∧ inv x Sf W' := by
  obtain ⟨T, n, H, g, N, len, c⟩ := W
  obtain ⟨r, v, d⟩ := iv
  have vt : vT T := v.1
  have r0 : rS S x 0 T := r.1
  unfold F_L_c5
  obtain ⟨Sf, y1, y2⟩ := ci_gen (W0 := (T, n, H, g, N, len, c)) (Fr := fun U => F_X11_day G U (x + 1365)) d (k_day h v r) (fun S1 d1 => i_day h d1)
  exact ⟨Sf, _, y1, y2⟩
theorem ck_6 (h : sh_G G x) (ho : pq_n G (x + 1376) = 1)  (iv : inv x S W) : ∃ Sf W', F_L_c6 G S xs L x (x + 1365) (x + 1376) x4 = some Sf ∧ inv x Sf W' := by
  obtain ⟨T, n, H, g, N, len, c⟩ := W
  obtain ⟨r, v, d⟩ := iv
  have vt : vT T := v.1
  have r0 : rS S x 0 T := r.1
  unfold F_L_c6
  obtain ⟨Sf, y1, y2⟩ := ci_gen (W0 := (T, n, H, g, N, len, c)) (Fr := fun U => F_X11_pamphlets G U (x + 1365)) d (k_pamphlets h v r) (fun S1 d1 => i_pamphlets h d1)
  exact ⟨Sf, _, y1, y2⟩
theorem ck_7 (h : sh_G G x) (ho : pq_n G (x + 1376) = 1) (g1 : ¬ ((x4 + (1 : Int32)) < 0 ∨ L ≤ (Int32.toNatClampNeg (x4 + (1 : Int32))))) (iv : inv x S W) : ∃ Sf W', F_L_c7 G S xs L x (x + 1365) (x + 1376) x4 = some Sf ∧ inv x Sf W' := by
  obtain ⟨T, n, H, g, N, len, c⟩ := W
  obtain ⟨r, v, d⟩ := iv
  have vt : vT T := v.1
  have r0 : rS S x 0 T := r.1
  have hcc := (cc_q v r (k_authorOf h vt r0) : cc_ x S (F_X10_authorOf G S x (xs (Int32.toNatClampNeg (x4 + (1 : Int32))))) _ _)
  obtain ⟨k, S2, w1, w2, w3, w4, w5⟩ := w_gen (e := e_1) ho d hcc (fun z hz U => g_3 (th_q1 hz) U)
  have w1' : F_L_authorOf G S x (xs (Int32.toNatClampNeg (x4 + (1 : Int32)))) (x + 1376) = some (k, S2) := w1
  unfold F_L_c7
  rw [if_neg g1, pq_bd1 w1', if_neg g1]
  obtain ⟨Sf, y1, y2⟩ := ck_tail (F := F_X11_authorOf G S2 (x + 1365) (xs (Int32.toNatClampNeg (x4 + (1 : Int32))))) ho w5 w2 w3 (fun z hz => e1_b) (j_authorOf h vt w4)
  exact ⟨Sf, _, y1, y2⟩
theorem ck_8 (h : sh_G G x) (ho : pq_n G (x + 1376) = 1) (g1 : ¬ ((x4 + (1 : Int32)) < 0 ∨ L ≤ (Int32.toNatClampNeg (x4 + (1 : Int32))))) (iv : inv x S W) : ∃ Sf W', F_L_c8 G S xs L x (x + 1365) (x + 1376) x4 = some Sf ∧ inv x Sf W' := by
  obtain ⟨T, n, H, g, N, len, c⟩ := W
  obtain ⟨r, v, d⟩ := iv
  have vt : vT T := v.1
  have r0 : rS S x 0 T := r.1
  have hcc := (cc_q v r (k_dayOf h vt r0) : cc_ x S (F_X10_dayOf G S x (xs (Int32.toNatClampNeg (x4 + (1 : Int32))))) _ _)
  obtain ⟨k, S2, w1, w2, w3, w4, w5⟩ := w_gen (e := e_1) ho d hcc (fun z hz U => g_3 (th_q1 hz) U)
  have w1' : F_L_dayOf G S x (xs (Int32.toNatClampNeg (x4 + (1 : Int32)))) (x + 1376) = some (k, S2) := w1
  unfold F_L_c8
  rw [if_neg g1, pq_bd1 w1', if_neg g1]
  obtain ⟨Sf, y1, y2⟩ := ck_tail (F := F_X11_dayOf G S2 (x + 1365) (xs (Int32.toNatClampNeg (x4 + (1 : Int32))))) ho w5 w2 w3 (fun z hz => e1_b) (j_dayOf h vt w4)
  exact ⟨Sf, _, y1, y2⟩
theorem ck_9 (h : sh_G G x) (ho : pq_n G (x + 1376) = 1) (g1 : ¬ ((x4 + (1 : Int32)) < 0 ∨ L ≤ (Int32.toNatClampNeg (x4 + (1 : Int32))))) (iv : inv x S W) : ∃ Sf W', F_L_c9 G S xs L x (x + 1365) (x + 1376) x4 = some Sf ∧ inv x Sf W' := by
  obtain ⟨T, n, H, g, N, len, c⟩ := W
  obtain ⟨r, v, d⟩ := iv
  have vt : vT T := v.1
  have r0 : rS S x 0 T := r.1
  have hcc := (cc_q v r (k_wordsOf h vt r0) : cc_ x S (F_X10_wordsOf G S x (xs (Int32.toNatClampNeg (x4 + (1 : Int32))))) _ _)
  obtain ⟨k, S2, w1, w2, w3, w4, w5⟩ := w_gen (e := e_1) ho d hcc (fun z hz U => g_3 (th_q1 hz) U)
  have w1' : F_L_wordsOf G S x (xs (Int32.toNatClampNeg (x4 + (1 : Int32)))) (x + 1376) = some (k, S2) := w1
  unfold F_L_c9
  rw [if_neg g1, pq_bd1 w1', if_neg g1]
  obtain ⟨Sf, y1, y2⟩ := ck_tail (F := F_X11_wordsOf G S2 (x + 1365) (xs (Int32.toNatClampNeg (x4 + (1 : Int32))))) ho w5 w2 w3 (fun z hz => e1_b) (j_wordsOf h vt w4)
  exact ⟨Sf, _, y1, y2⟩
theorem ck_10 (h : sh_G G x) (ho : pq_n G (x + 1376) = 1) (g1 : ¬ ((x4 + (1 : Int32)) < 0 ∨ L ≤ (Int32.toNatClampNeg (x4 + (1 : Int32))))) (iv : inv x S W) : ∃ Sf W', F_L_c10 G S xs L x (x + 1365) (x + 1376) x4 = some Sf ∧ inv x Sf W' := by
  obtain ⟨T, n, H, g, N, len, c⟩ := W
  obtain ⟨r, v, d⟩ := iv
  have vt : vT T := v.1
  have r0 : rS S x 0 T := r.1
  have hcc := (cc_q v r (k_pagesOf h vt r0) : cc_ x S (F_X10_pagesOf G S x (xs (Int32.toNatClampNeg (x4 + (1 : Int32))))) _ _)
  obtain ⟨k, S2, w1, w2, w3, w4, w5⟩ := w_gen (e := e_1) ho d hcc (fun z hz U => g_3 (th_q1 hz) U)
  have w1' : F_L_pagesOf G S x (xs (Int32.toNatClampNeg (x4 + (1 : Int32)))) (x + 1376) = some (k, S2) := w1
  unfold F_L_c10
  rw [if_neg g1, pq_bd1 w1', if_neg g1]
  obtain ⟨Sf, y1, y2⟩ := ck_tail (F := F_X11_pagesOf G S2 (x + 1365) (xs (Int32.toNatClampNeg (x4 + (1 : Int32))))) ho w5 w2 w3 (fun z hz => e1_b) (j_pagesOf h vt w4)
  exact ⟨Sf, _, y1, y2⟩
theorem ck_11 (h : sh_G G x) (ho : pq_n G (x + 1376) = 1) (g1 : ¬ ((x4 + (1 : Int32)) < 0 ∨ L ≤ (Int32.toNatClampNeg (x4 + (1 : Int32))))) (g2 : ¬ ((x4 + (2 : Int32)) < 0 ∨ L ≤ (Int32.toNatClampNeg (x4 + (2 : Int32))))) (iv : inv x S W) : ∃ Sf W', F_L_c11 G S xs L x (x + 1365) (x + 1376) x4 = some Sf ∧ inv x Sf W' := by
  obtain ⟨T, n, H, g, N, len, c⟩ := W
  obtain ⟨r, v, d⟩ := iv
  have vt : vT T := v.1
  have r0 : rS S x 0 T := r.1
  have hcc := (cc_q v r (k_wordsOn h vt r0) : cc_ x S (F_X10_wordsOn G S x (xs (Int32.toNatClampNeg (x4 + (1 : Int32)))) (xs (Int32.toNatClampNeg (x4 + (2 : Int32))))) _ _)
  obtain ⟨k, S2, w1, w2, w3, w4, w5⟩ := w_gen (e := e_1) ho d hcc (fun z hz U => g_3 (th_on hz) U)
  have w1' : F_L_wordsOn G S x (xs (Int32.toNatClampNeg (x4 + (1 : Int32)))) (xs (Int32.toNatClampNeg (x4 + (2 : Int32)))) (x + 1376) = some (k, S2) := w1
  unfold F_L_c11
  rw [if_neg g1, if_neg g2, pq_bd1 w1', if_neg g1, if_neg g2]
  obtain ⟨Sf, y1, y2⟩ := ck_tail (F := F_X11_wordsOn G S2 (x + 1365) (xs (Int32.toNatClampNeg (x4 + (1 : Int32)))) (xs (Int32.toNatClampNeg (x4 + (2 : Int32))))) ho w5 w2 w3 (fun z hz => e1_b) (j_wordsOn h vt w4)
  exact ⟨Sf, _, y1, y2⟩
theorem ck_12 (h : sh_G G x) (ho : pq_n G (x + 1376) = 1) (g1 : ¬ ((x4 + (1 : Int32)) < 0 ∨ L ≤ (Int32.toNatClampNeg (x4 + (1 : Int32))))) (g2 : ¬ ((x4 + (2 : Int32)) < 0 ∨ L ≤ (Int32.toNatClampNeg (x4 + (2 : Int32))))) (g3 : ¬ ((x4 + (3 : Int32)) < 0 ∨ L ≤ (Int32.toNatClampNeg (x4 + (3 : Int32))))) (iv : inv x S W) : ∃ Sf W', F_L_c12 G S xs L x (x + 1365) (x + 1376) x4 = some Sf ∧ inv x Sf W' := by
  obtain ⟨T, n, H, g, N, len, c⟩ := W
  obtain ⟨r, v, d⟩ := iv
  have vt : vT T := v.1
  have r0 : rS S x 0 T := r.1
  have hcc := (cc_q v r (k_letterOf h vt r0) : cc_ x S (F_X10_letterOf G S x (xs (Int32.toNatClampNeg (x4 + (1 : Int32)))) (xs (Int32.toNatClampNeg (x4 + (2 : Int32)))) (xs (Int32.toNatClampNeg (x4 + (3 : Int32))))) _ _)
  obtain ⟨k, S2, w1, w2, w3, w4, w5⟩ := w_gen (e := e_1) ho d hcc (fun z hz U => g_3 (th_let hz) U)
  have w1' : F_L_letterOf G S x (xs (Int32.toNatClampNeg (x4 + (1 : Int32)))) (xs (Int32.toNatClampNeg (x4 + (2 : Int32)))) (xs (Int32.toNatClampNeg (x4 + (3 : Int32)))) (x + 1376) = some (k, S2) := w1
  unfold F_L_c12
  rw [if_neg g1, if_neg g2, if_neg g3, pq_bd1 w1', if_neg g1, if_neg g2, if_neg g3]
  obtain ⟨Sf, y1, y2⟩ := ck_tail (F := F_X11_letterOf G S2 (x + 1365) (xs (Int32.toNatClampNeg (x4 + (1 : Int32)))) (xs (Int32.toNatClampNeg (x4 + (2 : Int32)))) (xs (Int32.toNatClampNeg (x4 + (3 : Int32))))) ho w5 w2 w3 (fun z hz => e1_b) (j_letterOf h vt w4)
  exact ⟨Sf, _, y1, y2⟩
theorem ck_13 (h : sh_G G x) (ho : pq_n G (x + 1376) = 1) (g1 : ¬ ((x4 + (1 : Int32)) < 0 ∨ L ≤ (Int32.toNatClampNeg (x4 + (1 : Int32))))) (g2 : ¬ ((x4 + (2 : Int32)) < 0 ∨ L ≤ (Int32.toNatClampNeg (x4 + (2 : Int32))))) (g3 : ¬ ((x4 + (3 : Int32)) < 0 ∨ L ≤ (Int32.toNatClampNeg (x4 + (3 : Int32))))) (g4 : ¬ ((x4 + (4 : Int32)) < 0 ∨ L ≤ (Int32.toNatClampNeg (x4 + (4 : Int32))))) (iv : inv x S W) : ∃ Sf W', F_L_c13 G S xs L x (x + 1365) (x + 1376) x4 = some Sf ∧ inv x Sf W' := by
  obtain ⟨T, n, H, g, N, len, c⟩ := W
  obtain ⟨r, v, d⟩ := iv
  have vt : vT T := v.1
  have r0 : rS S x 0 T := r.1
  have hcc := (cc_q v r (k_isSameWord h vt r0) : cc_ x S (F_X10_isSameWord G S x (xs (Int32.toNatClampNeg (x4 + (1 : Int32)))) (xs (Int32.toNatClampNeg (x4 + (2 : Int32)))) (xs (Int32.toNatClampNeg (x4 + (3 : Int32)))) (xs (Int32.toNatClampNeg (x4 + (4 : Int32))))) _ _)
  obtain ⟨k, S2, w1, w2, w3, w4, w5⟩ := w_genB (e := e_1) ho d hcc (fun z hz U => g_3 (th_same hz) U)
  have w1' : F_L_isSameWord G S x (xs (Int32.toNatClampNeg (x4 + (1 : Int32)))) (xs (Int32.toNatClampNeg (x4 + (2 : Int32)))) (xs (Int32.toNatClampNeg (x4 + (3 : Int32)))) (xs (Int32.toNatClampNeg (x4 + (4 : Int32)))) (x + 1376) = some (k, S2) := w1
  unfold F_L_c13
  rw [if_neg g1, if_neg g2, if_neg g3, if_neg g4, pq_bd1 w1', if_neg g1, if_neg g2, if_neg g3, if_neg g4]
  obtain ⟨Sf, y1, y2⟩ := ck_tailB (F := F_X11_isSameWord G S2 (x + 1365) (xs (Int32.toNatClampNeg (x4 + (1 : Int32)))) (xs (Int32.toNatClampNeg (x4 + (2 : Int32)))) (xs (Int32.toNatClampNeg (x4 + (3 : Int32)))) (xs (Int32.toNatClampNeg (x4 + (4 : Int32))))) ho w5 w2 w3 (fun z hz => e1_b) (j_isSameWord h vt w4)
  exact ⟨Sf, _, y1, y2⟩
theorem ck_14 (h : sh_G G x) (ho : pq_n G (x + 1376) = 1)  (iv : inv x S W) : ∃ Sf W', F_L_c14 G S xs L x (x + 1365) (x + 1376) x4 = some Sf ∧ inv x Sf W' := by
  obtain ⟨T, n, H, g, N, len, c⟩ := W
  obtain ⟨r, v, d⟩ := iv
  have vt : vT T := v.1
  have r0 : rS S x 0 T := r.1
  unfold F_L_c14
  obtain ⟨au, pd, hc⟩ := k_whyNotPrinted h v r
  obtain ⟨Sf, y1, y2⟩ := ci_gen (W0 := (T, n, H, g, N, len, c)) (Fr := fun U => F_X11_whyNotPrinted G U (x + 1365)) d hc (fun S1 d1 => i_whyNotPrinted h v d1 au pd)
  exact ⟨Sf, _, y1, y2⟩
theorem ck_15 (h : sh_G G x) (ho : pq_n G (x + 1376) = 1) (g1 : ¬ ((x4 + (1 : Int32)) < 0 ∨ L ≤ (Int32.toNatClampNeg (x4 + (1 : Int32))))) (iv : inv x S W) : ∃ Sf W', F_L_c15 G S xs L x (x + 1365) (x + 1376) x4 = some Sf ∧ inv x Sf W' := by
  obtain ⟨T, n, H, g, N, len, c⟩ := W
  obtain ⟨r, v, d⟩ := iv
  have vt : vT T := v.1
  have r0 : rS S x 0 T := r.1
  have hcc := (cc_q v r (k_quotationsOf h vt r0) : cc_ x S (F_X10_quotationsOf G S x (xs (Int32.toNatClampNeg (x4 + (1 : Int32))))) _ _)
  obtain ⟨k, S2, w1, w2, w3, w4, w5⟩ := w_gen (e := e_1) ho d hcc (fun z hz U => g_3 (th_q1 hz) U)
  have w1' : F_L_quotationsOf G S x (xs (Int32.toNatClampNeg (x4 + (1 : Int32)))) (x + 1376) = some (k, S2) := w1
  unfold F_L_c15
  rw [if_neg g1, pq_bd1 w1', if_neg g1]
  obtain ⟨Sf, y1, y2⟩ := ck_tail (F := F_X11_quotationsOf G S2 (x + 1365) (xs (Int32.toNatClampNeg (x4 + (1 : Int32))))) ho w5 w2 w3 (fun z hz => e1_b) (j_quotationsOf h vt w4)
  exact ⟨Sf, _, y1, y2⟩
theorem ck_16 (h : sh_G G x) (ho : pq_n G (x + 1376) = 1) (g1 : ¬ ((x4 + (1 : Int32)) < 0 ∨ L ≤ (Int32.toNatClampNeg (x4 + (1 : Int32))))) (g2 : ¬ ((x4 + (2 : Int32)) < 0 ∨ L ≤ (Int32.toNatClampNeg (x4 + (2 : Int32))))) (iv : inv x S W) : ∃ Sf W', F_L_c16 G S xs L x (x + 1365) (x + 1376) x4 = some Sf ∧ inv x Sf W' := by
  obtain ⟨T, n, H, g, N, len, c⟩ := W
  obtain ⟨r, v, d⟩ := iv
  have vt : vT T := v.1
  have r0 : rS S x 0 T := r.1
  have hcc := (cc_q v r (k_sourceOf h vt r0) : cc_ x S (F_X10_sourceOf G S x (xs (Int32.toNatClampNeg (x4 + (1 : Int32)))) (xs (Int32.toNatClampNeg (x4 + (2 : Int32))))) _ _)
  obtain ⟨k, S2, w1, w2, w3, w4, w5⟩ := w_gen (e := e_1) ho d hcc (fun z hz U => g_3 (th_q2 hz) U)
  have w1' : F_L_sourceOf G S x (xs (Int32.toNatClampNeg (x4 + (1 : Int32)))) (xs (Int32.toNatClampNeg (x4 + (2 : Int32)))) (x + 1376) = some (k, S2) := w1
  unfold F_L_c16
  rw [if_neg g1, if_neg g2, pq_bd1 w1', if_neg g1, if_neg g2]
  obtain ⟨Sf, y1, y2⟩ := ck_tail (F := F_X11_sourceOf G S2 (x + 1365) (xs (Int32.toNatClampNeg (x4 + (1 : Int32)))) (xs (Int32.toNatClampNeg (x4 + (2 : Int32))))) ho w5 w2 w3 (fun z hz => e1_b) (j_sourceOf h vt w4)
  exact ⟨Sf, _, y1, y2⟩
theorem ck_17 (h : sh_G G x) (ho : pq_n G (x + 1376) = 1) (g1 : ¬ ((x4 + (1 : Int32)) < 0 ∨ L ≤ (Int32.toNatClampNeg (x4 + (1 : Int32))))) (g2 : ¬ ((x4 + (2 : Int32)) < 0 ∨ L ≤ (Int32.toNatClampNeg (x4 + (2 : Int32))))) (iv : inv x S W) : ∃ Sf W', F_L_c17 G S xs L x (x + 1365) (x + 1376) x4 = some Sf ∧ inv x Sf W' := by
  obtain ⟨T, n, H, g, N, len, c⟩ := W
  obtain ⟨r, v, d⟩ := iv
  have vt : vT T := v.1
  have r0 : rS S x 0 T := r.1
  have hcc := (cc_q v r (k_beginOf h vt r0) : cc_ x S (F_X10_beginOf G S x (xs (Int32.toNatClampNeg (x4 + (1 : Int32)))) (xs (Int32.toNatClampNeg (x4 + (2 : Int32))))) _ _)
  obtain ⟨k, S2, w1, w2, w3, w4, w5⟩ := w_gen (e := e_1) ho d hcc (fun z hz U => g_3 (th_q2 hz) U)
  have w1' : F_L_beginOf G S x (xs (Int32.toNatClampNeg (x4 + (1 : Int32)))) (xs (Int32.toNatClampNeg (x4 + (2 : Int32)))) (x + 1376) = some (k, S2) := w1
  unfold F_L_c17
  rw [if_neg g1, if_neg g2, pq_bd1 w1', if_neg g1, if_neg g2]
  obtain ⟨Sf, y1, y2⟩ := ck_tail (F := F_X11_beginOf G S2 (x + 1365) (xs (Int32.toNatClampNeg (x4 + (1 : Int32)))) (xs (Int32.toNatClampNeg (x4 + (2 : Int32))))) ho w5 w2 w3 (fun z hz => e1_b) (j_beginOf h vt w4)
  exact ⟨Sf, _, y1, y2⟩
theorem ck_18 (h : sh_G G x) (ho : pq_n G (x + 1376) = 1) (g1 : ¬ ((x4 + (1 : Int32)) < 0 ∨ L ≤ (Int32.toNatClampNeg (x4 + (1 : Int32))))) (g2 : ¬ ((x4 + (2 : Int32)) < 0 ∨ L ≤ (Int32.toNatClampNeg (x4 + (2 : Int32))))) (iv : inv x S W) : ∃ Sf W', F_L_c18 G S xs L x (x + 1365) (x + 1376) x4 = some Sf ∧ inv x Sf W' := by
  obtain ⟨T, n, H, g, N, len, c⟩ := W
  obtain ⟨r, v, d⟩ := iv
  have vt : vT T := v.1
  have r0 : rS S x 0 T := r.1
  have hcc := (cc_q v r (k_lengthOf h vt r0) : cc_ x S (F_X10_lengthOf G S x (xs (Int32.toNatClampNeg (x4 + (1 : Int32)))) (xs (Int32.toNatClampNeg (x4 + (2 : Int32))))) _ _)
  obtain ⟨k, S2, w1, w2, w3, w4, w5⟩ := w_gen (e := e_1) ho d hcc (fun z hz U => g_3 (th_q2 hz) U)
  have w1' : F_L_lengthOf G S x (xs (Int32.toNatClampNeg (x4 + (1 : Int32)))) (xs (Int32.toNatClampNeg (x4 + (2 : Int32)))) (x + 1376) = some (k, S2) := w1
  unfold F_L_c18
  rw [if_neg g1, if_neg g2, pq_bd1 w1', if_neg g1, if_neg g2]
  obtain ⟨Sf, y1, y2⟩ := ck_tail (F := F_X11_lengthOf G S2 (x + 1365) (xs (Int32.toNatClampNeg (x4 + (1 : Int32)))) (xs (Int32.toNatClampNeg (x4 + (2 : Int32))))) ho w5 w2 w3 (fun z hz => e1_b) (j_lengthOf h vt w4)
  exact ⟨Sf, _, y1, y2⟩
theorem ck_19 (h : sh_G G x) (ho : pq_n G (x + 1376) = 1) (g1 : ¬ ((x4 + (1 : Int32)) < 0 ∨ L ≤ (Int32.toNatClampNeg (x4 + (1 : Int32))))) (g2 : ¬ ((x4 + (2 : Int32)) < 0 ∨ L ≤ (Int32.toNatClampNeg (x4 + (2 : Int32))))) (iv : inv x S W) : ∃ Sf W', F_L_c19 G S xs L x (x + 1365) (x + 1376) x4 = some Sf ∧ inv x Sf W' := by
  obtain ⟨T, n, H, g, N, len, c⟩ := W
  obtain ⟨r, v, d⟩ := iv
  have vt : vT T := v.1
  have r0 : rS S x 0 T := r.1
  have hcc := (cc_q v r (k_changesByTable h vt r0) : cc_ x S (F_X10_changesByTable G S x (xs (Int32.toNatClampNeg (x4 + (1 : Int32)))) (xs (Int32.toNatClampNeg (x4 + (2 : Int32))))) _ _)
  obtain ⟨k, S2, w1, w2, w3, w4, w5⟩ := w_gen (e := e_1) ho d hcc (fun z hz U => g_3 (th_q2 hz) U)
  have w1' : F_L_changesByTable G S x (xs (Int32.toNatClampNeg (x4 + (1 : Int32)))) (xs (Int32.toNatClampNeg (x4 + (2 : Int32)))) (x + 1376) = some (k, S2) := w1
  unfold F_L_c19
  rw [if_neg g1, if_neg g2, pq_bd1 w1', if_neg g1, if_neg g2]
  obtain ⟨Sf, y1, y2⟩ := ck_tail (F := F_X11_changesByTable G S2 (x + 1365) (xs (Int32.toNatClampNeg (x4 + (1 : Int32)))) (xs (Int32.toNatClampNeg (x4 + (2 : Int32))))) ho w5 w2 w3 (fun z hz => e1_b) (j_changesByTable h vt w4)
  exact ⟨Sf, _, y1, y2⟩
theorem ck_20 (h : sh_G G x) (ho : pq_n G (x + 1376) = 1) (g1 : ¬ ((x4 + (1 : Int32)) < 0 ∨ L ≤ (Int32.toNatClampNeg (x4 + (1 : Int32))))) (g2 : ¬ ((x4 + (2 : Int32)) < 0 ∨ L ≤ (Int32.toNatClampNeg (x4 + (2 : Int32))))) (iv : inv x S W) : ∃ Sf W', F_L_c20 G S xs L x (x + 1365) (x + 1376) x4 = some Sf ∧ inv x Sf W' := by
  obtain ⟨T, n, H, g, N, len, c⟩ := W
  obtain ⟨r, v, d⟩ := iv
  have vt : vT T := v.1
  have r0 : rS S x 0 T := r.1
  have hcc := (cc_q v r (k_changesByPassages h vt r0) : cc_ x S (F_X10_changesByPassages G S x (xs (Int32.toNatClampNeg (x4 + (1 : Int32)))) (xs (Int32.toNatClampNeg (x4 + (2 : Int32))))) _ _)
  obtain ⟨k, S2, w1, w2, w3, w4, w5⟩ := w_gen (e := e_1) ho d hcc (fun z hz U => g_3 (th_q2 hz) U)
  have w1' : F_L_changesByPassages G S x (xs (Int32.toNatClampNeg (x4 + (1 : Int32)))) (xs (Int32.toNatClampNeg (x4 + (2 : Int32)))) (x + 1376) = some (k, S2) := w1
  unfold F_L_c20
  rw [if_neg g1, if_neg g2, pq_bd1 w1', if_neg g1, if_neg g2]
  obtain ⟨Sf, y1, y2⟩ := ck_tail (F := F_X11_changesByPassages G S2 (x + 1365) (xs (Int32.toNatClampNeg (x4 + (1 : Int32)))) (xs (Int32.toNatClampNeg (x4 + (2 : Int32))))) ho w5 w2 w3 (fun z hz => e1_b) (j_changesByPassages h vt w4)
  exact ⟨Sf, _, y1, y2⟩
theorem ck_21 (h : sh_G G x) (ho : pq_n G (x + 1376) = 1) (g1 : ¬ ((x4 + (1 : Int32)) < 0 ∨ L ≤ (Int32.toNatClampNeg (x4 + (1 : Int32))))) (g2 : ¬ ((x4 + (2 : Int32)) < 0 ∨ L ≤ (Int32.toNatClampNeg (x4 + (2 : Int32))))) (iv : inv x S W) : ∃ Sf W', F_L_c21 G S xs L x (x + 1365) (x + 1376) x4 = some Sf ∧ inv x Sf W' := by
  obtain ⟨T, n, H, g, N, len, c⟩ := W
  obtain ⟨r, v, d⟩ := iv
  have vt : vT T := v.1
  have r0 : rS S x 0 T := r.1
  have hcc := (cc_q v r (k_passageOf h vt r0) : cc_ x S (F_X10_passageOf G S x (xs (Int32.toNatClampNeg (x4 + (1 : Int32)))) (xs (Int32.toNatClampNeg (x4 + (2 : Int32))))) _ _)
  obtain ⟨k, S2, w1, w2, w3, w4, w5⟩ := w_gen (e := e_1) ho d hcc (fun z hz U => g_3 (th_q2 hz) U)
  have w1' : F_L_passageOf G S x (xs (Int32.toNatClampNeg (x4 + (1 : Int32)))) (xs (Int32.toNatClampNeg (x4 + (2 : Int32)))) (x + 1376) = some (k, S2) := w1
  unfold F_L_c21
  rw [if_neg g1, if_neg g2, pq_bd1 w1', if_neg g1, if_neg g2]
  obtain ⟨Sf, y1, y2⟩ := ck_tail (F := F_X11_passageOf G S2 (x + 1365) (xs (Int32.toNatClampNeg (x4 + (1 : Int32)))) (xs (Int32.toNatClampNeg (x4 + (2 : Int32))))) ho w5 w2 w3 (fun z hz => e1_b) (j_passageOf h vt w4)
  exact ⟨Sf, _, y1, y2⟩
theorem ck_22 (h : sh_G G x) (ho : pq_n G (x + 1376) = 1) (g1 : ¬ ((x4 + (1 : Int32)) < 0 ∨ L ≤ (Int32.toNatClampNeg (x4 + (1 : Int32))))) (g2 : ¬ ((x4 + (2 : Int32)) < 0 ∨ L ≤ (Int32.toNatClampNeg (x4 + (2 : Int32))))) (iv : inv x S W) : ∃ Sf W', F_L_c22 G S xs L x (x + 1365) (x + 1376) x4 = some Sf ∧ inv x Sf W' := by
  obtain ⟨T, n, H, g, N, len, c⟩ := W
  obtain ⟨r, v, d⟩ := iv
  have vt : vT T := v.1
  have r0 : rS S x 0 T := r.1
  have hcc := (cc_q v r (k_passageLength h vt r0) : cc_ x S (F_X10_passageLength G S x (xs (Int32.toNatClampNeg (x4 + (1 : Int32)))) (xs (Int32.toNatClampNeg (x4 + (2 : Int32))))) _ _)
  obtain ⟨k, S2, w1, w2, w3, w4, w5⟩ := w_gen (e := e_1) ho d hcc (fun z hz U => g_3 (th_q2 hz) U)
  have w1' : F_L_passageLength G S x (xs (Int32.toNatClampNeg (x4 + (1 : Int32)))) (xs (Int32.toNatClampNeg (x4 + (2 : Int32)))) (x + 1376) = some (k, S2) := w1
  unfold F_L_c22
  rw [if_neg g1, if_neg g2, pq_bd1 w1', if_neg g1, if_neg g2]
  obtain ⟨Sf, y1, y2⟩ := ck_tail (F := F_X11_passageLength G S2 (x + 1365) (xs (Int32.toNatClampNeg (x4 + (1 : Int32)))) (xs (Int32.toNatClampNeg (x4 + (2 : Int32))))) ho w5 w2 w3 (fun z hz => e1_b) (j_passageLength h vt w4)
  exact ⟨Sf, _, y1, y2⟩
theorem ck_23 (h : sh_G G x) (ho : pq_n G (x + 1376) = 1) (g1 : ¬ ((x4 + (1 : Int32)) < 0 ∨ L ≤ (Int32.toNatClampNeg (x4 + (1 : Int32))))) (g2 : ¬ ((x4 + (2 : Int32)) < 0 ∨ L ≤ (Int32.toNatClampNeg (x4 + (2 : Int32))))) (iv : inv x S W) : ∃ Sf W', F_L_c23 G S xs L x (x + 1365) (x + 1376) x4 = some Sf ∧ inv x Sf W' := by
  obtain ⟨T, n, H, g, N, len, c⟩ := W
  obtain ⟨r, v, d⟩ := iv
  have vt : vT T := v.1
  have r0 : rS S x 0 T := r.1
  have hcc := (cc_q v r (k_pageOf h vt r0) : cc_ x S (F_X10_pageOf G S x (xs (Int32.toNatClampNeg (x4 + (1 : Int32)))) (xs (Int32.toNatClampNeg (x4 + (2 : Int32))))) _ _)
  obtain ⟨k, S2, w1, w2, w3, w4, w5⟩ := w_gen (e := e_1) ho d hcc (fun z hz U => g_3 (th_q2 hz) U)
  have w1' : F_L_pageOf G S x (xs (Int32.toNatClampNeg (x4 + (1 : Int32)))) (xs (Int32.toNatClampNeg (x4 + (2 : Int32)))) (x + 1376) = some (k, S2) := w1
  unfold F_L_c23
  rw [if_neg g1, if_neg g2, pq_bd1 w1', if_neg g1, if_neg g2]
  obtain ⟨Sf, y1, y2⟩ := ck_tail (F := F_X11_pageOf G S2 (x + 1365) (xs (Int32.toNatClampNeg (x4 + (1 : Int32)))) (xs (Int32.toNatClampNeg (x4 + (2 : Int32))))) ho w5 w2 w3 (fun z hz => e1_b) (j_pageOf h vt w4)
  exact ⟨Sf, _, y1, y2⟩
theorem ck_24 (h : sh_G G x) (ho : pq_n G (x + 1376) = 1) (g1 : ¬ ((x4 + (1 : Int32)) < 0 ∨ L ≤ (Int32.toNatClampNeg (x4 + (1 : Int32))))) (g2 : ¬ ((x4 + (2 : Int32)) < 0 ∨ L ≤ (Int32.toNatClampNeg (x4 + (2 : Int32))))) (iv : inv x S W) : ∃ Sf W', F_L_c24 G S xs L x (x + 1365) (x + 1376) x4 = some Sf ∧ inv x Sf W' := by
  obtain ⟨T, n, H, g, N, len, c⟩ := W
  obtain ⟨r, v, d⟩ := iv
  have vt : vT T := v.1
  have r0 : rS S x 0 T := r.1
  have hcc := (cc_q v r (k_comesFrom h vt r0) : cc_ x S (F_X10_comesFrom G S x (xs (Int32.toNatClampNeg (x4 + (1 : Int32)))) (xs (Int32.toNatClampNeg (x4 + (2 : Int32))))) _ _)
  obtain ⟨k, S2, w1, w2, w3, w4, w5⟩ := w_gen (e := e_1) ho d hcc (fun z hz U => g_3 (th_q2 hz) U)
  have w1' : F_L_comesFrom G S x (xs (Int32.toNatClampNeg (x4 + (1 : Int32)))) (xs (Int32.toNatClampNeg (x4 + (2 : Int32)))) (x + 1376) = some (k, S2) := w1
  unfold F_L_c24
  rw [if_neg g1, if_neg g2, pq_bd1 w1', if_neg g1, if_neg g2]
  obtain ⟨Sf, y1, y2⟩ := ck_tail (F := F_X11_comesFrom G S2 (x + 1365) (xs (Int32.toNatClampNeg (x4 + (1 : Int32)))) (xs (Int32.toNatClampNeg (x4 + (2 : Int32))))) ho w5 w2 w3 (fun z hz => e1_b) (j_comesFrom h vt w4)
  exact ⟨Sf, _, y1, y2⟩
theorem ck_25 (h : sh_G G x) (ho : pq_n G (x + 1376) = 1) (g1 : ¬ ((x4 + (1 : Int32)) < 0 ∨ L ≤ (Int32.toNatClampNeg (x4 + (1 : Int32))))) (g2 : ¬ ((x4 + (2 : Int32)) < 0 ∨ L ≤ (Int32.toNatClampNeg (x4 + (2 : Int32))))) (iv : inv x S W) : ∃ Sf W', F_L_c25 G S xs L x (x + 1365) (x + 1376) x4 = some Sf ∧ inv x Sf W' := by
  obtain ⟨T, n, H, g, N, len, c⟩ := W
  obtain ⟨r, v, d⟩ := iv
  have vt : vT T := v.1
  have r0 : rS S x 0 T := r.1
  have hcc := (cc_q v r (k_originOf h vt r0) : cc_ x S (F_X10_originOf G S x (xs (Int32.toNatClampNeg (x4 + (1 : Int32)))) (xs (Int32.toNatClampNeg (x4 + (2 : Int32))))) _ _)
  obtain ⟨k, S2, w1, w2, w3, w4, w5⟩ := w_gen (e := e_1) ho d hcc (fun z hz U => g_3 (th_q2 hz) U)
  have w1' : F_L_originOf G S x (xs (Int32.toNatClampNeg (x4 + (1 : Int32)))) (xs (Int32.toNatClampNeg (x4 + (2 : Int32)))) (x + 1376) = some (k, S2) := w1
  unfold F_L_c25
  rw [if_neg g1, if_neg g2, pq_bd1 w1', if_neg g1, if_neg g2]
  obtain ⟨Sf, y1, y2⟩ := ck_tail (F := F_X11_originOf G S2 (x + 1365) (xs (Int32.toNatClampNeg (x4 + (1 : Int32)))) (xs (Int32.toNatClampNeg (x4 + (2 : Int32))))) ho w5 w2 w3 (fun z hz => e1_b) (j_originOf h vt w4)
  exact ⟨Sf, _, y1, y2⟩
theorem ck_26 (h : sh_G G x) (ho : pq_n G (x + 1376) = 1) (g1 : ¬ ((x4 + (1 : Int32)) < 0 ∨ L ≤ (Int32.toNatClampNeg (x4 + (1 : Int32))))) (g2 : ¬ ((x4 + (2 : Int32)) < 0 ∨ L ≤ (Int32.toNatClampNeg (x4 + (2 : Int32))))) (iv : inv x S W) : ∃ Sf W', F_L_c26 G S xs L x (x + 1365) (x + 1376) x4 = some Sf ∧ inv x Sf W' := by
  obtain ⟨T, n, H, g, N, len, c⟩ := W
  obtain ⟨r, v, d⟩ := iv
  have vt : vT T := v.1
  have r0 : rS S x 0 T := r.1
  have hcc := (cc_q v r (k_traceOf h vt r0) : cc_ x S (F_X10_traceOf G S x (xs (Int32.toNatClampNeg (x4 + (1 : Int32)))) (xs (Int32.toNatClampNeg (x4 + (2 : Int32))))) _ _)
  obtain ⟨k, S2, w1, w2, w3, w4, w5⟩ := w_gen (e := e_1) ho d hcc (fun z hz U => g_3 (th_q2 hz) U)
  have w1' : F_L_traceOf G S x (xs (Int32.toNatClampNeg (x4 + (1 : Int32)))) (xs (Int32.toNatClampNeg (x4 + (2 : Int32)))) (x + 1376) = some (k, S2) := w1
  unfold F_L_c26
  rw [if_neg g1, if_neg g2, pq_bd1 w1', if_neg g1, if_neg g2]
  obtain ⟨Sf, y1, y2⟩ := ck_tail (F := F_X11_traceOf G S2 (x + 1365) (xs (Int32.toNatClampNeg (x4 + (1 : Int32)))) (xs (Int32.toNatClampNeg (x4 + (2 : Int32))))) ho w5 w2 w3 (fun z hz => e1_b) (j_traceOf h vt w4)
  exact ⟨Sf, _, y1, y2⟩
theorem ck_27 (h : sh_G G x) (ho : pq_n G (x + 1376) = 1) (g1 : ¬ ((x4 + (1 : Int32)) < 0 ∨ L ≤ (Int32.toNatClampNeg (x4 + (1 : Int32))))) (g2 : ¬ ((x4 + (2 : Int32)) < 0 ∨ L ≤ (Int32.toNatClampNeg (x4 + (2 : Int32))))) (iv : inv x S W) : ∃ Sf W', F_L_c27 G S xs L x (x + 1365) (x + 1376) x4 = some Sf ∧ inv x Sf W' := by
  obtain ⟨T, n, H, g, N, len, c⟩ := W
  obtain ⟨r, v, d⟩ := iv
  have vt : vT T := v.1
  have r0 : rS S x 0 T := r.1
  have hcc := (cc_q v r (k_changesAtOrigin h vt r0) : cc_ x S (F_X10_changesAtOrigin G S x (xs (Int32.toNatClampNeg (x4 + (1 : Int32)))) (xs (Int32.toNatClampNeg (x4 + (2 : Int32))))) _ _)
  obtain ⟨k, S2, w1, w2, w3, w4, w5⟩ := w_gen (e := e_1) ho d hcc (fun z hz U => g_3 (th_q2 hz) U)
  have w1' : F_L_changesAtOrigin G S x (xs (Int32.toNatClampNeg (x4 + (1 : Int32)))) (xs (Int32.toNatClampNeg (x4 + (2 : Int32)))) (x + 1376) = some (k, S2) := w1
  unfold F_L_c27
  rw [if_neg g1, if_neg g2, pq_bd1 w1', if_neg g1, if_neg g2]
  obtain ⟨Sf, y1, y2⟩ := ck_tail (F := F_X11_changesAtOrigin G S2 (x + 1365) (xs (Int32.toNatClampNeg (x4 + (1 : Int32)))) (xs (Int32.toNatClampNeg (x4 + (2 : Int32))))) ho w5 w2 w3 (fun z hz => e1_b) (j_changesAtOrigin h vt w4)
  exact ⟨Sf, _, y1, y2⟩
theorem ck_28 (h : sh_G G x) (ho : pq_n G (x + 1376) = 1) (g1 : ¬ ((x4 + (1 : Int32)) < 0 ∨ L ≤ (Int32.toNatClampNeg (x4 + (1 : Int32))))) (g2 : ¬ ((x4 + (2 : Int32)) < 0 ∨ L ≤ (Int32.toNatClampNeg (x4 + (2 : Int32))))) (iv : inv x S W) : ∃ Sf W', F_L_c28 G S xs L x (x + 1365) (x + 1376) x4 = some Sf ∧ inv x Sf W' := by
  obtain ⟨T, n, H, g, N, len, c⟩ := W
  obtain ⟨r, v, d⟩ := iv
  have vt : vT T := v.1
  have r0 : rS S x 0 T := r.1
  have hcc := (cc_q v r (k_quotedAgain h vt r0) : cc_ x S (F_X10_quotedAgain G S x (xs (Int32.toNatClampNeg (x4 + (1 : Int32)))) (xs (Int32.toNatClampNeg (x4 + (2 : Int32))))) _ _)
  obtain ⟨k, S2, w1, w2, w3, w4, w5⟩ := w_gen (e := e_1) ho d hcc (fun z hz U => g_3 (th_q2 hz) U)
  have w1' : F_L_quotedAgain G S x (xs (Int32.toNatClampNeg (x4 + (1 : Int32)))) (xs (Int32.toNatClampNeg (x4 + (2 : Int32)))) (x + 1376) = some (k, S2) := w1
  unfold F_L_c28
  rw [if_neg g1, if_neg g2, pq_bd1 w1', if_neg g1, if_neg g2]
  obtain ⟨Sf, y1, y2⟩ := ck_tail (F := F_X11_quotedAgain G S2 (x + 1365) (xs (Int32.toNatClampNeg (x4 + (1 : Int32)))) (xs (Int32.toNatClampNeg (x4 + (2 : Int32))))) ho w5 w2 w3 (fun z hz => e1_b) (j_quotedAgain h vt w4)
  exact ⟨Sf, _, y1, y2⟩
theorem ck_29 (h : sh_G G x) (ho : pq_n G (x + 1376) = 1) (g1 : ¬ ((x4 + (1 : Int32)) < 0 ∨ L ≤ (Int32.toNatClampNeg (x4 + (1 : Int32))))) (iv : inv x S W) : ∃ Sf W', F_L_c29 G S xs L x (x + 1365) (x + 1376) x4 = some Sf ∧ inv x Sf W' := by
  obtain ⟨T, n, H, g, N, len, c⟩ := W
  obtain ⟨r, v, d⟩ := iv
  have vt : vT T := v.1
  have r0 : rS S x 0 T := r.1
  have hcc := (cc_q v r (k_blameOf h vt r0) : cc_ x S (F_X10_blameOf G S x (xs (Int32.toNatClampNeg (x4 + (1 : Int32))))) _ _)
  obtain ⟨k, S2, w1, w2, w3, w4, w5⟩ := w_gen (e := e_1) ho d hcc (fun z hz U => g_3 (th_bl hz) U)
  have w1' : F_L_blameOf G S x (xs (Int32.toNatClampNeg (x4 + (1 : Int32)))) (x + 1376) = some (k, S2) := w1
  unfold F_L_c29
  rw [if_neg g1, pq_bd1 w1', if_neg g1]
  obtain ⟨Sf, y1, y2⟩ := ck_tail (F := F_X11_blameOf G S2 (x + 1365) (xs (Int32.toNatClampNeg (x4 + (1 : Int32))))) ho w5 w2 w3 (fun z hz => e1_b) (j_blameOf h vt w4)
  exact ⟨Sf, _, y1, y2⟩
theorem ck_30 (h : sh_G G x) (ho : pq_n G (x + 1376) = 1) (g1 : ¬ ((x4 + (1 : Int32)) < 0 ∨ L ≤ (Int32.toNatClampNeg (x4 + (1 : Int32))))) (g2 : ¬ ((x4 + (2 : Int32)) < 0 ∨ L ≤ (Int32.toNatClampNeg (x4 + (2 : Int32))))) (iv : inv x S W) : ∃ Sf W', F_L_c30 G S xs L x (x + 1365) (x + 1376) x4 = some Sf ∧ inv x Sf W' := by
  obtain ⟨T, n, H, g, N, len, c⟩ := W
  obtain ⟨r, v, d⟩ := iv
  have vt : vT T := v.1
  have r0 : rS S x 0 T := r.1
  have hcc := (cc_q v r (k_wrongs h vt r0) : cc_ x S (F_X10_wrongs G S x (xs (Int32.toNatClampNeg (x4 + (1 : Int32)))) (xs (Int32.toNatClampNeg (x4 + (2 : Int32))))) _ _)
  obtain ⟨k, S2, w1, w2, w3, w4, w5⟩ := w_gen (e := e_1) ho d hcc (fun z hz U => g_3 (th_wr hz) U)
  have w1' : F_L_wrongs G S x (xs (Int32.toNatClampNeg (x4 + (1 : Int32)))) (xs (Int32.toNatClampNeg (x4 + (2 : Int32)))) (x + 1376) = some (k, S2) := w1
  unfold F_L_c30
  rw [if_neg g1, if_neg g2, pq_bd1 w1', if_neg g1, if_neg g2]
  obtain ⟨Sf, y1, y2⟩ := ck_tail (F := F_X11_wrongs G S2 (x + 1365) (xs (Int32.toNatClampNeg (x4 + (1 : Int32)))) (xs (Int32.toNatClampNeg (x4 + (2 : Int32))))) ho w5 w2 w3 (fun z hz => e1_b) (j_wrongs h vt w4)
  exact ⟨Sf, _, y1, y2⟩
theorem ck_31 (h : sh_G G x) (ho : pq_n G (x + 1376) = 1)  (iv : inv x S W) : ∃ Sf W', F_L_c31 G S xs L x (x + 1365) (x + 1376) x4 = some Sf ∧ inv x Sf W' := by
  obtain ⟨T, n, H, g, N, len, c⟩ := W
  obtain ⟨r, v, d⟩ := iv
  have vt : vT T := v.1
  have r0 : rS S x 0 T := r.1
  unfold F_L_c31
  obtain ⟨Sf, y1, y2⟩ := ci_gen (W0 := (T, n, H, g, N, len, c)) (Fr := fun U => F_X11_blameByAuthors G U (x + 1365)) d (k_blameByAuthors h v r) (fun S1 d1 => i_blameByAuthors h vt d1)
  exact ⟨Sf, _, y1, y2⟩
theorem ck_32 (h : sh_G G x) (ho : pq_n G (x + 1376) = 1)  (iv : inv x S W) : ∃ Sf W', F_L_c32 G S xs L x (x + 1365) (x + 1376) x4 = some Sf ∧ inv x Sf W' := by
  obtain ⟨T, n, H, g, N, len, c⟩ := W
  obtain ⟨r, v, d⟩ := iv
  have vt : vT T := v.1
  have r0 : rS S x 0 T := r.1
  unfold F_L_c32
  obtain ⟨Sf, y1, y2⟩ := ci_gen (W0 := (T, n, H, g, N, len, c)) (Fr := fun U => F_X11_blameBySources G U (x + 1365)) d (k_blameBySources h v r) (fun S1 d1 => i_blameBySources h vt d1)
  exact ⟨Sf, _, y1, y2⟩
theorem ck_33 (h : sh_G G x) (ho : pq_n G (x + 1376) = 1)  (iv : inv x S W) : ∃ Sf W', F_L_c33 G S xs L x (x + 1365) (x + 1376) x4 = some Sf ∧ inv x Sf W' := by
  obtain ⟨T, n, H, g, N, len, c⟩ := W
  obtain ⟨r, v, d⟩ := iv
  have vt : vT T := v.1
  have r0 : rS S x 0 T := r.1
  obtain ⟨S1, h1, h2, h3, h4⟩ := k_faithfulShare h v r
  obtain ⟨Sf, m1, m2, m3⟩ := i_faithfulShare h vt (rD_fr (Or.inl (Nat.le_refl _)) h2 d)
  refine ⟨Sf, _, ?_, inv_of h3 h4 m2 m3⟩
  unfold F_L_c33
  rw [pq_bd1 h1, pq_bd1 m1, if_pos (zsh_c vt)]
theorem ck_34 (h : sh_G G x) (ho : pq_n G (x + 1376) = 1) (g1 : ¬ ((x4 + (1 : Int32)) < 0 ∨ L ≤ (Int32.toNatClampNeg (x4 + (1 : Int32))))) (g2 : ¬ ((x4 + (2 : Int32)) < 0 ∨ L ≤ (Int32.toNatClampNeg (x4 + (2 : Int32))))) (iv : inv x S W) : ∃ Sf W', F_L_c34 G S xs L x (x + 1365) (x + 1376) x4 = some Sf ∧ inv x Sf W' := by
  obtain ⟨T, n, H, g, N, len, c⟩ := W
  obtain ⟨r, v, d⟩ := iv
  have vt : vT T := v.1
  have r0 : rS S x 0 T := r.1
  have hcc := (cc_q v r (k_answers h vt r0) : cc_ x S (F_X10_answers G S x (xs (Int32.toNatClampNeg (x4 + (1 : Int32)))) (xs (Int32.toNatClampNeg (x4 + (2 : Int32))))) _ _)
  obtain ⟨k, S2, w1, w2, w3, w4, w5⟩ := w_genB (e := e_1) ho d hcc (fun z hz U => g_3 (th_ans hz) U)
  have w1' : F_L_answers G S x (xs (Int32.toNatClampNeg (x4 + (1 : Int32)))) (xs (Int32.toNatClampNeg (x4 + (2 : Int32)))) (x + 1376) = some (k, S2) := w1
  unfold F_L_c34
  rw [if_neg g1, if_neg g2, pq_bd1 w1', if_neg g1, if_neg g2]
  obtain ⟨Sf, y1, y2⟩ := ck_tailB (F := F_X11_answers G S2 (x + 1365) (xs (Int32.toNatClampNeg (x4 + (1 : Int32)))) (xs (Int32.toNatClampNeg (x4 + (2 : Int32))))) ho w5 w2 w3 (fun z hz => e1_b) (j_answers h vt w4)
  exact ⟨Sf, _, y1, y2⟩
theorem ck_35 (h : sh_G G x) (ho : pq_n G (x + 1376) = 1) (g1 : ¬ ((x4 + (1 : Int32)) < 0 ∨ L ≤ (Int32.toNatClampNeg (x4 + (1 : Int32))))) (iv : inv x S W) : ∃ Sf W', F_L_c35 G S xs L x (x + 1365) (x + 1376) x4 = some Sf ∧ inv x Sf W' := by
  obtain ⟨T, n, H, g, N, len, c⟩ := W
  obtain ⟨r, v, d⟩ := iv
  have vt : vT T := v.1
  have r0 : rS S x 0 T := r.1
  have hcc := (cc_q v r (k_ladderOf h vt r0) : cc_ x S (F_X10_ladderOf G S x (xs (Int32.toNatClampNeg (x4 + (1 : Int32))))) _ _)
  obtain ⟨k, S2, w1, w2, w3, w4, w5⟩ := w_gen (e := e_1) ho d hcc (fun z hz U => g_3 (th_q1 hz) U)
  have w1' : F_L_ladderOf G S x (xs (Int32.toNatClampNeg (x4 + (1 : Int32)))) (x + 1376) = some (k, S2) := w1
  unfold F_L_c35
  rw [if_neg g1, pq_bd1 w1', if_neg g1]
  obtain ⟨Sf, y1, y2⟩ := ck_tail (F := F_X11_ladderOf G S2 (x + 1365) (xs (Int32.toNatClampNeg (x4 + (1 : Int32))))) ho w5 w2 w3 (fun z hz => e1_b) (j_ladderOf h vt w4)
  exact ⟨Sf, _, y1, y2⟩
theorem ck_36 (h : sh_G G x) (ho : pq_n G (x + 1376) = 1) (g1 : ¬ ((x4 + (1 : Int32)) < 0 ∨ L ≤ (Int32.toNatClampNeg (x4 + (1 : Int32))))) (iv : inv x S W) : ∃ Sf W', F_L_c36 G S xs L x (x + 1365) (x + 1376) x4 = some Sf ∧ inv x Sf W' := by
  obtain ⟨T, n, H, g, N, len, c⟩ := W
  obtain ⟨r, v, d⟩ := iv
  have vt : vT T := v.1
  have r0 : rS S x 0 T := r.1
  have hcc := (cc_q v r (k_laddersOf h vt r0) : cc_ x S (F_X10_laddersOf G S x (xs (Int32.toNatClampNeg (x4 + (1 : Int32))))) _ _)
  obtain ⟨k, S2, w1, w2, w3, w4, w5⟩ := w_gen (e := e_1) ho d hcc (fun z hz U => g_3 (th_q1 hz) U)
  have w1' : F_L_laddersOf G S x (xs (Int32.toNatClampNeg (x4 + (1 : Int32)))) (x + 1376) = some (k, S2) := w1
  unfold F_L_c36
  rw [if_neg g1, pq_bd1 w1', if_neg g1]
  obtain ⟨Sf, y1, y2⟩ := ck_tail (F := F_X11_laddersOf G S2 (x + 1365) (xs (Int32.toNatClampNeg (x4 + (1 : Int32))))) ho w5 w2 w3 (fun z hz => e1_b) (j_laddersOf h vt w4)
  exact ⟨Sf, _, y1, y2⟩
theorem ck_37 (h : sh_G G x) (ho : pq_n G (x + 1376) = 1) (g1 : ¬ ((x4 + (1 : Int32)) < 0 ∨ L ≤ (Int32.toNatClampNeg (x4 + (1 : Int32))))) (iv : inv x S W) : ∃ Sf W', F_L_c37 G S xs L x (x + 1365) (x + 1376) x4 = some Sf ∧ inv x Sf W' := by
  obtain ⟨T, n, H, g, N, len, c⟩ := W
  obtain ⟨r, v, d⟩ := iv
  have vt : vT T := v.1
  have r0 : rS S x 0 T := r.1
  have hcc := (cc_q v r (k_readingOf h vt r0) : cc_ x S (F_X10_readingOf G S x (xs (Int32.toNatClampNeg (x4 + (1 : Int32))))) _ _)
  obtain ⟨k, S2, w1, w2, w3, w4, w5⟩ := w_gen (e := e_1) ho d hcc (fun z hz U => g_3 (th_q1 hz) U)
  have w1' : F_L_readingOf G S x (xs (Int32.toNatClampNeg (x4 + (1 : Int32)))) (x + 1376) = some (k, S2) := w1
  unfold F_L_c37
  rw [if_neg g1, pq_bd1 w1', if_neg g1]
  obtain ⟨Sf, y1, y2⟩ := ck_tail (F := F_X11_readingOf G S2 (x + 1365) (xs (Int32.toNatClampNeg (x4 + (1 : Int32))))) ho w5 w2 w3 (fun z hz => e1_b) (j_readingOf h vt w4)
  exact ⟨Sf, _, y1, y2⟩
theorem ck_38 (h : sh_G G x) (ho : pq_n G (x + 1376) = 1) (g1 : ¬ ((x4 + (1 : Int32)) < 0 ∨ L ≤ (Int32.toNatClampNeg (x4 + (1 : Int32))))) (g2 : ¬ ((x4 + (2 : Int32)) < 0 ∨ L ≤ (Int32.toNatClampNeg (x4 + (2 : Int32))))) (iv : inv x S W) : ∃ Sf W', F_L_c38 G S xs L x (x + 1365) (x + 1376) x4 = some Sf ∧ inv x Sf W' := by
  obtain ⟨T, n, H, g, N, len, c⟩ := W
  obtain ⟨r, v, d⟩ := iv
  have vt : vT T := v.1
  have r0 : rS S x 0 T := r.1
  have hcc := (cc_q v r (k_readAt h vt r0) : cc_ x S (F_X10_readAt G S x (xs (Int32.toNatClampNeg (x4 + (1 : Int32)))) (xs (Int32.toNatClampNeg (x4 + (2 : Int32))))) _ _)
  obtain ⟨k, S2, w1, w2, w3, w4, w5⟩ := w_gen (e := e_1) ho d hcc (fun z hz U => g_3 (th_rd hz) U)
  have w1' : F_L_readAt G S x (xs (Int32.toNatClampNeg (x4 + (1 : Int32)))) (xs (Int32.toNatClampNeg (x4 + (2 : Int32)))) (x + 1376) = some (k, S2) := w1
  unfold F_L_c38
  rw [if_neg g1, if_neg g2, pq_bd1 w1', if_neg g1, if_neg g2]
  obtain ⟨Sf, y1, y2⟩ := ck_tail (F := F_X11_readAt G S2 (x + 1365) (xs (Int32.toNatClampNeg (x4 + (1 : Int32)))) (xs (Int32.toNatClampNeg (x4 + (2 : Int32))))) ho w5 w2 w3 (fun z hz => e1_b) (j_readAt h vt w4)
  exact ⟨Sf, _, y1, y2⟩
theorem ck_39 (h : sh_G G x) (ho : pq_n G (x + 1376) = 1)  (iv : inv x S W) : ∃ Sf W', F_L_c39 G S xs L x (x + 1365) (x + 1376) x4 = some Sf ∧ inv x Sf W' := by
  obtain ⟨T, n, H, g, N, len, c⟩ := W
  obtain ⟨r, v, d⟩ := iv
  have vt : vT T := v.1
  have r0 : rS S x 0 T := r.1
  unfold F_L_c39
  obtain ⟨Sf, y1, y2⟩ := ci_gen (W0 := (T, n, H, g, N, len, c)) (Fr := fun U => F_X11_glossary G U (x + 1365)) d (k_glossary h v r) (fun S1 d1 => i_glossary h vt d1)
  exact ⟨Sf, _, y1, y2⟩
theorem ck_40 (h : sh_G G x) (ho : pq_n G (x + 1376) = 1) (g1 : ¬ ((x4 + (1 : Int32)) < 0 ∨ L ≤ (Int32.toNatClampNeg (x4 + (1 : Int32))))) (iv : inv x S W) : ∃ Sf W', F_L_c40 G S xs L x (x + 1365) (x + 1376) x4 = some Sf ∧ inv x Sf W' := by
  obtain ⟨T, n, H, g, N, len, c⟩ := W
  obtain ⟨r, v, d⟩ := iv
  have vt : vT T := v.1
  have r0 : rS S x 0 T := r.1
  have hcc := (cc_q v r (k_timesOf h vt r0) : cc_ x S (F_X10_timesOf G S x (xs (Int32.toNatClampNeg (x4 + (1 : Int32))))) _ _)
  obtain ⟨k, S2, w1, w2, w3, w4, w5⟩ := w_gen (e := e_1) ho d hcc (fun z hz U => g_3 (th_tm hz) U)
  have w1' : F_L_timesOf G S x (xs (Int32.toNatClampNeg (x4 + (1 : Int32)))) (x + 1376) = some (k, S2) := w1
  unfold F_L_c40
  rw [if_neg g1, pq_bd1 w1', if_neg g1]
  obtain ⟨Sf, y1, y2⟩ := ck_tail (F := F_X11_timesOf G S2 (x + 1365) (xs (Int32.toNatClampNeg (x4 + (1 : Int32))))) ho w5 w2 w3 (fun z hz => e1_b) (j_timesOf h vt w4)
  exact ⟨Sf, _, y1, y2⟩
theorem ck_41 (h : sh_G G x) (ho : pq_n G (x + 1376) = 1) (g1 : ¬ ((x4 + (1 : Int32)) < 0 ∨ L ≤ (Int32.toNatClampNeg (x4 + (1 : Int32))))) (g2 : ¬ ((x4 + (2 : Int32)) < 0 ∨ L ≤ (Int32.toNatClampNeg (x4 + (2 : Int32))))) (iv : inv x S W) : ∃ Sf W', F_L_c41 G S xs L x (x + 1365) (x + 1376) x4 = some Sf ∧ inv x Sf W' := by
  obtain ⟨T, n, H, g, N, len, c⟩ := W
  obtain ⟨r, v, d⟩ := iv
  have vt : vT T := v.1
  have r0 : rS S x 0 T := r.1
  have hcc := (cc_q v r (k_glossaryLetter h vt r0) : cc_ x S (F_X10_glossaryLetter G S x (xs (Int32.toNatClampNeg (x4 + (1 : Int32)))) (xs (Int32.toNatClampNeg (x4 + (2 : Int32))))) _ _)
  obtain ⟨k, S2, w1, w2, w3, w4, w5⟩ := w_gen (e := e_1) ho d hcc (fun z hz U => g_3 (th_gl hz) U)
  have w1' : F_L_glossaryLetter G S x (xs (Int32.toNatClampNeg (x4 + (1 : Int32)))) (xs (Int32.toNatClampNeg (x4 + (2 : Int32)))) (x + 1376) = some (k, S2) := w1
  unfold F_L_c41
  rw [if_neg g1, if_neg g2, pq_bd1 w1', if_neg g1, if_neg g2]
  obtain ⟨Sf, y1, y2⟩ := ck_tail (F := F_X11_glossaryLetter G S2 (x + 1365) (xs (Int32.toNatClampNeg (x4 + (1 : Int32)))) (xs (Int32.toNatClampNeg (x4 + (2 : Int32))))) ho w5 w2 w3 (fun z hz => e1_b) (j_glossaryLetter h vt w4)
  exact ⟨Sf, _, y1, y2⟩
theorem ck_42 (h : sh_G G x) (ho : pq_n G (x + 1376) = 1) (g1 : ¬ ((x4 + (1 : Int32)) < 0 ∨ L ≤ (Int32.toNatClampNeg (x4 + (1 : Int32))))) (iv : inv x S W) : ∃ Sf W', F_L_c42 G S xs L x (x + 1365) (x + 1376) x4 = some Sf ∧ inv x Sf W' := by
  obtain ⟨T, n, H, g, N, len, c⟩ := W
  obtain ⟨r, v, d⟩ := iv
  have vt : vT T := v.1
  have r0 : rS S x 0 T := r.1
  have hcc := (k_append h v r : cc_ x S (F_X10_append G S x (xs (Int32.toNatClampNeg (x4 + (1 : Int32))))) _ _)
  obtain ⟨k, S2, w1, w2, w3, w4, w5⟩ := w_gen (e := e_3) ho d hcc (fun z hz U => g_12 (th_app hz) U)
  have w1' : F_L_append G S x (xs (Int32.toNatClampNeg (x4 + (1 : Int32)))) (x + 1376) = some (k, S2) := w1
  unfold F_L_c42
  rw [if_neg g1, pq_bd1 w1', if_neg g1]
  obtain ⟨Sf, y1, y2⟩ := ck_tail (F := F_X11_append G S2 (x + 1365) (xs (Int32.toNatClampNeg (x4 + (1 : Int32))))) ho w5 w2 w3 (fun z hz => e3_b (by have := th_app hz; omega)) (j_append h v w4)
  exact ⟨Sf, _, y1, y2⟩
theorem ck_43 (h : sh_G G x) (ho : pq_n G (x + 1376) = 1)  (iv : inv x S W) : ∃ Sf W', F_L_c43 G S xs L x (x + 1365) (x + 1376) x4 = some Sf ∧ inv x Sf W' := by
  obtain ⟨T, n, H, g, N, len, c⟩ := W
  obtain ⟨r, v, d⟩ := iv
  have vt : vT T := v.1
  have r0 : rS S x 0 T := r.1
  unfold F_L_c43
  obtain ⟨Sf, y1, y2⟩ := ci_gen (W0 := (T, n, H, g, N, len, c)) (Fr := fun U => F_X11_clearText G U (x + 1365)) d (k_clearText h v r) (fun S1 d1 => i_clearText d1)
  exact ⟨Sf, _, y1, y2⟩
theorem ck_44 (h : sh_G G x) (ho : pq_n G (x + 1376) = 1)  (iv : inv x S W) : ∃ Sf W', F_L_c44 G S xs L x (x + 1365) (x + 1376) x4 = some Sf ∧ inv x Sf W' := by
  obtain ⟨T, n, H, g, N, len, c⟩ := W
  obtain ⟨r, v, d⟩ := iv
  have vt : vT T := v.1
  have r0 : rS S x 0 T := r.1
  unfold F_L_c44
  obtain ⟨au, pd, hc⟩ := k_errorPosition h v r
  obtain ⟨Sf, y1, y2⟩ := ci_gen (W0 := (T, n, H, g, N, len, c)) (Fr := fun U => F_X11_errorPosition G U (x + 1365)) d hc (fun S1 d1 => i_errorPosition h v d1 au pd)
  exact ⟨Sf, _, y1, y2⟩
theorem ck_45 (h : sh_G G x) (ho : pq_n G (x + 1376) = 1)  (iv : inv x S W) : ∃ Sf W', F_L_c45 G S xs L x (x + 1365) (x + 1376) x4 = some Sf ∧ inv x Sf W' := by
  obtain ⟨T, n, H, g, N, len, c⟩ := W
  obtain ⟨r, v, d⟩ := iv
  have vt : vT T := v.1
  have r0 : rS S x 0 T := r.1
  have hcc := (k_undo h v r : cc_ x S (F_X10_undo G S x ) _ _)
  obtain ⟨k, S2, w1, w2, w3, w4, w5⟩ := w_gen (e := e_1) ho d hcc (fun z hz U => g_2 (th_undo hz) U)
  have w1' : F_L_undo G S x  (x + 1376) = some (k, S2) := w1
  unfold F_L_c45
  rw [pq_bd1 w1']
  obtain ⟨Sf, y1, y2⟩ := ck_tail (F := F_X11_undo G S2 (x + 1365) ) ho w5 w2 w3 (fun z hz => e1_b) (j_undo h v w4)
  exact ⟨Sf, _, y1, y2⟩
theorem ck_46 (h : sh_G G x) (ho : pq_n G (x + 1376) = 1)  (iv : inv x S W) : ∃ Sf W', F_L_c46 G S xs L x (x + 1365) (x + 1376) x4 = some Sf ∧ inv x Sf W' := by
  obtain ⟨T, n, H, g, N, len, c⟩ := W
  obtain ⟨r, v, d⟩ := iv
  have vt : vT T := v.1
  have r0 : rS S x 0 T := r.1
  unfold F_L_c46
  obtain ⟨Sf, y1, y2⟩ := ci_gen (W0 := (T, n, H, g, N, len, c)) (Fr := fun U => F_X11_savedStates G U (x + 1365)) d (k_savedStates h v r) (fun S1 d1 => i_savedStates d1)
  exact ⟨Sf, _, y1, y2⟩
theorem ck_47 (h : sh_G G x) (ho : pq_n G (x + 1376) = 1)  (iv : inv x S W) : ∃ Sf W', F_L_c47 G S xs L x (x + 1365) (x + 1376) x4 = some Sf ∧ inv x Sf W' := by
  obtain ⟨T, n, H, g, N, len, c⟩ := W
  obtain ⟨r, v, d⟩ := iv
  have vt : vT T := v.1
  have r0 : rS S x 0 T := r.1
  unfold F_L_c47
  obtain ⟨Sf, y1, y2⟩ := ci_gen (W0 := (T, n, H, g, N, len, c)) (Fr := fun U => F_X11_takeSnapshot G U (x + 1365)) d (k_takeSnapshot h v r) (fun S1 d1 => i_takeSnapshot h v d1)
  exact ⟨Sf, _, y1, y2⟩
theorem ck_48 (h : sh_G G x) (ho : pq_n G (x + 1376) = 1)  (iv : inv x S W) : ∃ Sf W', F_L_c48 G S xs L x (x + 1365) (x + 1376) x4 = some Sf ∧ inv x Sf W' := by
  obtain ⟨T, n, H, g, N, len, c⟩ := W
  obtain ⟨r, v, d⟩ := iv
  have vt : vT T := v.1
  have r0 : rS S x 0 T := r.1
  have hcc := (k_restoreSnapshot h v r : cc_ x S (F_X10_restoreSnapshot G S x ) _ _)
  obtain ⟨k, S2, w1, w2, w3, w4, w5⟩ := w_gen (e := e_1) ho d hcc (fun z hz U => g_2 (th_rest hz) U)
  have w1' : F_L_restoreSnapshot G S x  (x + 1376) = some (k, S2) := w1
  unfold F_L_c48
  rw [pq_bd1 w1']
  obtain ⟨Sf, y1, y2⟩ := ck_tail (F := F_X11_restoreSnapshot G S2 (x + 1365) ) ho w5 w2 w3 (fun z hz => e1_b) (j_restoreSnapshot h v w4)
  exact ⟨Sf, _, y1, y2⟩
end CS
