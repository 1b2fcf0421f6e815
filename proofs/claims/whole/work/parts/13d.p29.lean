/-! THE METHODS of the reference that change -/
theorem mR_mk {x : Nat} {S S1 : pq_N} {F : Option (Int32 × pq_N)} {e : Nat → Nat} {W : tW} {w : Int32} (hF : F = some (w, S1)) (f : fr (x + 1365) (x + 1376) S S1) (r : rD S1 x W) (e8 : S1.1 (x + 1365) 8 = (0 : Int32)) : mR x S F e (Sum.inr w) W := ⟨w, S1, hF, f, r, rfl, e8⟩
section MC
variable {G : pq_G} {x : Nat} {T N : tT} {n len : Nat} {H : Nat → tT} {g : Bool} {c : Nat → Nat} {S S1 : pq_N} {a b : Int32}
theorem fv_fr (f : fv x S S1) : fr (x + 1365) (x + 1376) S S1 := fun b hb => ⟨by rw [f.1 b (by omega) (by omega)], by rw [f.2.1 b (by omega)]⟩
theorem fs_fr (f : fs_ x S S1) : fr (x + 1365) (x + 1376) S S1 := fun b hb => ⟨by rw [f.1 b (by omega)], by rw [f.2 b (by omega)]⟩
theorem ft_fr (f : ft x S S1) : fr (x + 1365) (x + 1376) S S1 := fun b hb => f.1 b (by omega) (by omega) (by omega) (by omega)
theorem fk_fr (f : fk x S S1) : fr (x + 1365) (x + 1376) S S1 := fun b hb => ⟨by rw [f.1 b (by omega)], by rw [f.2 b (by omega)]⟩
theorem rD_T {T' : tT} (e1 : S1.1 (x + 1368) = S.1 (x + 1368)) (e2 : S1.2 (x + 1369) = S.2 (x + 1369)) (e3 : S1.1 (x + 1370) = S.1 (x + 1370)) (ef : ∀ k, (k = 4 ∨ k = 5 ∨ k = 7) → S1.1 (x + 1365) k = S.1 (x + 1365) k) (rt : rA (S1.1 (x + 1366)) (S1.2 (x + 1367)) T') (r : rD S x (T, n, H, g, N, len, c)) : rD S1 x (T', n, H, g, N, len, c) := by
  obtain ⟨r1, r2, r3, r4, r5, r6, r7⟩ := r
  refine ⟨rt, by rw [ef 4 (by omega)]; exact r2, ?_, by rw [ef 5 (by omega)]; exact r4, ?_, by rw [ef 7 (by omega)]; exact r6, ?_⟩
  · rw [e1, e2]; exact r3
  · rw [e1, e2]; exact r5
  · rw [e3]; exact r7
theorem rA_day {f f' : Nat → Int32} {w : Nat → Int64} {d : Int32} (v : vT T) (e0 : f' 0 = d) (e1 : ∀ j, j ≠ 0 → f' j = f j) (r : rA f w T) : rA f' w (mT T.cnt d T.pm) := by
  obtain ⟨r1, r2, r3⟩ := r
  exact ⟨e0, by rw [e1 1 (by decide)]; exact r2, fun p hp => rAP_cg (v20 v hp) (v60 v hp) (v16 v hp) (fun j h1 h2 => e1 j (by omega)) (fun j h1 h2 => rfl) (r3 p hp)⟩
theorem rA_cnt {f f' : Nat → Int32} {w : Nat → Int64} {k : Nat} (v : vT T) (hk : k ≤ T.cnt) (e0 : f' 1 = nI k) (e1 : ∀ j, j ≠ 1 → f' j = f j) (r : rA f w T) : rA f' w (mT k T.day T.pm) := by
  obtain ⟨r1, r2, r3⟩ := r
  refine ⟨by rw [e1 0 (by decide)]; exact r1, e0, fun p hp => ?_⟩
  have hp' : p < k := hp
  have hp2 : p < T.cnt := by omega
  exact rAP_cg (v20 v hp2) (v60 v hp2) (v16 v hp2) (fun j h1 h2 => e1 j (by omega)) (fun j h1 h2 => rfl) (r3 p hp2)
theorem j_pass (h : sh_G G x) (v : vW (T, n, H, g, N, len, c)) (r : rD S x (T, n, H, g, N, len, c)) : mR x S (F_X11_pass G S (x + 1365) a) e_1 (s_pass (T, n, H, g, N, len, c) a).1 (s_pass (T, n, H, g, N, len, c) a).2 := by
  have mm := m_many h
  have vt : vT T := v.1
  have err : F_X11_pass_b16 G S (x + 1365) a (1 : Int32) (x + 1365) = some (0, pq_wi S (x + 1365) 8 1) := by
    unfold F_X11_pass_b16
    rw [pq_bd1 (hold1 (by decide)), if_pos rfl]
  unfold s_pass F_X11_pass
  by_cases c1 : a < 1 ∨ 100 < a
  · have e : F_X11_in G S a (1 : Int32) (100 : Int32) = some (0, S) := by
      unfold F_X11_in
      by_cases c2 : a < 1
      · rw [if_pos c2]
      · rw [if_neg c2, if_pos (c1.resolve_left c2)]
    rw [if_pos c1, pq_bd1 e, if_pos rfl]
    exact mR_err r rfl err
  · have e : F_X11_in G S a (1 : Int32) (100 : Int32) = some (1, S) := by
      unfold F_X11_in
      rw [if_neg (fun z => c1 (Or.inl z)), if_neg (fun z => c1 (Or.inr z))]
    obtain ⟨S1, k1, k2, k3⟩ := m_save h v (rD_8 (u := 0) r)
    have k31 : rA (S1.1 (x + 1366)) (S1.2 (x + 1367)) T := k3.1
    rw [if_neg c1, pq_bd1 e, if_neg (by decide)]
    have hrA : rA ((pq_wi S1 (x + 1366) 0 (T.day + a)).1 (x + 1366)) (S1.2 (x + 1367)) (mT T.cnt (T.day + a) T.pm) := by
      refine rA_day (f := S1.1 (x + 1366)) vt wi_s (fun j hj => ?_) k31
      exact wi_k hj
    refine mR_mk (S1 := pq_wi S1 (x + 1366) 0 (T.day + a)) ?_ (fr_tr fr_8 (fr_tr (fv_fr k2) (fr_wi (by omega) (by omega)))) ?_ ?_
    · unfold F_X11_pass_b16
      rw [pq_bd1 hold0, if_neg (by decide), pq_bd1 k1, mm.1, if_neg mm.2.2.1, if_neg mm.2.2.1, pq_lt1, if_neg mm.2.2.1, mm.2.2.2.2, k31.1, wi_s]
    · exact rD_T (S := S1) (by rw [wi_a (by omega)]) rfl (by rw [wi_a (by omega)]) (fun k _ => by rw [wi_a (by omega)]) hrA k3
    · rw [wi_a (by omega), k2.2.2 8 (by decide), wi_s]
theorem j_withdraw (h : sh_G G x) (v : vW (T, n, H, g, N, len, c)) (r : rD S x (T, n, H, g, N, len, c)) : mR x S (F_X11_withdraw G S (x + 1365)) e_1 (s_wd (T, n, H, g, N, len, c)).1 (s_wd (T, n, H, g, N, len, c)).2 := by
  have mm := m_many h
  have vt : vT T := v.1
  have h20 := vt.1
  have r1 : rA (S.1 (x + 1366)) (S.2 (x + 1367)) T := r.1
  have err : F_X11_withdraw_b34 G S (x + 1365) (1 : Int32) (x + 1365) = some (0, pq_wi S (x + 1365) 8 1) := by
    unfold F_X11_withdraw_b34
    rw [pq_bd1 (hold1 (by decide)), if_pos rfl]
  unfold s_wd F_X11_withdraw
  rw [mm.1, if_neg mm.2.1, mm.2.2.2.1, r1.2.1, pq_lt1]
  dsimp only
  by_cases c1 : T.cnt = 0
  · rw [if_pos c1, c1, if_pos (by decide)]
    exact mR_err r rfl err
  · have ec : nI T.cnt - (1 : Int32) = nI (T.cnt - 1) := nI_sub1 (by omega)
    rw [if_neg c1, ec, if_neg (nI_pos (by omega)), pq_bd1 (m_pd h vt r1 (show T.cnt - 1 < T.cnt by omega)), if_neg mm.2.2.1, mm.2.2.2.2, r1.1]
    by_cases c2 : (T.pm (T.cnt - 1)).pd = T.day
    · rw [if_pos c2, if_pos c2]
      obtain ⟨S1, k1, k2, k3⟩ := m_save h v (rD_8 (u := 0) r)
      have k31 : rA (S1.1 (x + 1366)) (S1.2 (x + 1367)) T := k3.1
      have hrA : rA ((pq_wi S1 (x + 1366) 1 (nI (T.cnt - 1))).1 (x + 1366)) (S1.2 (x + 1367)) (mT (T.cnt - 1) T.day T.pm) := by
        refine rA_cnt (f := S1.1 (x + 1366)) vt (by omega) wi_s (fun j hj => ?_) k31
        exact wi_k hj
      refine mR_mk (S1 := pq_wi S1 (x + 1366) 1 (nI (T.cnt - 1))) ?_ (fr_tr fr_8 (fr_tr (fv_fr k2) (fr_wi (by omega) (by omega)))) ?_ ?_
      · unfold F_X11_withdraw_b34
        rw [pq_bd1 hold0, if_neg (by decide), pq_bd1 k1, mm.1, if_neg mm.2.1, if_neg mm.2.1, pq_lt1, if_neg mm.2.1, mm.2.2.2.1, k31.2.1, ec, wi_s]
      · exact rD_T (S := S1) (by rw [wi_a (by omega)]) rfl (by rw [wi_a (by omega)]) (fun k _ => by rw [wi_a (by omega)]) hrA k3
      · rw [wi_a (by omega), k2.2.2 8 (by decide), wi_s]
    · rw [if_neg c2, if_neg c2]
      exact mR_err r rfl err
theorem j_mend (h : sh_G G x) (v : vW (T, n, H, g, N, len, c)) (r : rD S x (T, n, H, g, N, len, c)) : mR x S (F_X11_mend G S (x + 1365) a b) e_3 (s_mend (T, n, H, g, N, len, c) a b).1 (s_mend (T, n, H, g, N, len, c) a b).2 := by
  have vt : vT T := v.1
  have r1 : rA (S.1 (x + 1366)) (S.2 (x + 1367)) T := r.1
  have err : ∀ (U : pq_N) (k : Int32), ¬ k = 0 → F_X11_mend_b28 G U (x + 1365) a b k (x + 1365) = some (0, pq_wi U (x + 1365) 8 k) := fun U k hk => by
    unfold F_X11_mend_b28
    rw [pq_bd1 (hold1 hk), if_pos rfl]
  unfold s_mend F_X11_mend
  rw [pq_bd1 (m_isQu h vt r1)]
  dsimp only
  cases d : dI T.cnt a with
  | none =>
    have ei : isq T a b = false := by unfold isq; rw [d]
    rw [b_00 ei, if_pos rfl]
    exact mR_err r rfl (err S 1 (by decide))
  | some j =>
    obtain ⟨hj, ea⟩ := dI_some d
    dsimp only
    cases d2 : dI (T.pm j).qc b with
    | none =>
      have ei : isq T a b = false := by
        unfold isq; rw [d]
        show (dI (T.pm j).qc b).isSome = false
        rw [d2]; rfl
      rw [b_00 ei, if_pos rfl]
      exact mR_err r rfl (err S 1 (by decide))
    | some q =>
      obtain ⟨hq, eb⟩ := dI_some d2
      have ei : isq T a b = true := by
        unfold isq; rw [d]
        show (dI (T.pm j).qc b).isSome = true
        rw [d2]; rfl
      obtain ⟨S0, k1, k2, e14, e15, e16⟩ := m_canMend h vt hj hq r1
      have r0 := fm_rD k2 r
      rw [b_01 ei, if_neg (by decide), ea, eb, pq_bd1 k1]
      rw [ea, eb] at err
      dsimp only
      by_cases c1 : 0 < zD T j q ∧ (T.pm j).wc + zL T j q - (T.pm j).ql q ≤ 60
      · rw [if_pos c1, if_pos c1, if_neg (by decide)]
        obtain ⟨S1, p1, p2, p3⟩ := m_save h v (rD_8 (u := 0) r0)
        have p31 : rA (S1.1 (x + 1366)) (S1.2 (x + 1367)) T := p3.1
        obtain ⟨S2, g1, g2, g3⟩ := m_doMend h vt hj hq (show mdR T j q from c1.2) p31 (by rw [p2.2.2 14 (by decide), wi_k (by decide)]; exact e14) (by rw [p2.2.2 15 (by decide), wi_k (by decide)]; exact e15) (by rw [p2.2.2 16 (by decide), wi_k (by decide)]; exact e16)
        refine mR_mk (S1 := S2) ?_ (fr_tr (fn_fr (fn_of k2)) (fr_tr fr_8 (fr_tr (fv_fr p2) (fs_fr g2)))) ?_ ?_
        · unfold F_X11_mend_b28
          rw [pq_bd1 hold0, if_neg (by decide), pq_bd1 p1, pq_bd1 g1]
        · exact rD_T (by rw [g2.1 _ (by omega)]) (by rw [g2.2 _ (by omega)]) (by rw [g2.1 _ (by omega)]) (fun k _ => by rw [g2.1 _ (by omega)]) g3 p3
        · rw [g2.1 _ (by omega), p2.2.2 8 (by decide), wi_s]
      · rw [if_neg c1, if_neg c1, if_pos (show nI 0 = (0 : Int32) from rfl)]
        exact mR_err' (k := 2) (t := 2) r0 (fn_fr (fn_of k2)) rfl (err S0 2 (by decide))
theorem i_mendAll (h : sh_G G x) (v : vW (T, n, H, g, N, len, c)) (r : rD S x (T, n, H, g, N, len, c)) : mI x S (F_X11_mendAll G S (x + 1365)) (nI (mz T T.cnt).2) ((mz T T.cnt).1, hn n, hH n H T, g, N, len, c) := by
  have vt : vT T := v.1
  obtain ⟨S1, p1, p2, p3⟩ := m_save h v (rD_8 (u := 0) r)
  have p31 : rA (S1.1 (x + 1366)) (S1.2 (x + 1367)) T := p3.1
  obtain ⟨S2, g1, g2, g3⟩ := mA_out h vt T.cnt 0 pq_fuel S1 (by omega) (fuel_lt (by have := vt.1; omega)) p31
  refine ⟨S2, ?_, fr_tr fr_8 (fr_tr (fv_fr p2) (ft_fr g2)), rD_T (by rw [(g2.1 _ (by omega) (by omega) (by omega) (by omega)).1]) (by rw [(g2.1 _ (by omega) (by omega) (by omega) (by omega)).2]) (by rw [(g2.1 _ (by omega) (by omega) (by omega) (by omega)).1]) (fun k hk => g2.2 k (by omega)) g3 p3⟩
  unfold F_X11_mendAll
  rw [pq_lt1, pq_bd1 p1]
  exact g1
theorem j_append (h : sh_G G x) (v : vW (T, n, H, g, N, len, c)) (r : rD S x (T, n, H, g, N, len, c)) : mR x S (F_X11_append G S (x + 1365) a) e_3 (s_app (T, n, H, g, N, len, c) a).1 (s_app (T, n, H, g, N, len, c) a).2 := by
  have hl : len ≤ 100 := v.2.2.2.2.1
  have ht := (sh_mo h).2.2.2.2.1
  have err : ∀ k : Int32, ¬ k = 0 → F_X11_append_b30 G S (x + 1365) a k (x + 1365) = some (0, pq_wi S (x + 1365) 8 k) := fun k hk => by
    unfold F_X11_append_b30
    rw [pq_bd1 (hold1 hk), if_pos rfl]
  obtain ⟨r1, r2, r3, r4, r5, r6, r7⟩ := id r
  unfold s_app F_X11_append
  dsimp only
  by_cases c1 : a < 32 ∨ 126 < a
  · have e : F_X11_in G S a (32 : Int32) (126 : Int32) = some (0, S) := by
      unfold F_X11_in
      by_cases c2 : a < 32
      · rw [if_pos c2]
      · rw [if_neg c2, if_pos (c1.resolve_left c2)]
    rw [if_pos c1, pq_bd1 e, if_pos rfl]
    exact mR_err (k := 1) (t := 1) r rfl (err 1 (by decide))
  · have e : F_X11_in G S a (32 : Int32) (126 : Int32) = some (1, S) := by
      unfold F_X11_in
      rw [if_neg (fun z => c1 (Or.inl z)), if_neg (fun z => c1 (Or.inr z))]
    rw [if_neg c1, pq_bd1 e, if_neg (by decide), r6, show (100 : Int32) = nI 100 from rfl, if_eqI (by omega) (by omega)]
    by_cases c2 : 100 ≤ len
    · rw [if_pos c2, if_pos (by omega)]
      exact mR_err (k := 2) (t := 2) r rfl (err 2 (by decide))
    · rw [if_neg c2, if_neg (by omega)]
      obtain ⟨k, hk1, hk2, rfl⟩ := code_of c1
      have e7 : (pq_wi S (x + 1365) 8 0).1 (x + 1365) 7 = nI len := by rw [wi_k (by decide)]; exact r6
      refine mR_mk (S1 := pq_wi (pq_wi (pq_wi S (x + 1365) 8 0) (x + 1370) len (nI k)) (x + 1365) 7 (nI (len + 1))) ?_ (fr_tr fr_8 (fr_tr (fr_wi (by omega) (by omega)) fr_8)) ?_ ?_
      · unfold F_X11_append_b30
        rw [pq_bd1 hold0, if_neg (by decide), e7, ht.1, ht.2, nI_clamp (by omega), if_neg (in_c (show len < 100 by omega) (by omega)), pq_lt1, pq_lt1, wi_a (show x + 1365 ≠ x + 1370 by omega), e7, nI_1, wi_s]
      · refine ⟨?_, ?_, ?_, ?_, ?_, wi_s, fun j hj => ?_⟩
        · rw [wi_a (show x + 1366 ≠ x + 1365 by omega), wi_a (show x + 1366 ≠ x + 1370 by omega), wi_a (show x + 1366 ≠ x + 1365 by omega)]; exact r1
        · rw [wi_k (by decide), wi_a (show x + 1365 ≠ x + 1370 by omega), wi_k (by decide)]; exact r2
        · rw [wi_a (show x + 1368 ≠ x + 1365 by omega), wi_a (show x + 1368 ≠ x + 1370 by omega), wi_a (show x + 1368 ≠ x + 1365 by omega)]; exact r3
        · rw [wi_k (by decide), wi_a (show x + 1365 ≠ x + 1370 by omega), wi_k (by decide)]; exact r4
        · rw [wi_a (show x + 1368 ≠ x + 1365 by omega), wi_a (show x + 1368 ≠ x + 1370 by omega), wi_a (show x + 1368 ≠ x + 1365 by omega)]; exact r5
        · rw [wi_a (show x + 1370 ≠ x + 1365 by omega), nI_clamp (by omega)]
          show _ = nI (if j = len then k else c j)
          by_cases cj : j = len
          · rw [if_pos cj, cj, wi_s]
          · rw [if_neg cj, wi_k cj, wi_a (show x + 1370 ≠ x + 1365 by omega)]
            exact r7 j (by omega)
      · rw [wi_k (by decide), wi_a (show x + 1365 ≠ x + 1370 by omega), wi_s]
theorem j_undo (h : sh_G G x) (v : vW (T, n, H, g, N, len, c)) (r : rD S x (T, n, H, g, N, len, c)) : mR x S (F_X11_undo G S (x + 1365)) e_1 (s_undo (T, n, H, g, N, len, c)).1 (s_undo (T, n, H, g, N, len, c)).2 := by
  obtain ⟨r1, r2, r3, r4, r5, r6, r7⟩ := id r
  have hn5 : n ≤ 5 := v.2.1
  unfold s_undo F_X11_undo
  dsimp only
  rw [r2]
  by_cases c1 : n = 0
  · rw [if_pos c1, c1, if_pos (by decide)]
    refine mR_err (u := 0) (t := 1) (k := 2) (by rw [← c1]; exact r) rfl ?_
    unfold F_X11_undo_b13
    rw [pq_bd1 (hold1 (by decide)), if_pos rfl]
  · rw [if_neg c1, if_neg (nI_nle (by omega) (by omega))]
    have e4 : (pq_wi S (x + 1365) 8 0).1 (x + 1365) 4 - (1 : Int32) = nI (n - 1) := by rw [wi_k (by decide), r2, nI_sub1 (by omega)]
    have vk : vT (H (n - 1)) := v.2.2.1 (n - 1) (by omega)
    have rk := r3 (n - 1) (by omega)
    have hrow : rA (fun j => (pq_wi (pq_wi S (x + 1365) 8 0) (x + 1365) 4 (nI (n - 1))).1 (x + 1368) (1042 * (n - 1) + j)) (fun j => (pq_wi (pq_wi S (x + 1365) 8 0) (x + 1365) 4 (nI (n - 1))).2 (x + 1369) (1200 * (n - 1) + j)) (H (n - 1)) := by
      rw [wi_a (show x + 1368 ≠ x + 1365 by omega), wi_a (show x + 1368 ≠ x + 1365 by omega)]
      exact rk
    obtain ⟨S1, k1, k2, k3⟩ := m_takeFrom h (row := n - 1) (by omega) vk hrow
    refine mR_mk (S1 := S1) ?_ (fr_tr fr_8 (fr_tr fr_8 (fs_fr k2))) ?_ ?_
    · unfold F_X11_undo_b13
      rw [pq_bd1 hold0, if_neg (by decide), e4, pq_lt1, wi_s, pq_bd1 k1, k2.1 _ (by omega), wi_s]
    · refine ⟨k3, ?_, ?_, ?_, ?_, ?_, ?_⟩
      · rw [k2.1 _ (by omega), wi_s]
      · rw [k2.1 _ (by omega), k2.2 _ (by omega), wi_a (show x + 1368 ≠ x + 1365 by omega), wi_a (show x + 1368 ≠ x + 1365 by omega)]
        exact fun k hk => r3 k (by omega)
      · rw [k2.1 _ (by omega), wi_k (by decide), wi_k (by decide)]; exact r4
      · rw [k2.1 _ (by omega), k2.2 _ (by omega), wi_a (show x + 1368 ≠ x + 1365 by omega), wi_a (show x + 1368 ≠ x + 1365 by omega)]; exact r5
      · rw [k2.1 _ (by omega), wi_k (by decide), wi_k (by decide)]; exact r6
      · rw [k2.1 _ (by omega), wi_a (show x + 1370 ≠ x + 1365 by omega), wi_a (show x + 1370 ≠ x + 1365 by omega)]; exact r7
    · rw [k2.1 _ (by omega), wi_k (by decide), wi_s]
theorem i_takeSnapshot (h : sh_G G x) (v : vW (T, n, H, g, N, len, c)) (r : rD S x (T, n, H, g, N, len, c)) : mI x S (F_X11_takeSnapshot G S (x + 1365)) (nI T.cnt) (T, n, H, true, T, len, c) := by
  have mm := m_many h
  have vt : vT T := v.1
  have hn5 : n ≤ 5 := v.2.1
  obtain ⟨r1, r2, r3, r4, r5, r6, r7⟩ := rD_8 (u := 0) r
  obtain ⟨S1, k1, k2, k3, k4⟩ := m_keepAt h (row := 5) (Nat.le_refl _) (S := pq_wi S (x + 1365) 8 0)
  have k1' : F_X11_keepAt G (pq_wi S (x + 1365) 8 0) (x + 1365) (5 : Int32) = some ((), S1) := k1
  refine ⟨pq_wi S1 (x + 1365) 5 1, ?_, fr_tr fr_8 (fr_tr (fk_fr k2) fr_8), ?_, ?_, ?_, ?_, ?_, ?_, ?_⟩
  · unfold F_X11_takeSnapshot
    rw [pq_lt1, pq_bd1 k1', pq_lt1, mm.1, if_neg mm.2.1, mm.2.2.2.1, wi_a (show x + 1366 ≠ x + 1365 by omega), k2.1 _ (by omega), r1.2.1]
  · rw [wi_a (show x + 1366 ≠ x + 1365 by omega), wi_2, k2.1 _ (by omega), k2.2 _ (by omega)]; exact r1
  · rw [wi_k (by decide), k2.1 _ (by omega)]; exact r2
  · rw [wi_a (show x + 1368 ≠ x + 1365 by omega), wi_2]
    exact fun k hk => rA_cg (v.2.2.1 k hk) (fun j hj => by rw [k3, if_neg (by omega)]) (fun j hj => by rw [k4, if_neg (by omega)]) (r3 k hk)
  · exact wi_s
  · rw [wi_a (show x + 1368 ≠ x + 1365 by omega), wi_2]
    exact fun _ => rA_cg vt (fun j hj => by rw [k3, if_pos (by omega), Nat.add_sub_cancel_left]) (fun j hj => by rw [k4, if_pos (by omega), Nat.add_sub_cancel_left]) r1
  · rw [wi_k (by decide), k2.1 _ (by omega)]; exact r6
  · rw [wi_a (show x + 1370 ≠ x + 1365 by omega), k2.1 _ (by omega)]; exact r7
theorem j_restoreSnapshot (h : sh_G G x) (v : vW (T, n, H, g, N, len, c)) (r : rD S x (T, n, H, g, N, len, c)) : mR x S (F_X11_restoreSnapshot G S (x + 1365)) e_1 (s_rest (T, n, H, g, N, len, c)).1 (s_rest (T, n, H, g, N, len, c)).2 := by
  have mm := m_many h
  have e5 : S.1 (x + 1365) 5 = nI (bN g) := r.2.2.2.1
  unfold s_rest F_X11_restoreSnapshot
  dsimp only
  rw [e5]
  by_cases c1 : g = true
  · rw [if_pos c1, b_01 c1, if_neg (by decide)]
    have vN : vT N := v.2.2.2.1 c1
    obtain ⟨S1, k1, k2, k3⟩ := m_save h v (rD_8 (u := 0) r)
    obtain ⟨S2, p1, p2, p3⟩ := m_takeFrom h (row := 5) (Nat.le_refl _) vN (k3.2.2.2.2.1 c1)
    have p1' : F_X11_takeFrom G S1 (x + 1365) (5 : Int32) = some ((), S2) := p1
    refine mR_mk (S1 := S2) ?_ (fr_tr fr_8 (fr_tr (fv_fr k2) (fs_fr p2))) ?_ ?_
    · unfold F_X11_restoreSnapshot_b13
      rw [pq_bd1 hold0, if_neg (by decide), pq_bd1 k1, pq_bd1 p1', mm.1, if_neg mm.2.1, mm.2.2.2.1, p3.2.1]
    · exact rD_T (by rw [p2.1 _ (by omega)]) (by rw [p2.2 _ (by omega)]) (by rw [p2.1 _ (by omega)]) (fun k _ => by rw [p2.1 _ (by omega)]) p3 k3
    · rw [p2.1 _ (by omega), k2.2.2 8 (by decide), wi_s]
  · have cg : g = false := by simpa using c1
    rw [if_neg c1, b_00 cg, if_pos rfl]
    refine mR_err (u := 0) (t := 1) (k := 2) r rfl ?_
    unfold F_X11_restoreSnapshot_b13
    rw [pq_bd1 (hold1 (by decide)), if_pos rfl]
theorem j_print (h : sh_G G x) (v : vW (T, n, H, g, N, len, c)) (r : rD S x (T, n, H, g, N, len, c)) (au pd : Int32) : mR x S (F_X11_print G S (x + 1365) a) e_3 (s_print (T, n, H, g, N, len, c) a (tx c len au pd)).1 (s_print (T, n, H, g, N, len, c) a (tx c len au pd)).2 := by
  have mm := m_many h
  have hs := (sh_mo h).1
  have vt : vT T := v.1
  have hl : len ≤ 100 := v.2.2.2.2.1
  have err : ∀ (U : pq_N) (k : Int32), ¬ k = 0 → F_X11_print_b24 G U (x + 1365) a k (x + 1365) = some (0, pq_wi U (x + 1365) 8 k) := fun U k hk => by
    unfold F_X11_print_b24
    rw [pq_bd1 (hold1 hk), if_pos rfl]
  unfold s_print F_X11_print
  rw [pq_bd1 m_isAu]
  dsimp only
  cases d : dI 8 a with
  | none =>
    rw [bs_0 rfl, if_pos rfl]
    exact mR_err (k := 1) (t := 1) r rfl (err S 1 (by decide))
  | some j =>
    obtain ⟨S0, k1, k2⟩ := m_why h v r au pd
    have r0 := fx_rD vt vt.1 k2 r
    have w4 := wy_le (T := T) (len := len) (k := tx c len au pd)
    rw [bs_1 rfl, if_neg (by decide), pq_bd1 k1]
    dsimp only
    by_cases c1 : wy T len (tx c len au pd) = 0
    · have hP := tx_P hl c1
      obtain ⟨c2, c3, -, -⟩ := wy_0 c1
      rw [if_pos c1, c1, if_pos (by decide)]
      obtain ⟨S1, p1, p2, p3⟩ := m_save h v (rD_8 (u := 0) r0)
      have p31 : rA (S1.1 (x + 1366)) (S1.2 (x + 1367)) T := p3.1
      obtain ⟨S2, g1, g2, g3, g4⟩ := m_text h vt (p := T.cnt) (by omega) (Nat.le_refl _) hl (vW_c v) (rD_X p3) p31 au pd
      obtain ⟨d1, d2, d3, d4⟩ := g4 c3
      have r2 := fx_rD vt (Nat.le_refl _) g2 p3
      have r21 : rA (S2.1 (x + 1366)) (S2.2 (x + 1367)) T := r2.1
      generalize hPP : (tx c len au pd).2.2.2.2 = P at *
      refine mR_mk (S1 := pq_wi (pq_wi (pq_wi (pq_wi (pq_wi (pq_wi S2 (x + 1366) (52 * T.cnt + 2) a) (x + 1366) (52 * T.cnt + 3) T.day) (x + 1366) (52 * T.cnt + 4) (nI P.wc)) (x + 1366) (52 * T.cnt + 5) (nI P.qc)) (x + 1366) 1 (nI (T.cnt + 1))) (x + 1365) 7 0) ?_ (fr_tr (fx_fr k2) (fr_tr fr_8 (fr_tr (fv_fr p2) (fr_tr (fx_fr g2) (fr_tr (fr_wi (by omega) (by omega)) (fr_tr (fr_wi (by omega) (by omega)) (fr_tr (fr_wi (by omega) (by omega)) (fr_tr (fr_wi (by omega) (by omega)) (fr_tr (fr_wi (by omega) (by omega)) fr_8))))))))) ?_ ?_
      · unfold F_X11_print_b24
        rw [pq_bd1 hold0, if_neg (by decide), pq_bd1 p1, mm.1, if_neg mm.2.1, mm.2.2.2.1, p31.2.1, pq_lt1, pq_bd1 g1, show (52 : Int32) = nI 52 from rfl, show (2 : Int32) = nI 2 from rfl, show (3 : Int32) = nI 3 from rfl, show (4 : Int32) = nI 4 from rfl, show (5 : Int32) = nI 5 from rfl, nI_mul, nI_add, nI_add, nI_add, nI_add, hs.2, nI_clamp (by omega), nI_clamp (by omega), nI_clamp (by omega), nI_clamp (by omega), if_neg (in_c (show 52 * T.cnt + 2 < 1042 by omega) (by omega)), pq_lt1]
        rw [if_neg (show ¬ ((0 : Int32) < 0 ∨ 1042 ≤ Int32.toNatClampNeg (0 : Int32)) by decide), if_neg (in_c (show 52 * T.cnt + 3 < 1042 by omega) (by omega)), pq_lt1, if_neg (in_c (show 52 * T.cnt + 4 < 1042 by omega) (by omega)), pq_lt1, if_neg (in_c (show 52 * T.cnt + 5 < 1042 by omega) (by omega)), pq_lt1, if_neg (show ¬ ((1 : Int32) < 0 ∨ 1042 ≤ 1) by decide), if_neg (show ¬ ((1 : Int32) < 0 ∨ 1042 ≤ 1) by decide), pq_lt1, pq_lt1]
        have n56 : x + 1365 ≠ x + 1366 := by omega
        rw [mm.2.2.2.2, wi_k (show 0 ≠ 52 * T.cnt + 2 by omega), r21.1, wi_a n56, wi_a n56, wi_a n56, wi_a n56, wi_a n56, d2, d3, wi_k (show 1 ≠ 52 * T.cnt + 5 by omega), wi_k (show 1 ≠ 52 * T.cnt + 4 by omega), wi_k (show 1 ≠ 52 * T.cnt + 3 by omega), wi_k (show 1 ≠ 52 * T.cnt + 2 by omega), r21.2.1, nI_1]
      · obtain ⟨u1, u2, u3, u4, u5, u6, u7⟩ := r2
        have n65 : x + 1366 ≠ x + 1365 := by omega
        have n86 : x + 1368 ≠ x + 1366 := by omega
        have n85 : x + 1368 ≠ x + 1365 := by omega
        have n56 : x + 1365 ≠ x + 1366 := by omega
        refine ⟨?_, ?_, ?_, ?_, ?_, wi_s, fun j hj => absurd hj (Nat.not_lt_zero _)⟩
        · rw [wi_a n65]
          refine ⟨?_, wi_s, fun p hp => ?_⟩
          · rw [wi_k (by omega), wi_k (by omega), wi_k (by omega), wi_k (by omega), wi_k (by omega)]; exact u1.1
          · have hp' : p < T.cnt + 1 := hp
            show rAP _ _ p (if p = T.cnt then prP P a T.day else T.pm p)
            by_cases cp : p = T.cnt
            · rw [if_pos cp, cp]
              refine ⟨?_, ?_, ?_, ?_, fun j hj => (d4 c2).1 j hj, fun q hq => ?_⟩
              · rw [wi_k (by omega), wi_k (by omega), wi_k (by omega), wi_k (by omega), wi_s]; rfl
              · rw [wi_k (by omega), wi_k (by omega), wi_k (by omega), wi_s]; rfl
              · rw [wi_k (by omega), wi_k (by omega), wi_s]; rfl
              · rw [wi_k (by omega), wi_s]; rfl
              · rw [wi_k (by omega), wi_k (by omega), wi_k (by omega), wi_k (by omega), wi_k (by omega), wi_k (by omega), wi_k (by omega), wi_k (by omega), wi_k (by omega), wi_k (by omega), wi_k (by omega), wi_k (by omega), wi_k (by omega), wi_k (by omega), wi_k (by omega)]
                exact (d4 c2).2 q hq
            · rw [if_neg cp]
              have hp2 : p < T.cnt := by omega
              exact rAP_cg (v20 vt hp2) (v60 vt hp2) (v16 vt hp2) (fun j h1 h2 => by rw [wi_k (by omega), wi_k (by omega), wi_k (by omega), wi_k (by omega), wi_k (by omega)]) (fun j h1 h2 => rfl) (u1.2.2 p hp2)
        · rw [wi_k (by decide), wi_a n56, wi_a n56, wi_a n56, wi_a n56, wi_a n56]; exact u2
        · rw [wi_a n85, wi_a n86, wi_a n86, wi_a n86, wi_a n86, wi_a n86]; exact u3
        · rw [wi_k (by decide), wi_a n56, wi_a n56, wi_a n56, wi_a n56, wi_a n56]; exact u4
        · rw [wi_a n85, wi_a n86, wi_a n86, wi_a n86, wi_a n86, wi_a n86]; exact u5
      · have n56 : x + 1365 ≠ x + 1366 := by omega
        rw [wi_k (by decide), wi_a n56, wi_a n56, wi_a n56, wi_a n56, wi_a n56, g2.2.1 8 (by omega), p2.2.2 8 (by decide), wi_s]
    · rw [if_neg c1, if_neg (nI_nle (by omega) (by omega))]
      exact mR_err' (k := 2) (t := 2) r0 (fx_fr k2) rfl (err S0 2 (by decide))
end MC
