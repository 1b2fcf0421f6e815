/-! THE METHODS of the reference: blame, ladders, reading, the glossary -/
section MY
variable {G : pq_G} {x : Nat} {T N : tT} {n len : Nat} {H : Nat → tT} {g : Bool} {c : Nat → Nat} {S : pq_N} {a b a3 a4 : Int32}
theorem j_blameOf (h : sh_G G x) (v : vT T) (r : rD S x (T, n, H, g, N, len, c)) : mR x S (F_X11_blameOf G S (x + 1365) a) e_1 (q_bl T a) (T, n, H, g, N, len, c) := by
  unfold q_bl F_X11_blameOf
  rw [pq_bd1 m_isAu]
  cases d : dI 8 a with
  | none =>
    rw [bs_0 rfl, if_pos rfl]
    refine mR_err (u := 0) (t := 1) r rfl ?_
    unfold F_X11_blameOf_b13
    rw [pq_bd1 (hold1 (by decide)), if_pos rfl]
  | some j =>
    obtain ⟨hj, ea⟩ := dI_some d
    obtain ⟨S1, k1, k2⟩ := m_blame h v (a := a) (o := -1) (by rw [ea]; exact nI_m1 (by omega)) (rD_8 (W := (T, n, H, g, N, len, c)) (u := 0) r).1
    rw [bs_1 rfl, if_neg (by decide)]
    refine mR_ok r (fn_of k2) ?_
    unfold F_X11_blameOf_b13
    rw [pq_bd1 hold0, if_neg (by decide), pq_bd1 k1]
theorem j_wrongs (h : sh_G G x) (v : vT T) (r : rD S x (T, n, H, g, N, len, c)) : mR x S (F_X11_wrongs G S (x + 1365) a b) e_1 (q_wr T a b) (T, n, H, g, N, len, c) := by
  have err : F_X11_wrongs_b20 G S (x + 1365) a b (1 : Int32) (x + 1365) = some (0, pq_wi S (x + 1365) 8 1) := by
    unfold F_X11_wrongs_b20
    rw [pq_bd1 (hold1 (by decide)), if_pos rfl]
  unfold q_wr F_X11_wrongs
  rw [pq_bd1 m_isAu]
  cases d : dI 8 a with
  | none =>
    rw [bs_0 rfl, if_pos rfl]
    exact mR_err r rfl err
  | some j =>
    obtain ⟨hj, ea⟩ := dI_some d
    rw [bs_1 rfl, if_neg (by decide), pq_bd1 m_isAu]
    dsimp only
    cases d2 : dI 8 b with
    | none =>
      rw [bs_0 rfl, if_pos rfl]
      exact mR_err r rfl err
    | some k =>
      obtain ⟨S1, k1, k2⟩ := m_blame h v (a := a) (o := b) (by rw [ea]; exact nI_m1 (by omega)) (rD_8 (W := (T, n, H, g, N, len, c)) (u := 0) r).1
      rw [bs_1 rfl, if_neg (by decide)]
      refine mR_ok r (fn_of k2) ?_
      unfold F_X11_wrongs_b20
      rw [pq_bd1 hold0, if_neg (by decide), pq_bd1 k1]
theorem j_answers (h : sh_G G x) (v : vT T) (r : rD S x (T, n, H, g, N, len, c)) : mR x S (F_X11_answers G S (x + 1365) a b) e_1 (q_ans T a b) (T, n, H, g, N, len, c) := by
  have r1 : rA (S.1 (x + 1366)) (S.2 (x + 1367)) T := r.1
  have err : F_X11_answers_b22 G S (x + 1365) a b (1 : Int32) (x + 1365) = some (0, pq_wi S (x + 1365) 8 1) := by
    unfold F_X11_answers_b22
    rw [pq_bd1 (hold1 (by decide)), if_pos rfl]
  unfold q_ans F_X11_answers
  rw [pq_bd1 (m_isPa h v r1)]
  cases d : dI T.cnt a with
  | none =>
    rw [bs_0 rfl, if_pos rfl]
    exact mR_err r rfl err
  | some j =>
    obtain ⟨hj, ea⟩ := dI_some d
    rw [bs_1 rfl, if_neg (by decide), pq_bd1 (m_isPa h v r1)]
    dsimp only
    cases d2 : dI T.cnt b with
    | none =>
      rw [bs_0 rfl, if_pos rfl]
      exact mR_err r rfl err
    | some k =>
      obtain ⟨hk, eb⟩ := dI_some d2
      have e := m_isAnswer (s := k) h v hj (v20 v hk) (rD_8 (W := (T, n, H, g, N, len, c)) (u := 0) r).1
      rw [bs_1 rfl, if_neg (by decide)]
      refine mR_ok (S1 := pq_wi S (x + 1365) 8 0) r fn_rfl ?_
      unfold F_X11_answers_b22
      rw [pq_bd1 hold0, if_neg (by decide), ea, eb, pq_bd1 e]
      cases qt T j k
      · rw [b_00 rfl, if_pos rfl]; rfl
      · rw [b_01 rfl, if_neg (by decide)]; rfl
theorem j_ladderOf (h : sh_G G x) (v : vT T) (r : rD S x (T, n, H, g, N, len, c)) : mR x S (F_X11_ladderOf G S (x + 1365) a) e_1 (q1 T (fun j => nI (lt_ T (j + 1) j)) a) (T, n, H, g, N, len, c) := by
  obtain ⟨S1, k1, k2, k3⟩ := m_climb h v r.1
  have rr := fm_rD k2 r
  have m := (sh_mo h).2.2.2.2.2.2.1
  unfold q1 F_X11_ladderOf
  rw [pq_bd1 k1, pq_bd1 (m_isPa h v rr.1)]
  cases d : dI T.cnt a with
  | none =>
    rw [bs_0 rfl, if_pos rfl]
    refine mR_err' (u := 0) (t := 1) rr (fn_fr (fn_of k2)) rfl ?_
    unfold F_X11_ladderOf_b18
    rw [pq_bd1 (hold1 (by decide)), if_pos rfl]
  | some j =>
    obtain ⟨hj, ea⟩ := dI_some d
    have h20 := v20 v hj
    rw [bs_1 rfl, if_neg (by decide)]
    refine mR_ok' (S1 := pq_wi S1 (x + 1365) 8 0) rr (fn_fr (fn_of k2)) fn_rfl ?_
    unfold F_X11_ladderOf_b18
    rw [pq_bd1 hold0, if_neg (by decide), ea, m.1, m.2, if_neg (nI_in h20 (by omega)), nI_clamp (by omega), wi_a (by omega), (k3 j hj).1]
theorem j_laddersOf (h : sh_G G x) (v : vT T) (r : rD S x (T, n, H, g, N, len, c)) : mR x S (F_X11_laddersOf G S (x + 1365) a) e_1 (q1 T (fun j => nI (gt_ T (j + 1) j)) a) (T, n, H, g, N, len, c) := by
  obtain ⟨S1, k1, k2, k3⟩ := m_climb h v r.1
  have rr := fm_rD k2 r
  have m := (sh_mo h).2.2.2.2.2.2.2.1
  unfold q1 F_X11_laddersOf
  rw [pq_bd1 k1, pq_bd1 (m_isPa h v rr.1)]
  cases d : dI T.cnt a with
  | none =>
    rw [bs_0 rfl, if_pos rfl]
    refine mR_err' (u := 0) (t := 1) rr (fn_fr (fn_of k2)) rfl ?_
    unfold F_X11_laddersOf_b18
    rw [pq_bd1 (hold1 (by decide)), if_pos rfl]
  | some j =>
    obtain ⟨hj, ea⟩ := dI_some d
    have h20 := v20 v hj
    rw [bs_1 rfl, if_neg (by decide)]
    refine mR_ok' (S1 := pq_wi S1 (x + 1365) 8 0) rr (fn_fr (fn_of k2)) fn_rfl ?_
    unfold F_X11_laddersOf_b18
    rw [pq_bd1 hold0, if_neg (by decide), ea, m.1, m.2, if_neg (nI_in h20 (by omega)), nI_clamp (by omega), wi_a (by omega), (k3 j hj).2]
theorem j_readingOf (h : sh_G G x) (v : vT T) (r : rD S x (T, n, H, g, N, len, c)) : mR x S (F_X11_readingOf G S (x + 1365) a) e_1 (q1 T (fun j => nI (rc_ T j (j + 1))) a) (T, n, H, g, N, len, c) := by
  refine mr1 r (fun d => ?_) (fun j d hj ea => ?_)
  · unfold F_X11_readingOf
    rw [pq_bd1 (m_isPa h v r.1), bs_0 d, if_pos rfl]
    unfold F_X11_readingOf_b14
    rw [pq_bd1 (hold1 (by decide)), if_pos rfl]
  · obtain ⟨s, k1, k2⟩ := m_reading h v hj (rD_8 (W := (T, n, H, g, N, len, c)) (u := 0) r).1
    unfold F_X11_readingOf
    rw [pq_bd1 (m_isPa h v r.1), bs_1 d, if_neg (by decide)]
    unfold F_X11_readingOf_b14
    rw [pq_bd1 hold0, if_neg (by decide), ea, pq_bd1 k1, pq_bd1 (m_manyOf k2), rc_20 v hj]
    exact ⟨_, rfl, fn_rfl⟩
theorem j_readAt (h : sh_G G x) (v : vT T) (r : rD S x (T, n, H, g, N, len, c)) : mR x S (F_X11_readAt G S (x + 1365) a b) e_1 (q_rd T a b) (T, n, H, g, N, len, c) := by
  have r1 : rA (S.1 (x + 1366)) (S.2 (x + 1367)) T := r.1
  have err : F_X11_readAt_b32 G S (x + 1365) a b (1 : Int32) (x + 1365) = some (0, pq_wi S (x + 1365) 8 1) := by
    unfold F_X11_readAt_b32
    rw [pq_bd1 (hold1 (by decide)), if_pos rfl]
  unfold q_rd F_X11_readAt
  rw [pq_bd1 (m_isPa h v r1)]
  cases d : dI T.cnt a with
  | none =>
    rw [bs_0 rfl, if_pos rfl]
    exact mR_err r rfl err
  | some j =>
    obtain ⟨hj, ea⟩ := dI_some d
    obtain ⟨s, k1, k2⟩ := m_reading h v hj r1
    obtain ⟨s', k1', k2'⟩ := m_reading h v hj (rD_8 (W := (T, n, H, g, N, len, c)) (u := 0) r).1
    have hrc : rc_ T j (j + 1) ≤ j + 1 := rc_le (j + 1)
    have h20 := v20 v hj
    have ej := ea
    rw [bs_1 rfl, if_neg (by decide), ea, pq_bd1 k1, pq_bd1 (m_manyOf k2), rc_20 v hj, pq_bd1 (m_inI (by omega))]
    rw [ea] at err
    dsimp only
    cases d2 : dI (rc_ T j (j + 1)) b with
    | none =>
      rw [bs_0 rfl, if_pos rfl]
      exact mR_err r rfl err
    | some k =>
      obtain ⟨hk, eb⟩ := dI_some d2
      rw [bs_1 rfl, if_neg (by decide)]
      refine mR_ok (S1 := pq_wi S (x + 1365) 8 0) r fn_rfl ?_
      unfold F_X11_readAt_b32
      rw [pq_bd1 hold0, if_neg (by decide), pq_bd1 k1', eb]
      exact m_kth k2' (by rw [rc_20 v hj]; exact hk)
theorem j_timesOf (h : sh_G G x) (v : vT T) (r : rD S x (T, n, H, g, N, len, c)) : mR x S (F_X11_timesOf G S (x + 1365) a) e_1 (q_tm T a) (T, n, H, g, N, len, c) := by
  obtain ⟨S1, k1, k2, k3, k4, k5, k6⟩ := m_gloss h v r.1
  have rr := fn_rD k2 r
  have m := (sh_mo h).2.2.2.2.2.2.2.2.2
  unfold q_tm F_X11_timesOf
  rw [pq_bd1 k1, k3, pq_bd1 (m_inI (by omega))]
  cases d : dI (gn T) a with
  | none =>
    rw [bs_0 rfl, if_pos rfl]
    refine mR_err' (u := 0) (t := 1) rr (fn_fr k2) rfl ?_
    unfold F_X11_timesOf_b24
    rw [pq_bd1 (hold1 (by decide)), if_pos rfl]
  | some j =>
    obtain ⟨hj, ea⟩ := dI_some d
    rw [bs_1 rfl, if_neg (by decide)]
    refine mR_ok' (S1 := pq_wi S1 (x + 1365) 8 0) rr (fn_fr k2) fn_rfl ?_
    unfold F_X11_timesOf_b24
    rw [pq_bd1 hold0, if_neg (by decide), ea, m.1, m.2, if_neg (nI_in (show j < 1200 by omega) (by omega)), nI_clamp (by omega), wi_a (by omega), k5 j hj]
theorem j_glossaryLetter (h : sh_G G x) (v : vT T) (r : rD S x (T, n, H, g, N, len, c)) : mR x S (F_X11_glossaryLetter G S (x + 1365) a b) e_1 (q_gl T a b) (T, n, H, g, N, len, c) := by
  obtain ⟨S1, k1, k2, k3, k4, k5, k6⟩ := m_gloss h v r.1
  have rr := fn_rD k2 r
  have m := (sh_mo h).2.2.2.2.2.2.2.2.1
  have err : F_X11_glossaryLetter_b28 G S1 (x + 1365) a b (1 : Int32) (x + 1365) = some (0, pq_wi S1 (x + 1365) 8 1) := by
    unfold F_X11_glossaryLetter_b28
    rw [pq_bd1 (hold1 (by decide)), if_pos rfl]
  unfold q_gl F_X11_glossaryLetter
  rw [pq_bd1 k1, k3, pq_bd1 (m_inI (by omega))]
  cases d : dI (gn T) a with
  | none =>
    rw [bs_0 rfl, if_pos rfl]
    exact mR_err' rr (fn_fr k2) rfl err
  | some j =>
    obtain ⟨hj, ea⟩ := dI_some d
    rw [bs_1 rfl, if_neg (by decide)]
    dsimp only
    by_cases c1 : b < 0
    · rw [if_pos c1, if_pos c1]
      exact mR_err' rr (fn_fr k2) rfl err
    · rw [if_neg c1, if_neg c1]
      refine mR_ok' (S1 := pq_wi S1 (x + 1365) 8 0) rr (fn_fr k2) fn_rfl ?_
      unfold F_X11_glossaryLetter_b28
      rw [pq_bd1 hold0, if_neg (by decide), ea, m.1, m.2, if_neg (nI_in (show j < 1200 by omega) (by omega)), nI_clamp (by omega), wi_2, k4 j hj, pq_bd1 m_letter]
/-! what throws nothing -/
theorem plain_ {q : Nat} {u : Int32} : F_X11_plain G S q u = some (u, pq_wi S q 8 0) := rfl
theorem i_day (h : sh_G G x) (r : rD S x (T, n, H, g, N, len, c)) : mI x S (F_X11_day G S (x + 1365)) T.day (T, n, H, g, N, len, c) := by
  have mm := m_many h
  have r1 : rA (S.1 (x + 1366)) (S.2 (x + 1367)) T := r.1
  refine ⟨_, ?_, fr_8, rD_8 (u := 0) r⟩
  unfold F_X11_day
  rw [mm.1, if_neg mm.2.2.1, mm.2.2.2.2, r1.1, pq_bd1 plain_]
theorem i_pamphlets (h : sh_G G x) (r : rD S x (T, n, H, g, N, len, c)) : mI x S (F_X11_pamphlets G S (x + 1365)) (nI T.cnt) (T, n, H, g, N, len, c) := by
  have mm := m_many h
  have r1 : rA (S.1 (x + 1366)) (S.2 (x + 1367)) T := r.1
  refine ⟨_, ?_, fr_8, rD_8 (u := 0) r⟩
  unfold F_X11_pamphlets
  rw [mm.1, if_neg mm.2.1, mm.2.2.2.1, r1.2.1, pq_bd1 plain_]
theorem i_savedStates (r : rD S x (T, n, H, g, N, len, c)) : mI x S (F_X11_savedStates G S (x + 1365)) (nI n) (T, n, H, g, N, len, c) := by
  have e4 : S.1 (x + 1365) 4 = nI n := r.2.1
  refine ⟨_, ?_, fr_8, rD_8 (u := 0) r⟩
  unfold F_X11_savedStates
  rw [e4, pq_bd1 plain_]
theorem i_glossary (h : sh_G G x) (v : vT T) (r : rD S x (T, n, H, g, N, len, c)) : mI x S (F_X11_glossary G S (x + 1365)) (nI (gn T)) (T, n, H, g, N, len, c) := by
  obtain ⟨S1, k1, k2, k3, -, -, -⟩ := m_gloss h v r.1
  refine ⟨_, ?_, fr_tr (fn_fr k2) fr_8, rD_8 (u := 0) (fn_rD k2 r)⟩
  unfold F_X11_glossary
  rw [pq_bd1 k1, k3, pq_bd1 plain_]
theorem mba_loop (h : sh_G G x) (v : vT T) : ∀ (m k f : Nat) (S : pq_N), k + m = 8 → m < f → rA (S.1 (x + 1366)) (S.2 (x + 1367)) T → ∃ S1, F_X11_blameByAuthors_b4 G f S (x + 1365) (nI (su (fun k => zw T (nI k) (-1)) k)) (nI k) = some (nI (zba T), pq_wi S1 (x + 1365) 8 0) ∧ fm x S S1 := by
  intro m
  induction m with
  | zero =>
    intro k f S hk hf rs
    obtain ⟨f, rfl⟩ : ∃ m, f = m + 1 := ⟨f - 1, by omega⟩
    have e : k = 8 := by omega
    subst e
    refine ⟨S, ?_, fm_rfl⟩
    rw [F_X11_blameByAuthors_b4.eq_2, if_pos (by decide), pq_bd1 plain_]
    rfl
  | succ m ih =>
    intro k f S hk hf rs
    obtain ⟨f, rfl⟩ : ∃ m, f = m + 1 := ⟨f - 1, by omega⟩
    obtain ⟨S1, k1, k2⟩ := m_blame h v (a := nI k) (o := -1) (nI_m1 (by omega)) rs
    obtain ⟨S2, p1, p2⟩ := ih (k + 1) f S1 (by omega) (by omega) (fm_rA k2 rs)
    refine ⟨S2, ?_, fm_tr k2 p2⟩
    rw [F_X11_blameByAuthors_b4.eq_2, show (8 : Int32) = nI 8 from rfl, if_neg (nI_ge (by omega) (by omega)), pq_bd1 k1, nI_add, nI_1]
    exact p1
theorem i_blameByAuthors (h : sh_G G x) (v : vT T) (r : rD S x (T, n, H, g, N, len, c)) : mI x S (F_X11_blameByAuthors G S (x + 1365)) (nI (zba T)) (T, n, H, g, N, len, c) := by
  obtain ⟨S1, k1, k2⟩ := mba_loop h v 8 0 pq_fuel S (by omega) (fuel_lt (by omega)) r.1
  exact ⟨_, k1, fr_tr (fn_fr (fn_of k2)) fr_8, rD_8 (fm_rD k2 r)⟩
theorem mbs_loop (h : sh_G G x) (v : vT T) : ∀ (m k f : Nat) (S : pq_N), k + m = T.cnt → m < f → rA (S.1 (x + 1366)) (S.2 (x + 1367)) T → ∃ S1, F_X11_blameBySources_b4 G f S (x + 1365) (nI (su (zu T) k)) (nI k) = some (nI (zbs T), pq_wi S1 (x + 1365) 8 0) ∧ fm x S S1 := by
  have mm := m_many h
  have h20 := v.1
  intro m
  induction m with
  | zero =>
    intro k f S hk hf rs
    obtain ⟨f, rfl⟩ : ∃ m, f = m + 1 := ⟨f - 1, by omega⟩
    have e : k = T.cnt := by omega
    refine ⟨S, ?_, fm_rfl⟩
    rw [F_X11_blameBySources_b4.eq_2, mm.1, if_neg mm.2.1, mm.2.2.2.1, rs.2.1, if_pos (nI_le (by omega) (by omega)), pq_bd1 plain_, e]
    rfl
  | succ m ih =>
    intro k f S hk hf rs
    obtain ⟨f, rfl⟩ : ∃ m, f = m + 1 := ⟨f - 1, by omega⟩
    obtain ⟨S1, k1, k2⟩ := m_blameAt h v (s := k) (by omega) rs
    obtain ⟨S2, p1, p2⟩ := ih (k + 1) f S1 (by omega) (by omega) (fm_rA k2 rs)
    refine ⟨S2, ?_, fm_tr k2 p2⟩
    rw [F_X11_blameBySources_b4.eq_2, mm.1, if_neg mm.2.1, mm.2.2.2.1, rs.2.1, if_neg (nI_ge (by omega) (by omega)), pq_bd1 k1, nI_add, nI_1]
    exact p1
theorem i_blameBySources (h : sh_G G x) (v : vT T) (r : rD S x (T, n, H, g, N, len, c)) : mI x S (F_X11_blameBySources G S (x + 1365)) (nI (zbs T)) (T, n, H, g, N, len, c) := by
  obtain ⟨S1, k1, k2⟩ := mbs_loop h v T.cnt 0 pq_fuel S (by omega) (fuel_lt (by have := v.1; omega)) r.1
  exact ⟨_, k1, fr_tr (fn_fr (fn_of k2)) fr_8, rD_8 (fm_rD k2 r)⟩
theorem i_faithfulShare (h : sh_G G x) (v : vT T) (r : rD S x (T, n, H, g, N, len, c)) : mI x S (F_X11_faithfulShare G S (x + 1365)) (zsh T) (T, n, H, g, N, len, c) := by
  have r8 := rD_8 (u := 0) r
  obtain ⟨S1, k1, k2⟩ := fs_out h v T.cnt 0 pq_fuel (pq_wi S (x + 1365) 8 0) (by omega) (fuel_lt (by have := v.1; omega)) r8.1
  exact ⟨_, k1, fr_tr fr_8 (fn_fr (fn_of k2)), fm_rD k2 r8⟩
theorem i_clearText (r : rD S x (T, n, H, g, N, len, c)) : mI x S (F_X11_clearText G S (x + 1365)) (nI len) (T, n, H, g, N, 0, c) := by
  obtain ⟨r1, r2, r3, r4, r5, r6, r7⟩ := r
  refine ⟨pq_wi (pq_wi S (x + 1365) 7 0) (x + 1365) 8 0, ?_, fr_tr fr_8 fr_8, rD_8 ⟨?_, by rw [wi_k (by decide)]; exact r2, ?_, by rw [wi_k (by decide)]; exact r4, ?_, wi_s, fun j hj => absurd hj (Nat.not_lt_zero _)⟩⟩
  · unfold F_X11_clearText
    rw [r6, pq_lt1, pq_bd1 plain_]
  · rw [wi_a (show x + 1366 ≠ x + 1365 by omega)]; exact r1
  · rw [wi_a (show x + 1368 ≠ x + 1365 by omega)]; exact r3
  · rw [wi_a (show x + 1368 ≠ x + 1365 by omega)]; exact r5
/-! texts -/
theorem rD_X (r : rD S x (T, n, H, g, N, len, c)) : rX S x len c := ⟨r.2.2.2.2.2.1, r.2.2.2.2.2.2⟩
theorem fx_fr {S1 : pq_N} {p : Nat} (f : fx x p S S1) : fr (x + 1365) (x + 1376) S S1 := fun b hb => f.1 b (by omega) (by omega) (by omega)
theorem fx_rD {S1 : pq_N} {p : Nat} (v : vT T) (hp : T.cnt ≤ p) (f : fx x p S S1) (r : rD S x (T, n, H, g, N, len, c)) : rD S1 x (T, n, H, g, N, len, c) := by
  obtain ⟨r1, r2, r3, r4, r5, r6, r7⟩ := r
  refine ⟨fx_rA v hp f r1, by rw [f.2.1 4 (by omega)]; exact r2, ?_, by rw [f.2.1 5 (by omega)]; exact r4, ?_, by rw [f.2.1 7 (by omega)]; exact r6, ?_⟩
  · rw [(f.1 (x + 1368) (by omega) (by omega) (by omega)).1, (f.1 (x + 1369) (by omega) (by omega) (by omega)).2]; exact r3
  · rw [(f.1 (x + 1368) (by omega) (by omega) (by omega)).1, (f.1 (x + 1369) (by omega) (by omega) (by omega)).2]; exact r5
  · rw [(f.1 (x + 1370) (by omega) (by omega) (by omega)).1]; exact r7
theorem vW_c (v : vW (T, n, H, g, N, len, c)) : ∀ j, j < len → c j < 1000 := fun j hj => by
  have k : c j ≤ 126 := v.2.2.2.2.2 j hj
  omega
theorem wsf_S {s : Nat} : wq T s = 3 ↔ ¬ s < T.cnt := by
  unfold wq
  by_cases c1 : s < T.cnt
  · rw [if_pos c1]
    by_cases c2 : (T.pm s).pd = T.day
    · rw [if_pos c2]; omega
    · rw [if_neg c2]; omega
  · rw [if_neg c1]; omega
theorem wsf_1 {P : tP} (k : Nat) : wsf T P (k + 1) = if wsf T P k = 3 then 3 else if wq T (P.qs k) = 3 then 3 else if wq T (P.qs k) ≤ wsf T P k then wsf T P k else wq T (P.qs k) := rfl
theorem wsf_3 {P : tP} : ∀ k q, q < k → ¬ P.qs q < T.cnt → wsf T P k = 3
  | 0, q, hq, _ => absurd hq (Nat.not_lt_zero _)
  | k + 1, q, hq, hs => by
    rw [wsf_1]
    by_cases c1 : wsf T P k = 3
    · rw [if_pos c1]
    · rw [if_neg c1]
      have e : q = k := by
        rcases Nat.lt_or_ge q k with z | z
        · exact absurd (wsf_3 k q z hs) c1
        · omega
      subst e
      rw [if_pos (wsf_S.mpr hs)]
theorem wsf_0 {P : tP} : ∀ k, (∀ q, q < k → P.qs q < T.cnt ∧ ¬ (T.pm (P.qs q)).pd = T.day) → wsf T P k = 0
  | 0, _ => rfl
  | k + 1, hq => by
    have ih := wsf_0 k (fun q h1 => hq q (by omega))
    have hk := hq k (by omega)
    have e : wq T (P.qs k) = 0 := by
      unfold wq
      rw [if_pos hk.1, if_neg hk.2]
    rw [wsf_1, ih, e]; rfl
theorem wsf_04 {P : tP} : ∀ k, (∀ q, q < k → P.qs q < T.cnt) → (wsf T P k = 0 ∨ wsf T P k = 4) ∧ ∀ q, q < k → (T.pm (P.qs q)).pd = T.day → wsf T P k = 4
  | 0, _ => ⟨Or.inl rfl, fun q hq => absurd hq (Nat.not_lt_zero _)⟩
  | k + 1, hq => by
    have ih := wsf_04 k (fun q h1 => hq q (by omega))
    have hk := hq k (by omega)
    by_cases c1 : (T.pm (P.qs k)).pd = T.day
    · have e : wq T (P.qs k) = 4 := by
        unfold wq
        rw [if_pos hk, if_pos c1]
      have e2 : wsf T P (k + 1) = 4 := by
        rw [wsf_1, e]
        rcases ih.1 with z | z
        · rw [z]; rfl
        · rw [z]; rfl
      exact ⟨Or.inr e2, fun _ _ _ => e2⟩
    · have e : wq T (P.qs k) = 0 := by
        unfold wq
        rw [if_pos hk, if_neg c1]
      have e2 : wsf T P (k + 1) = wsf T P k := by
        rw [wsf_1, e]
        rcases ih.1 with z | z
        · rw [z]; rfl
        · rw [z]; rfl
      rw [e2]
      refine ⟨ih.1, fun q h1 h2 => ?_⟩
      rcases Nat.lt_or_ge q k with z | z
      · exact ih.2 q z h2
      · have : q = k := by omega
        subst this
        exact absurd h2 c1
theorem wsf_wy {P : tP} : wsf T P P.qc = if wyS T P then 3 else if wyD T P then 4 else 0 := by
  cases e : fi (fun q => !decide (P.qs q < T.cnt)) 0 P.qc with
  | some q =>
    obtain ⟨h1, h2, h3, h4⟩ := fi_some e
    have eS : wyS T P = true := by unfold wyS; rw [e]; rfl
    rw [if_pos eS]
    exact wsf_3 P.qc q (by omega) (by simpa using h3)
  | none =>
    have hn := fi_none e
    have eS : ¬ wyS T P = true := by unfold wyS; rw [e]; exact Bool.false_ne_true
    have hq : ∀ q, q < P.qc → P.qs q < T.cnt := fun q hq => by simpa using hn q (Nat.zero_le _) (by omega)
    rw [if_neg eS]
    cases e2 : fi (fun q => (T.pm (P.qs q)).pd == T.day) 0 P.qc with
    | some q =>
      obtain ⟨h1, h2, h3, h4⟩ := fi_some e2
      have eD : wyD T P = true := by unfold wyD; rw [e2]; rfl
      rw [if_pos eD]
      exact (wsf_04 P.qc hq).2 q (by omega) (by simpa using h3)
    | none =>
      have hn2 := fi_none e2
      have eD : ¬ wyD T P = true := by unfold wyD; rw [e2]; exact Bool.false_ne_true
      rw [if_neg eD]
      exact wsf_0 P.qc (fun q h1 => ⟨hq q h1, by simpa using hn2 q (Nat.zero_le _) (by omega)⟩)
theorem i_errorPosition (h : sh_G G x) (v : vW (T, n, H, g, N, len, c)) (r : rD S x (T, n, H, g, N, len, c)) (au pd : Int32) : mI x S (F_X11_errorPosition G S (x + 1365)) (nI (tx c len au pd).1) (T, n, H, g, N, len, c) := by
  have vt : vT T := v.1
  obtain ⟨S1, k1, k2, k3, -⟩ := m_text h vt (p := 20) (Nat.le_refl _) vt.1 v.2.2.2.2.1 (vW_c v) (rD_X r) r.1 au pd
  have k1' : F_X11_readText G S (x + 1365) (20 : Int32) = some (nI (bN (ac len (tx c len au pd))), S1) := k1
  refine ⟨_, ?_, fr_tr (fx_fr k2) fr_8, rD_8 (u := 0) (fx_rD vt vt.1 k2 r)⟩
  unfold F_X11_errorPosition
  rw [pq_bd1 k1', k3, pq_bd1 plain_]
theorem m_why (h : sh_G G x) (v : vW (T, n, H, g, N, len, c)) (r : rD S x (T, n, H, g, N, len, c)) (au pd : Int32) : ∃ S1, F_X11_why G S (x + 1365) = some (nI (wy T len (tx c len au pd)), S1) ∧ fx x 20 S S1 := by
  have vt : vT T := v.1
  have h20 := vt.1
  have mm := m_many h
  have r1 : rA (S.1 (x + 1366)) (S.2 (x + 1367)) T := r.1
  unfold F_X11_why wy
  rw [mm.1, if_neg mm.2.1, mm.2.2.2.1, r1.2.1, show (20 : Int32) = nI 20 from rfl, if_eqI (by omega) (by omega)]
  by_cases c1 : T.cnt = 20
  · rw [if_pos c1, if_pos (by omega)]
    exact ⟨S, rfl, fx_rfl⟩
  · rw [if_neg c1, if_neg (by omega)]
    obtain ⟨S1, k1, k2, k3, k4⟩ := m_text h vt (p := 20) (Nat.le_refl _) vt.1 v.2.2.2.2.1 (vW_c v) (rD_X r) r.1 au pd
    rw [pq_bd1 k1]
    refine ⟨S1, ?_, k2⟩
    cases e : ac len (tx c len au pd) with
    | false => rw [b_00 rfl, if_pos rfl]; rfl
    | true =>
      rw [b_01 rfl, if_neg (by decide), (k4 e).1, wsf_wy]
      rfl
theorem i_whyNotPrinted (h : sh_G G x) (v : vW (T, n, H, g, N, len, c)) (r : rD S x (T, n, H, g, N, len, c)) (au pd : Int32) : mI x S (F_X11_whyNotPrinted G S (x + 1365)) (nI (wy T len (tx c len au pd))) (T, n, H, g, N, len, c) := by
  obtain ⟨S1, k1, k2⟩ := m_why h v r au pd
  have vt : vT T := v.1
  refine ⟨_, ?_, fr_tr (fx_fr k2) fr_8, rD_8 (u := 0) (fx_rD vt vt.1 k2 r)⟩
  unfold F_X11_whyNotPrinted
  rw [pq_bd1 k1, pq_bd1 plain_]
end MY
