/-! ANSWERS over the world -/
def ok {α : Type} (x : Nat) (W : tW) (F : Option (α × pq_N)) (r : α) : Prop := ∃ S1, F = some (r, S1) ∧ rC S1 x W
theorem ok_r {α : Type} {x : Nat} {W : tW} {S : pq_N} {r : α} (h : rC S x W) : ok x W (some (r, S)) r := ⟨S, rfl, h⟩
theorem ok_b {α β : Type} {x : Nat} {W W' : tW} {F : Option (α × pq_N)} {a : α} {f : α → pq_N → Option (β × pq_N)} {r : β} (h : ok x W F a) (k : ∀ S1, rC S1 x W → ok x W' (f a S1) r) : ok x W' (pq_bd F f) r := by
  obtain ⟨S1, h1, h2⟩ := h
  rw [pq_bd1 h1]
  exact k S1 h2
theorem ok_c {α : Type} {x : Nat} {S : pq_N} {F : Option (α × pq_N)} {r : α} {W : tW} (h : cc_ x S F r W) : ok x W F r ∧ vW W := by
  obtain ⟨S1, h1, -, h3, h4⟩ := h
  exact ⟨⟨S1, h1, h3⟩, h4⟩
theorem ok_e {α : Type} {x : Nat} {S : pq_N} {F : Option ((Nat ⊕ α) × pq_N)} {E : Option (α × pq_N)} {a : α} {W : tW} (d : E = pq_dr F) (h : cc_ x S F (Sum.inr a) W) : ok x W E a ∧ vW W := by
  obtain ⟨S1, h1, -, h3, h4⟩ := h
  rw [d, h1]
  exact ⟨⟨S1, rfl, h3⟩, h4⟩
theorem ok_q {x : Nat} {S : pq_N} {W : tW} (v : vW W) (r : rC S x W) {F : Option ((Nat ⊕ Int32) × pq_N)} {E : Option (Int32 × pq_N)} {a : Int32} {b : Nat ⊕ Int32} (d : E = pq_dr F) (h : qq x S F b) (e : b = Sum.inr a) : ok x W E a := by
  subst e
  obtain ⟨S1, h1, h2⟩ := h
  rw [d, h1]
  exact ⟨S1, rfl, rC_fr h2 v r⟩
theorem rC_s {S : pq_N} {x : Nat} {W : tW} (r : rC S x W) : rS S x 0 W.1 := by
  obtain ⟨T, n, H, g, N, len, c⟩ := W
  exact r.1
theorem vW_t {W : tW} (v : vW W) : vT W.1 := by
  obtain ⟨T, n, H, g, N, len, c⟩ := W
  exact v.1
theorem q1_v {T : tT} {f : Nat → Int32} {j : Nat} (v : vT T) (hj : j < T.cnt) : q1 T f (nI j) = Sum.inr (f j) := by
  have := v.1
  unfold q1
  rw [dI_of (by omega) hj]
theorem q2_v {T : tT} {f : Nat → Nat → Int32} {j q : Nat} (v : vT T) (hj : j < T.cnt) (hq : q < (T.pm j).qc) : q2 T f (nI j) (nI q) = Sum.inr (f j q) := by
  have := v.1
  have := v16 v hj
  unfold q2
  rw [dI_of (by omega) hj]
  dsimp only
  rw [dI_of (by omega) hq]
section AQ
variable {G : pq_G} {x : Nat} {S : pq_N} {W : tW} {j q k : Nat}
theorem a_authorOf (h : sh_G G x) (v : vW W) (r : rC S x W) (hj : j < W.1.cnt) : ok x W (E_X10_authorOf G S x (nI j)) (W.1.pm j).au := ok_q v r (d_X10_authorOf G S x _) (k_authorOf h (vW_t v) (rC_s r)) (q1_v (vW_t v) hj)
theorem a_dayOf (h : sh_G G x) (v : vW W) (r : rC S x W) (hj : j < W.1.cnt) : ok x W (E_X10_dayOf G S x (nI j)) (W.1.pm j).pd := ok_q v r (d_X10_dayOf G S x _) (k_dayOf h (vW_t v) (rC_s r)) (q1_v (vW_t v) hj)
theorem a_wordsOf (h : sh_G G x) (v : vW W) (r : rC S x W) (hj : j < W.1.cnt) : ok x W (E_X10_wordsOf G S x (nI j)) (nI (W.1.pm j).wc) := ok_q v r (d_X10_wordsOf G S x _) (k_wordsOf h (vW_t v) (rC_s r)) (q1_v (vW_t v) hj)
theorem a_pagesOf (h : sh_G G x) (v : vW W) (r : rC S x W) (hj : j < W.1.cnt) : ok x W (E_X10_pagesOf G S x (nI j)) (nI (((W.1.pm j).wc + 7) / 8)) := ok_q v r (d_X10_pagesOf G S x _) (k_pagesOf h (vW_t v) (rC_s r)) (q1_v (vW_t v) hj)
theorem a_wordsOn (h : sh_G G x) (v : vW W) (r : rC S x W) (hj : j < W.1.cnt) (hk : k < ((W.1.pm j).wc + 7) / 8) : ok x W (E_X10_wordsOn G S x (nI j) (nI k)) (nI (min ((W.1.pm j).wc - 8 * k) 8)) := ok_q v r (d_X10_wordsOn G S x _ _) (k_wordsOn h (vW_t v) (rC_s r)) (by
  have := (vW_t v).1
  have := v60 (vW_t v) hj
  unfold q_on
  rw [dI_of (by omega) hj]
  dsimp only
  rw [dI_of (by omega) hk])
theorem a_letterOf (h : sh_G G x) (v : vW W) (r : rC S x W) {i : Nat} (hj : j < W.1.cnt) (hk : k < (W.1.pm j).wc) (hi : i < 1000) : ok x W (E_X10_letterOf G S x (nI j) (nI k) (nI i)) (lI ((W.1.pm j).w k) (nI i)) := ok_q v r (d_X10_letterOf G S x _ _ _) (k_letterOf h (vW_t v) (rC_s r)) (by
  have := (vW_t v).1
  have := v60 (vW_t v) hj
  unfold q_let
  rw [dI_of (by omega) hj]
  dsimp only
  rw [dI_of (by omega) hk]
  dsimp only
  rw [if_neg (nI_pos (by omega))])
theorem a_isSameWord (h : sh_G G x) (v : vW W) (r : rC S x W) {j' k' : Nat} (hj : j < W.1.cnt) (hk : k < (W.1.pm j).wc) (hj' : j' < W.1.cnt) (hk' : k' < (W.1.pm j').wc) : ok x W (E_X10_isSameWord G S x (nI j) (nI k) (nI j') (nI k')) (nI (if (W.1.pm j).w k = (W.1.pm j').w k' then 1 else 0)) := ok_q v r (d_X10_isSameWord G S x _ _ _ _) (k_isSameWord h (vW_t v) (rC_s r)) (by
  have := (vW_t v).1
  have := v60 (vW_t v) hj
  have := v60 (vW_t v) hj'
  unfold q_same
  rw [dI_of (by omega) hj]
  dsimp only
  rw [dI_of (by omega) hk]
  dsimp only
  rw [dI_of (by omega) hj']
  dsimp only
  rw [dI_of (by omega) hk'])
theorem a_quotationsOf (h : sh_G G x) (v : vW W) (r : rC S x W) (hj : j < W.1.cnt) : ok x W (E_X10_quotationsOf G S x (nI j)) (nI (W.1.pm j).qc) := ok_q v r (d_X10_quotationsOf G S x _) (k_quotationsOf h (vW_t v) (rC_s r)) (q1_v (vW_t v) hj)
theorem a_sourceOf (h : sh_G G x) (v : vW W) (r : rC S x W) (hj : j < W.1.cnt) (hq : q < (W.1.pm j).qc) : ok x W (E_X10_sourceOf G S x (nI j) (nI q)) (nI (zs W.1 j q)) := ok_q v r (d_X10_sourceOf G S x _ _) (k_sourceOf h (vW_t v) (rC_s r)) (q2_v (vW_t v) hj hq)
theorem a_beginOf (h : sh_G G x) (v : vW W) (r : rC S x W) (hj : j < W.1.cnt) (hq : q < (W.1.pm j).qc) : ok x W (E_X10_beginOf G S x (nI j) (nI q)) (nI ((W.1.pm j).qb q)) := ok_q v r (d_X10_beginOf G S x _ _) (k_beginOf h (vW_t v) (rC_s r)) (q2_v (vW_t v) hj hq)
theorem a_lengthOf (h : sh_G G x) (v : vW W) (r : rC S x W) (hj : j < W.1.cnt) (hq : q < (W.1.pm j).qc) : ok x W (E_X10_lengthOf G S x (nI j) (nI q)) (nI ((W.1.pm j).ql q)) := ok_q v r (d_X10_lengthOf G S x _ _) (k_lengthOf h (vW_t v) (rC_s r)) (q2_v (vW_t v) hj hq)
theorem a_changesByTable (h : sh_G G x) (v : vW W) (r : rC S x W) (hj : j < W.1.cnt) (hq : q < (W.1.pm j).qc) : ok x W (E_X10_changesByTable G S x (nI j) (nI q)) (nI (zD W.1 j q)) := ok_q v r (d_X10_changesByTable G S x _ _) (k_changesByTable h (vW_t v) (rC_s r)) (q2_v (vW_t v) hj hq)
theorem a_changesByPassages (h : sh_G G x) (v : vW W) (r : rC S x W) (hj : j < W.1.cnt) (hq : q < (W.1.pm j).qc) : ok x W (E_X10_changesByPassages G S x (nI j) (nI q)) (nI (zD W.1 j q)) := ok_q v r (d_X10_changesByPassages G S x _ _) (k_changesByPassages h (vW_t v) (rC_s r)) (q2_v (vW_t v) hj hq)
theorem a_passageOf (h : sh_G G x) (v : vW W) (r : rC S x W) (hj : j < W.1.cnt) (hq : q < (W.1.pm j).qc) : ok x W (E_X10_passageOf G S x (nI j) (nI q)) (nI (zA W.1 j q)) := ok_q v r (d_X10_passageOf G S x _ _) (k_passageOf h (vW_t v) (rC_s r)) (q2_v (vW_t v) hj hq)
theorem a_passageLength (h : sh_G G x) (v : vW W) (r : rC S x W) (hj : j < W.1.cnt) (hq : q < (W.1.pm j).qc) : ok x W (E_X10_passageLength G S x (nI j) (nI q)) (nI (zL W.1 j q)) := ok_q v r (d_X10_passageLength G S x _ _) (k_passageLength h (vW_t v) (rC_s r)) (q2_v (vW_t v) hj hq)
theorem a_pageOf (h : sh_G G x) (v : vW W) (r : rC S x W) (hj : j < W.1.cnt) (hq : q < (W.1.pm j).qc) : ok x W (E_X10_pageOf G S x (nI j) (nI q)) (nI (zA W.1 j q / 8)) := ok_q v r (d_X10_pageOf G S x _ _) (k_pageOf h (vW_t v) (rC_s r)) (q2_v (vW_t v) hj hq)
theorem a_comesFrom (h : sh_G G x) (v : vW W) (r : rC S x W) (hj : j < W.1.cnt) (hq : q < (W.1.pm j).qc) : ok x W (E_X10_comesFrom G S x (nI j) (nI q)) (oI (zp W.1 j q)) := ok_q v r (d_X10_comesFrom G S x _ _) (k_comesFrom h (vW_t v) (rC_s r)) (q2_v (vW_t v) hj hq)
theorem a_originOf (h : sh_G G x) (v : vW W) (r : rC S x W) (hj : j < W.1.cnt) (hq : q < (W.1.pm j).qc) : ok x W (E_X10_originOf G S x (nI j) (nI q)) (nI (zt W.1 20 j q).1) := ok_q v r (d_X10_originOf G S x _ _) (k_originOf h (vW_t v) (rC_s r)) (q2_v (vW_t v) hj hq)
theorem a_traceOf (h : sh_G G x) (v : vW W) (r : rC S x W) (hj : j < W.1.cnt) (hq : q < (W.1.pm j).qc) : ok x W (E_X10_traceOf G S x (nI j) (nI q)) (nI ((zt W.1 20 j q).2)) := ok_q v r (d_X10_traceOf G S x _ _) (k_traceOf h (vW_t v) (rC_s r)) (q2_v (vW_t v) hj hq)
theorem a_changesAtOrigin (h : sh_G G x) (v : vW W) (r : rC S x W) (hj : j < W.1.cnt) (hq : q < (W.1.pm j).qc) : ok x W (E_X10_changesAtOrigin G S x (nI j) (nI q)) (nI (xd (W.1.pm j) (W.1.pm (zt W.1 20 j q).1) q)) := ok_q v r (d_X10_changesAtOrigin G S x _ _) (k_changesAtOrigin h (vW_t v) (rC_s r)) (q2_v (vW_t v) hj hq)
theorem a_quotedAgain (h : sh_G G x) (v : vW W) (r : rC S x W) (hj : j < W.1.cnt) (hq : q < (W.1.pm j).qc) : ok x W (E_X10_quotedAgain G S x (nI j) (nI q)) (nI (zc W.1 j q)) := ok_q v r (d_X10_quotedAgain G S x _ _) (k_quotedAgain h (vW_t v) (rC_s r)) (q2_v (vW_t v) hj hq)
theorem a_ladderOf (h : sh_G G x) (v : vW W) (r : rC S x W) (hj : j < W.1.cnt) : ok x W (E_X10_ladderOf G S x (nI j)) (nI (lt_ W.1 (j + 1) j)) := ok_q v r (d_X10_ladderOf G S x _) (k_ladderOf h (vW_t v) (rC_s r)) (q1_v (vW_t v) hj)
theorem a_laddersOf (h : sh_G G x) (v : vW W) (r : rC S x W) (hj : j < W.1.cnt) : ok x W (E_X10_laddersOf G S x (nI j)) (nI (gt_ W.1 (j + 1) j)) := ok_q v r (d_X10_laddersOf G S x _) (k_laddersOf h (vW_t v) (rC_s r)) (q1_v (vW_t v) hj)
theorem a_readingOf (h : sh_G G x) (v : vW W) (r : rC S x W) (hj : j < W.1.cnt) : ok x W (E_X10_readingOf G S x (nI j)) (nI (rc_ W.1 j (j + 1))) := ok_q v r (d_X10_readingOf G S x _) (k_readingOf h (vW_t v) (rC_s r)) (q1_v (vW_t v) hj)
theorem a_blameOf (h : sh_G G x) (v : vW W) (r : rC S x W) (hj : j < 8) : ok x W (E_X10_blameOf G S x (nI j)) (nI (zw W.1 (nI j) (-1))) := ok_q v r (d_X10_blameOf G S x _) (k_blameOf h (vW_t v) (rC_s r)) (by
  unfold q_bl
  rw [dI_of (by omega) hj])
theorem a_wrongs (h : sh_G G x) (v : vW W) (r : rC S x W) (hj : j < 8) (hk : k < 8) : ok x W (E_X10_wrongs G S x (nI j) (nI k)) (nI (zw W.1 (nI j) (nI k))) := ok_q v r (d_X10_wrongs G S x _ _) (k_wrongs h (vW_t v) (rC_s r)) (by
  unfold q_wr
  rw [dI_of (by omega) hj]
  dsimp only
  rw [dI_of (by omega) hk])
theorem a_answers (h : sh_G G x) (v : vW W) (r : rC S x W) (hj : j < W.1.cnt) (hk : k < W.1.cnt) : ok x W (E_X10_answers G S x (nI j) (nI k)) (nI (if qt W.1 j k then 1 else 0)) := ok_q v r (d_X10_answers G S x _ _) (k_answers h (vW_t v) (rC_s r)) (by
  have := (vW_t v).1
  unfold q_ans
  rw [dI_of (by omega) hj]
  dsimp only
  rw [dI_of (by omega) hk])
theorem a_readAt (h : sh_G G x) (v : vW W) (r : rC S x W) (hj : j < W.1.cnt) (hk : k < rc_ W.1 j (j + 1)) : ok x W (E_X10_readAt G S x (nI j) (nI k)) (kth (rd W.1 j) k 0 20) := ok_q v r (d_X10_readAt G S x _ _) (k_readAt h (vW_t v) (rC_s r)) (by
  have := (vW_t v).1
  have := rc_le (T := W.1) (p := j) (j + 1)
  unfold q_rd
  rw [dI_of (by omega) hj]
  dsimp only
  rw [dI_of (by omega) hk])
theorem gn_le {T : tT} (v : vT T) : gn T ≤ 1200 := by
  have hb := ga_n v T.cnt (Nat.le_refl _)
  have := v.1
  unfold gn
  omega
theorem a_timesOf (h : sh_G G x) (v : vW W) (r : rC S x W) (hk : k < gn W.1) : ok x W (E_X10_timesOf G S x (nI k)) (gt W.1 k) := ok_q v r (d_X10_timesOf G S x _) (k_timesOf h (vW_t v) (rC_s r)) (by
  have := gn_le (vW_t v)
  unfold q_tm
  rw [dI_of (by omega) hk])
theorem a_glossaryLetter (h : sh_G G x) (v : vW W) (r : rC S x W) {i : Nat} (hk : k < gn W.1) (hi : i < 1000) : ok x W (E_X10_glossaryLetter G S x (nI k) (nI i)) (lI (ge W.1 k) (nI i)) := ok_q v r (d_X10_glossaryLetter G S x _ _) (k_glossaryLetter h (vW_t v) (rC_s r)) (by
  have := gn_le (vW_t v)
  unfold q_gl
  rw [dI_of (by omega) hk]
  dsimp only
  rw [if_neg (nI_pos (by omega))])
theorem a_day (h : sh_G G x) (v : vW W) (r : rC S x W) : ok x W (F_X10_day G S x) W.1.day := by
  obtain ⟨T, n, H, g, N, len, c⟩ := W
  exact (ok_c (k_day h v r)).1
theorem a_pamphlets (h : sh_G G x) (v : vW W) (r : rC S x W) : ok x W (F_X10_pamphlets G S x) (nI W.1.cnt) := by
  obtain ⟨T, n, H, g, N, len, c⟩ := W
  exact (ok_c (k_pamphlets h v r)).1
theorem a_savedStates (h : sh_G G x) (v : vW W) (r : rC S x W) : ok x W (F_X10_savedStates G S x) (nI W.2.1) := by
  obtain ⟨T, n, H, g, N, len, c⟩ := W
  exact (ok_c (k_savedStates h v r)).1
theorem a_glossary (h : sh_G G x) (v : vW W) (r : rC S x W) : ok x W (F_X10_glossary G S x) (nI (gn W.1)) := by
  obtain ⟨T, n, H, g, N, len, c⟩ := W
  exact (ok_c (k_glossary h v r)).1
theorem a_blameByAuthors (h : sh_G G x) (v : vW W) (r : rC S x W) : ok x W (F_X10_blameByAuthors G S x) (nI (zba W.1)) := by
  obtain ⟨T, n, H, g, N, len, c⟩ := W
  exact (ok_c (k_blameByAuthors h v r)).1
theorem a_blameBySources (h : sh_G G x) (v : vW W) (r : rC S x W) : ok x W (F_X10_blameBySources G S x) (nI (zbs W.1)) := by
  obtain ⟨T, n, H, g, N, len, c⟩ := W
  exact (ok_c (k_blameBySources h v r)).1
theorem a_faithfulShare (h : sh_G G x) (v : vW W) (r : rC S x W) : ok x W (F_X10_faithfulShare G S x) (zsh W.1) := by
  obtain ⟨T, n, H, g, N, len, c⟩ := W
  exact (ok_c (k_faithfulShare h v r)).1
theorem a_errorPosition (h : sh_G G x) (v : vW W) (r : rC S x W) : ∃ au pd, ok x W (F_X10_errorPosition G S x) (nI (tx W.2.2.2.2.2.2 W.2.2.2.2.2.1 au pd).1) := by
  obtain ⟨T, n, H, g, N, len, c⟩ := W
  obtain ⟨au, pd, k⟩ := k_errorPosition h v r
  exact ⟨au, pd, (ok_c k).1⟩
theorem a_whyNotPrinted (h : sh_G G x) (v : vW W) (r : rC S x W) : ∃ au pd, ok x W (F_X10_whyNotPrinted G S x) (nI (wy W.1 W.2.2.2.2.2.1 (tx W.2.2.2.2.2.2 W.2.2.2.2.2.1 au pd))) := by
  obtain ⟨T, n, H, g, N, len, c⟩ := W
  obtain ⟨au, pd, k⟩ := k_whyNotPrinted h v r
  exact ⟨au, pd, (ok_c k).1⟩
/-! low: a number below n -/
theorem l_low {v : Int32} {n : Nat} (h1 : 1 ≤ n) (hn : n < 2147483648) : ∃ i, i < n ∧ F_L_low G S v (nI n) = some (nI i, S) := by
  obtain ⟨i, hi, e⟩ := pk_andE v (m := 2147483647) 31 (by decide)
  refine ⟨i % n, Nat.mod_lt _ h1, ?_⟩
  unfold F_L_low
  rw [if_neg (nI_ne0 h1 hn), e, nI_mod (by omega) hn]
theorem a_low {v : Int32} {n : Nat} (r : rC S x W) (h1 : 1 ≤ n) (hn : n < 2147483648) : ∃ i, i < n ∧ ok x W (F_L_low G S v (nI n)) (nI i) := by
  obtain ⟨i, hi, e⟩ := l_low (G := G) (S := S) (v := v) h1 hn
  exact ⟨i, hi, S, e, r⟩
end AQ
