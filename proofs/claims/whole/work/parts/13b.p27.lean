/-! THE METHODS of the reference: what a call answers -/
/-- R: what the class answers; u, t: what the reference answers, and what it says was thrown (e: its number for what the class throws) -/
def okR (e : Nat → Nat) (R : Nat ⊕ Int32) (u t : Int32) : Prop := match R with
  | Sum.inl k => t = nI (e k)
  | Sum.inr w => u = w ∧ t = nI 0
def mR (x : Nat) (S : pq_N) (F : Option (Int32 × pq_N)) (e : Nat → Nat) (R : Nat ⊕ Int32) (W : tW) : Prop := ∃ u S1, F = some (u, S1) ∧ fr (x + 1365) (x + 1376) S S1 ∧ rD S1 x W ∧ okR e R u (S1.1 (x + 1365) 8)
/-- a call that throws nothing -/
def mI (x : Nat) (S : pq_N) {α : Type} (F : Option (α × pq_N)) (u : α) (W : tW) : Prop := ∃ S1, F = some (u, S1) ∧ fr (x + 1365) (x + 1376) S S1 ∧ rD S1 x W
/-- numbers of what is thrown -/
def e_1 : Nat → Nat := fun _ => 1
def e_3 : Nat → Nat := fun k => if k = 3 then 1 else k
theorem bs_0 {o : Option Nat} (h : o = none) : nI (bN o.isSome) = (0 : Int32) := by subst h; rfl
theorem bs_1 {o : Option Nat} {j : Nat} (h : o = some j) : nI (bN o.isSome) = (1 : Int32) := by subst h; rfl
theorem rD_8 {S : pq_N} {x : Nat} {W : tW} {u : Int32} (r : rD S x W) : rD (pq_wi S (x + 1365) 8 u) x W := by
  obtain ⟨T, n, H, g, N, len, c⟩ := W
  obtain ⟨r1, r2, r3, r4, r5, r6, r7⟩ := r
  refine ⟨?_, by rw [wi_k (by decide)]; exact r2, ?_, by rw [wi_k (by decide)]; exact r4, ?_, by rw [wi_k (by decide)]; exact r6, ?_⟩
  · rw [wi_a (show x + 1366 ≠ x + 1365 by omega)]; exact r1
  · rw [wi_a (show x + 1368 ≠ x + 1365 by omega)]; exact r3
  · rw [wi_a (show x + 1368 ≠ x + 1365 by omega)]; exact r5
  · rw [wi_a (show x + 1370 ≠ x + 1365 by omega)]; exact r7
theorem fr_8 {S : pq_N} {x : Nat} {u : Int32} {k : Nat} : fr (x + 1365) (x + 1376) S (pq_wi S (x + 1365) k u) := fr_wi (Nat.le_refl _) (by omega)
theorem fn_fr {S S1 : pq_N} {x : Nat} (f : fn_ x S S1) : fr (x + 1365) (x + 1376) S S1 := fun b hb => f.1 b (by omega) (by omega)
theorem mR_err {x : Nat} {S : pq_N} {F : Option (Int32 × pq_N)} {e : Nat → Nat} {W : tW} {k : Nat} {u t : Int32} (r : rD S x W) (ht : t = nI (e k)) (hF : F = some (u, pq_wi S (x + 1365) 8 t)) : mR x S F e (Sum.inl k) W := ⟨u, _, hF, fr_8, rD_8 r, by
  show (pq_wi S (x + 1365) 8 t).1 (x + 1365) 8 = nI (e k)
  rw [wi_s, ht]⟩
theorem mR_err' {x : Nat} {S S0 : pq_N} {F : Option (Int32 × pq_N)} {e : Nat → Nat} {W : tW} {k : Nat} {u t : Int32} (r : rD S0 x W) (f : fr (x + 1365) (x + 1376) S S0) (ht : t = nI (e k)) (hF : F = some (u, pq_wi S0 (x + 1365) 8 t)) : mR x S F e (Sum.inl k) W := ⟨u, _, hF, fr_tr f fr_8, rD_8 r, by
  show (pq_wi S0 (x + 1365) 8 t).1 (x + 1365) 8 = nI (e k)
  rw [wi_s, ht]⟩
theorem mR_ok {x : Nat} {S S1 : pq_N} {F : Option (Int32 × pq_N)} {e : Nat → Nat} {W : tW} {w : Int32} (r : rD S x W) (f : fn_ x (pq_wi S (x + 1365) 8 (0 : Int32)) S1) (hF : F = some (w, S1)) : mR x S F e (Sum.inr w) W := ⟨w, S1, hF, fr_tr fr_8 (fn_fr f), fn_rD f (rD_8 r), rfl, by
  rw [f.2 8 (by omega), wi_s]; rfl⟩
theorem mR_ok' {x : Nat} {S S0 S1 : pq_N} {F : Option (Int32 × pq_N)} {e : Nat → Nat} {W : tW} {w : Int32} (r : rD S0 x W) (f0 : fr (x + 1365) (x + 1376) S S0) (f : fn_ x (pq_wi S0 (x + 1365) 8 (0 : Int32)) S1) (hF : F = some (w, S1)) : mR x S F e (Sum.inr w) W := ⟨w, S1, hF, fr_tr f0 (fr_tr fr_8 (fn_fr f)), fn_rD f (rD_8 r), rfl, by
  rw [f.2 8 (by omega), wi_s]; rfl⟩
section MX
variable {G : pq_G} {x : Nat} {T N : tT} {n len : Nat} {H : Nat → tT} {g : Bool} {c : Nat → Nat} {S : pq_N} {a b a3 a4 : Int32}
theorem hold0 {q : Nat} : F_X11_holds G S q (0 : Int32) = some (1, pq_wi S q 8 0) := by
  unfold F_X11_holds
  rw [pq_lt1, if_pos rfl]
theorem hold1 {q : Nat} {k : Int32} (hk : ¬ k = 0) : F_X11_holds G S q k = some (0, pq_wi S q 8 k) := by
  unfold F_X11_holds
  rw [pq_lt1, if_neg hk]
theorem m_inI {m : Nat} (hn : m < 1000000) : F_X11_in G S a (0 : Int32) (nI m - (1 : Int32)) = some (nI (bN (dI m a).isSome), S) := by
  cases d : dI m a with
  | none =>
    unfold F_X11_in
    rcases dI_none (by omega) d with c1 | ⟨c1, c2⟩
    · rw [if_pos c1]; rfl
    · rw [if_neg c1]
      rcases Nat.eq_zero_or_pos m with z | z
      · obtain ⟨s, hs, rfl⟩ := nI_of c1
        subst z
        rw [if_pos (by
          rw [show nI 0 - (1 : Int32) = -1 from by decide]
          rw [Int32.lt_iff_toInt_lt, nI_toInt (by omega)]
          have : (-1 : Int32).toInt = -1 := by decide
          omega)]
        rfl
      · rw [nI_sub1 z, if_pos (Int32.lt_of_lt_of_le (nI_lt (show m - 1 < m by omega) (by omega)) c2)]
        rfl
  | some j =>
    obtain ⟨hj, rfl⟩ := dI_some d
    unfold F_X11_in
    rw [if_neg (nI_pos (by omega)), nI_sub1 (by omega), if_neg (nI_nlt (by omega) (by omega))]
    rfl
theorem m_isPa (h : sh_G G x) (v : vT T) (rs : rA (S.1 (x + 1366)) (S.2 (x + 1367)) T) : F_X11_isPamphlet G S (x + 1365) a = some (nI (bN (dI T.cnt a).isSome), S) := by
  have mm := m_many h
  unfold F_X11_isPamphlet
  rw [mm.1, if_neg mm.2.1, mm.2.2.2.1, rs.2.1, pq_bd1 (m_inI (by have := v.1; omega))]
  cases (dI T.cnt a).isSome
  · rw [if_neg (fun z => z (Or.inl rfl))]
  · rw [if_neg (fun z => z (Or.inr rfl))]
theorem m_isAu : F_X11_isAuthor G S a = some (nI (bN (dI 8 a).isSome), S) := by
  have e : F_X11_in G S a (0 : Int32) (7 : Int32) = some (nI (bN (dI 8 a).isSome), S) := m_inI (m := 8) (by decide)
  unfold F_X11_isAuthor
  rw [pq_bd1 e]
  cases (dI 8 a).isSome
  · rw [if_neg (fun z => z (Or.inl rfl))]
  · rw [if_neg (fun z => z (Or.inr rfl))]
/-- whether there is such a quotation; such a word -/
def isq (T : tT) (a b : Int32) : Bool := match dI T.cnt a with
  | none => false
  | some j => (dI (T.pm j).qc b).isSome
def isw (T : tT) (a b : Int32) : Bool := match dI T.cnt a with
  | none => false
  | some j => (dI (T.pm j).wc b).isSome
theorem m_isQu (h : sh_G G x) (v : vT T) (rs : rA (S.1 (x + 1366)) (S.2 (x + 1367)) T) : F_X11_isQuote G S (x + 1365) a b = some (nI (bN (isq T a b)), S) := by
  unfold F_X11_isQuote
  rw [pq_bd1 (m_isPa h v rs)]
  unfold isq
  cases d : dI T.cnt a with
  | none =>
    rw [bs_0 rfl, if_pos rfl]; rfl
  | some j =>
    obtain ⟨hj, rfl⟩ := dI_some d
    show _ = some (nI (bN (dI (T.pm j).qc b).isSome), S)
    rw [bs_1 rfl, if_neg (by decide), pq_bd1 (m_qc h v rs hj), pq_bd1 (m_inI (by have := v16 v hj; omega))]
    cases d2 : dI (T.pm j).qc b with
    | none => rw [bs_0 rfl, if_pos rfl]
    | some q => rw [bs_1 rfl, if_neg (by decide)]
theorem m_isWo (h : sh_G G x) (v : vT T) (rs : rA (S.1 (x + 1366)) (S.2 (x + 1367)) T) : F_X11_isWord G S (x + 1365) a b = some (nI (bN (isw T a b)), S) := by
  unfold F_X11_isWord
  rw [pq_bd1 (m_isPa h v rs)]
  unfold isw
  cases d : dI T.cnt a with
  | none =>
    rw [bs_0 rfl, if_pos rfl]; rfl
  | some j =>
    obtain ⟨hj, rfl⟩ := dI_some d
    show _ = some (nI (bN (dI (T.pm j).wc b).isSome), S)
    rw [bs_1 rfl, if_neg (by decide), pq_bd1 (m_wc h v rs hj), pq_bd1 (m_inI (by have := v60 v hj; omega))]
    cases d2 : dI (T.pm j).wc b with
    | none => rw [bs_0 rfl, if_pos rfl]
    | some q => rw [bs_1 rfl, if_neg (by decide)]
theorem m_isTn (h : sh_G G x) (v : vT T) (rs : rA (S.1 (x + 1366)) (S.2 (x + 1367)) T) (e : isq T a b = false) : F_X11_isTold G S (x + 1365) a b = some (0, pq_wi S (x + 1365) 8 1) := by
  unfold F_X11_isTold
  rw [pq_bd1 (m_isQu h v rs), b_00 e, if_pos rfl, pq_bd1 (hold1 (by decide)), if_neg (fun z => z (Or.inl rfl))]
theorem m_isTy (h : sh_G G x) (v : vT T) (rs : rA (S.1 (x + 1366)) (S.2 (x + 1367)) T) (e : isq T a b = true) : F_X11_isTold G S (x + 1365) a b = some (1, pq_wi S (x + 1365) 8 0) := by
  unfold F_X11_isTold
  rw [pq_bd1 (m_isQu h v rs), b_01 e, if_neg (by decide), pq_bd1 hold0, if_neg (fun z => z (Or.inr rfl))]
/-- of a pamphlet -/
theorem mr1 {F : Option (Int32 × pq_N)} {f : Nat → Int32} (r : rD S x (T, n, H, g, N, len, c)) (hn : dI T.cnt a = none → F = some (0, pq_wi S (x + 1365) 8 1)) (hy : ∀ j, dI T.cnt a = some j → j < T.cnt → a = nI j → ∃ S1, F = some (f j, S1) ∧ fn_ x (pq_wi S (x + 1365) 8 0) S1) : mR x S F e_1 (q1 T f a) (T, n, H, g, N, len, c) := by
  unfold q1
  cases d : dI T.cnt a with
  | none => exact mR_err r rfl (hn d)
  | some j =>
    obtain ⟨S1, q1, q2⟩ := hy j d (dI_some d).1 (dI_some d).2
    exact mR_ok r q2 q1
/-- of a quotation -/
theorem mr2 (h : sh_G G x) (v : vT T) {body : pq_N → Option (Int32 × pq_N)} {f : Nat → Nat → Int32} (r : rD S x (T, n, H, g, N, len, c)) (hb : ∀ j q, j < T.cnt → q < (T.pm j).qc → a = nI j → b = nI q → ∀ U : pq_N, rA (U.1 (x + 1366)) (U.2 (x + 1367)) T → ∃ S2, body U = some (f j q, S2) ∧ fn_ x U S2) : mR x S (pq_bd (F_X11_isTold G S (x + 1365) a b) fun u U => if u = (0 : Int32) then some ((0 : Int32), U) else body U) e_1 (q2 T f a b) (T, n, H, g, N, len, c) := by
  have r1 : rA (S.1 (x + 1366)) (S.2 (x + 1367)) T := r.1
  unfold q2
  cases d : dI T.cnt a with
  | none =>
    have ei : isq T a b = false := by unfold isq; rw [d]
    refine mR_err (u := 0) (t := 1) r rfl ?_
    rw [pq_bd1 (m_isTn h v r1 ei), if_pos rfl]
  | some j =>
    show mR x S _ e_1 (match dI (T.pm j).qc b with | none => Sum.inl 3 | some q => Sum.inr (f j q)) _
    cases d2 : dI (T.pm j).qc b with
    | none =>
      have ei : isq T a b = false := by
        unfold isq; rw [d]
        show (dI (T.pm j).qc b).isSome = false
        rw [d2]; rfl
      refine mR_err (u := 0) (t := 1) r rfl ?_
      rw [pq_bd1 (m_isTn h v r1 ei), if_pos rfl]
    | some q =>
      have ei : isq T a b = true := by
        unfold isq; rw [d]
        show (dI (T.pm j).qc b).isSome = true
        rw [d2]; rfl
      obtain ⟨S2, k1, k2⟩ := hb j q (dI_some d).1 (dI_some d2).1 (dI_some d).2 (dI_some d2).2 (pq_wi S (x + 1365) 8 0) (rD_8 (W := (T, n, H, g, N, len, c)) r).1
      refine mR_ok r k2 ?_
      rw [pq_bd1 (m_isTy h v r1 ei), if_neg (by decide), k1]
theorem m_told_n (h : sh_G G x) (v : vT T) {w : Int32} (r : rD S x (T, n, H, g, N, len, c)) (d : dI T.cnt a = none) : F_X11_told G S (x + 1365) a w = some (0, pq_wi S (x + 1365) 8 1) := by
  unfold F_X11_told
  rw [pq_bd1 (m_isPa h v r.1), bs_0 d, if_pos rfl]
  unfold F_X11_told_b14
  rw [pq_bd1 (hold1 (by decide)), if_pos rfl]
theorem m_told_y (h : sh_G G x) (v : vT T) {w u : Int32} {j : Nat} (r : rD S x (T, n, H, g, N, len, c)) (d : dI T.cnt a = some j) (e : F_X11_get G (pq_wi S (x + 1365) 8 0) (x + 1365) a w = some (u, pq_wi S (x + 1365) 8 0)) : F_X11_told G S (x + 1365) a w = some (u, pq_wi S (x + 1365) 8 0) := by
  unfold F_X11_told
  rw [pq_bd1 (m_isPa h v r.1), bs_1 d, if_neg (by decide)]
  unfold F_X11_told_b14
  rw [pq_bd1 hold0, if_neg (by decide), pq_bd1 e]
theorem j_authorOf (h : sh_G G x) (v : vT T) (r : rD S x (T, n, H, g, N, len, c)) : mR x S (F_X11_authorOf G S (x + 1365) a) e_1 (q1 T (fun j => (T.pm j).au) a) (T, n, H, g, N, len, c) := by
  refine mr1 r (fun d => ?_) (fun j d hj ea => ?_)
  · unfold F_X11_authorOf
    rw [pq_bd1 (m_told_n h v r d)]
  · unfold F_X11_authorOf
    rw [pq_bd1 (m_told_y h v r d (by rw [ea]; exact m_au h v (rD_8 (W := (T, n, H, g, N, len, c)) r).1 hj))]
    exact ⟨_, rfl, fn_rfl⟩
theorem j_dayOf (h : sh_G G x) (v : vT T) (r : rD S x (T, n, H, g, N, len, c)) : mR x S (F_X11_dayOf G S (x + 1365) a) e_1 (q1 T (fun j => (T.pm j).pd) a) (T, n, H, g, N, len, c) := by
  refine mr1 r (fun d => ?_) (fun j d hj ea => ?_)
  · unfold F_X11_dayOf
    rw [pq_bd1 (m_told_n h v r d)]
  · unfold F_X11_dayOf
    rw [pq_bd1 (m_told_y h v r d (by rw [ea]; exact m_pd h v (rD_8 (W := (T, n, H, g, N, len, c)) r).1 hj))]
    exact ⟨_, rfl, fn_rfl⟩
theorem j_wordsOf (h : sh_G G x) (v : vT T) (r : rD S x (T, n, H, g, N, len, c)) : mR x S (F_X11_wordsOf G S (x + 1365) a) e_1 (q1 T (fun j => nI (T.pm j).wc) a) (T, n, H, g, N, len, c) := by
  refine mr1 r (fun d => ?_) (fun j d hj ea => ?_)
  · unfold F_X11_wordsOf
    rw [pq_bd1 (m_told_n h v r d)]
  · unfold F_X11_wordsOf
    rw [pq_bd1 (m_told_y h v r d (by rw [ea]; exact m_wc h v (rD_8 (W := (T, n, H, g, N, len, c)) r).1 hj))]
    exact ⟨_, rfl, fn_rfl⟩
theorem j_quotationsOf (h : sh_G G x) (v : vT T) (r : rD S x (T, n, H, g, N, len, c)) : mR x S (F_X11_quotationsOf G S (x + 1365) a) e_1 (q1 T (fun j => nI (T.pm j).qc) a) (T, n, H, g, N, len, c) := by
  refine mr1 r (fun d => ?_) (fun j d hj ea => ?_)
  · unfold F_X11_quotationsOf
    rw [pq_bd1 (m_told_n h v r d)]
  · unfold F_X11_quotationsOf
    rw [pq_bd1 (m_told_y h v r d (by rw [ea]; exact m_qc h v (rD_8 (W := (T, n, H, g, N, len, c)) r).1 hj))]
    exact ⟨_, rfl, fn_rfl⟩
theorem j_pagesOf (h : sh_G G x) (v : vT T) (r : rD S x (T, n, H, g, N, len, c)) : mR x S (F_X11_pagesOf G S (x + 1365) a) e_1 (q1 T (fun j => nI (((T.pm j).wc + 7) / 8)) a) (T, n, H, g, N, len, c) := by
  refine mr1 r (fun d => ?_) (fun j d hj ea => ?_)
  · unfold F_X11_pagesOf
    rw [pq_bd1 (m_isPa h v r.1), bs_0 d, if_pos rfl]
    unfold F_X11_pagesOf_b14
    rw [pq_bd1 (hold1 (by decide)), if_pos rfl]
  · have h60 := v60 v hj
    have ew := m_wc h v (rD_8 (W := (T, n, H, g, N, len, c)) (u := 0) r).1 hj
    unfold F_X11_pagesOf
    rw [pq_bd1 (m_isPa h v r.1), bs_1 d, if_neg (by decide)]
    unfold F_X11_pagesOf_b14
    rw [pq_bd1 hold0, if_neg (by decide), ea, pq_bd1 ew, show (8 : Int32) = nI 8 from rfl, nI_add, nI_sub1 (by omega), nI_div (by omega) (by omega), show (T.pm j).wc + 8 - 1 = (T.pm j).wc + 7 from by omega]
    exact ⟨_, rfl, fn_rfl⟩
theorem j_wordsOn (h : sh_G G x) (v : vT T) (r : rD S x (T, n, H, g, N, len, c)) : mR x S (F_X11_wordsOn G S (x + 1365) a b) e_1 (q_on T a b) (T, n, H, g, N, len, c) := by
  have r1 : rA (S.1 (x + 1366)) (S.2 (x + 1367)) T := r.1
  have err : F_X11_wordsOn_b37 G S (x + 1365) a b (1 : Int32) (x + 1365) = some (0, pq_wi S (x + 1365) 8 1) := by
    unfold F_X11_wordsOn_b37
    rw [pq_bd1 (hold1 (by decide)), if_pos rfl]
  unfold q_on F_X11_wordsOn
  rw [pq_bd1 (m_isPa h v r1)]
  cases d : dI T.cnt a with
  | none =>
    rw [bs_0 rfl, if_pos rfl]
    exact mR_err r rfl err
  | some j =>
    obtain ⟨hj, ea⟩ := dI_some d
    have h60 := v60 v hj
    rw [bs_1 rfl, if_neg (by decide)]
    show mR x S _ e_1 (match dI (((T.pm j).wc + 7) / 8) b with | none => Sum.inl 3 | some k => Sum.inr (nI (min ((T.pm j).wc - 8 * k) 8))) _
    cases d2 : dI (((T.pm j).wc + 7) / 8) b with
    | none =>
      refine mR_err (u := 0) (t := 1) r rfl ?_
      · rcases dI_none (by omega) d2 with c1 | ⟨c1, c2⟩
        · rw [if_pos c1, err]
        · obtain ⟨i, hi, rfl⟩ := nI_of c1
          have hle : ((T.pm j).wc + 7) / 8 ≤ i := (nI_leI (by omega) hi).mp c2
          rw [if_neg c1, show (60 : Int32) = nI 60 from rfl, if_leI (by omega) (by omega)]
          by_cases c3 : 60 ≤ i
          · rw [if_pos c3, err]
          · rw [if_neg c3, ea, pq_bd1 (m_wc h v r1 hj), show (8 : Int32) = nI 8 from rfl, nI_mul, if_leI (by omega) (by omega), if_pos (by omega), ← ea, err]
    | some k =>
      obtain ⟨hk, eb⟩ := dI_some d2
      have ew := m_wc h v (rD_8 (W := (T, n, H, g, N, len, c)) (u := 0) r).1 hj
      refine mR_ok (S1 := pq_wi S (x + 1365) 8 0) r fn_rfl ?_
      rw [eb, if_neg (nI_pos (by omega)), show (60 : Int32) = nI 60 from rfl, if_leI (by omega) (by omega), if_neg (by omega), ea, pq_bd1 (m_wc h v r1 hj), show (8 : Int32) = nI 8 from rfl, nI_mul, if_leI (by omega) (by omega), if_neg (by omega)]
      unfold F_X11_wordsOn_b37
      rw [pq_bd1 hold0, if_neg (by decide), pq_bd1 ew, show (8 : Int32) = nI 8 from rfl, nI_mul, nI_sub (by omega), if_leI (by omega) (by omega)]
      by_cases c1 : 8 ≤ (T.pm j).wc - 8 * k
      · rw [if_pos c1, Nat.min_eq_right c1]
      · rw [if_neg c1, Nat.min_eq_left (by omega)]
theorem m_letter {w : Int64} {i : Int32} : F_X11_letter G S w i = some (lI w i, S) := by
  unfold F_X11_letter lI
  by_cases c1 : i < 7
  · rw [if_pos c1, if_neg (Int32.not_le.mpr c1), Int64.toInt32_and, show Int64.toInt32 (31 : Int64) = (31 : Int32) from rfl]
    unfold F_X11_letter_b23
    split
    · rfl
    · rw [Int32.add_comm (97 : Int32)]
  · rw [if_neg c1, if_pos (Int32.not_lt.mp c1)]
    rfl
theorem j_letterOf (h : sh_G G x) (v : vT T) (r : rD S x (T, n, H, g, N, len, c)) : mR x S (F_X11_letterOf G S (x + 1365) a b a3) e_1 (q_let T a b a3) (T, n, H, g, N, len, c) := by
  have r1 : rA (S.1 (x + 1366)) (S.2 (x + 1367)) T := r.1
  have err : F_X11_letterOf_b19 G S (x + 1365) a b a3 (1 : Int32) (x + 1365) = some (0, pq_wi S (x + 1365) 8 1) := by
    unfold F_X11_letterOf_b19
    rw [pq_bd1 (hold1 (by decide)), if_pos rfl]
  unfold q_let F_X11_letterOf
  rw [pq_bd1 (m_isWo h v r1)]
  cases d : dI T.cnt a with
  | none =>
    have ei : isw T a b = false := by unfold isw; rw [d]
    rw [b_00 ei, if_pos rfl]
    exact mR_err r rfl err
  | some j =>
    obtain ⟨hj, ea⟩ := dI_some d
    show mR x S _ e_1 (match dI (T.pm j).wc b with | none => Sum.inl 3 | some k => if a3 < 0 then Sum.inl 3 else Sum.inr (lI ((T.pm j).w k) a3)) _
    cases d2 : dI (T.pm j).wc b with
    | none =>
      have ei : isw T a b = false := by
        unfold isw; rw [d]
        show (dI (T.pm j).wc b).isSome = false
        rw [d2]; rfl
      rw [b_00 ei, if_pos rfl]
      exact mR_err r rfl err
    | some k =>
      obtain ⟨hk, eb⟩ := dI_some d2
      have ei : isw T a b = true := by
        unfold isw; rw [d]
        show (dI (T.pm j).wc b).isSome = true
        rw [d2]; rfl
      rw [b_01 ei, if_neg (by decide)]
      show mR x S _ e_1 (if a3 < 0 then Sum.inl 3 else Sum.inr (lI ((T.pm j).w k) a3)) _
      by_cases c1 : a3 < 0
      · rw [if_pos c1, if_pos c1]
        exact mR_err r rfl err
      · rw [if_neg c1, if_neg c1]
        refine mR_ok (S1 := pq_wi S (x + 1365) 8 0) r fn_rfl ?_
        unfold F_X11_letterOf_b19
        rw [pq_bd1 hold0, if_neg (by decide), ea, eb, pq_bd1 (m_wat h v (rD_8 (W := (T, n, H, g, N, len, c)) r).1 hj hk), pq_bd1 m_letter]
theorem j_isSameWord (h : sh_G G x) (v : vT T) (r : rD S x (T, n, H, g, N, len, c)) : mR x S (F_X11_isSameWord G S (x + 1365) a b a3 a4) e_1 (q_same T a b a3 a4) (T, n, H, g, N, len, c) := by
  have r1 : rA (S.1 (x + 1366)) (S.2 (x + 1367)) T := r.1
  have err : F_X11_isSameWord_b25 G S (x + 1365) a b a3 a4 (1 : Int32) (x + 1365) = some (0, pq_wi S (x + 1365) 8 1) := by
    unfold F_X11_isSameWord_b25
    rw [pq_bd1 (hold1 (by decide)), if_pos rfl]
  unfold q_same F_X11_isSameWord
  rw [pq_bd1 (m_isWo h v r1)]
  cases d : dI T.cnt a with
  | none =>
    have ei : isw T a b = false := by unfold isw; rw [d]
    rw [b_00 ei, if_pos rfl]
    exact mR_err r rfl err
  | some j =>
    obtain ⟨hj, ea⟩ := dI_some d
    dsimp only
    cases d2 : dI (T.pm j).wc b with
    | none =>
      have ei : isw T a b = false := by
        unfold isw; rw [d]
        show (dI (T.pm j).wc b).isSome = false
        rw [d2]; rfl
      rw [b_00 ei, if_pos rfl]
      exact mR_err r rfl err
    | some k =>
      obtain ⟨hk, eb⟩ := dI_some d2
      have ei : isw T a b = true := by
        unfold isw; rw [d]
        show (dI (T.pm j).wc b).isSome = true
        rw [d2]; rfl
      rw [b_01 ei, if_neg (by decide), pq_bd1 (m_isWo h v r1)]
      dsimp only
      cases d3 : dI T.cnt a3 with
      | none =>
        have ei : isw T a3 a4 = false := by unfold isw; rw [d3]
        rw [b_00 ei, if_pos rfl]
        exact mR_err r rfl err
      | some j' =>
        obtain ⟨hj', ea'⟩ := dI_some d3
        dsimp only
        cases d4 : dI (T.pm j').wc a4 with
        | none =>
          have ei : isw T a3 a4 = false := by
            unfold isw; rw [d3]
            show (dI (T.pm j').wc a4).isSome = false
            rw [d4]; rfl
          rw [b_00 ei, if_pos rfl]
          exact mR_err r rfl err
        | some k' =>
          obtain ⟨hk', eb'⟩ := dI_some d4
          have ei : isw T a3 a4 = true := by
            unfold isw; rw [d3]
            show (dI (T.pm j').wc a4).isSome = true
            rw [d4]; rfl
          rw [b_01 ei, if_neg (by decide)]
          refine mR_ok (S1 := pq_wi S (x + 1365) 8 0) r fn_rfl ?_
          have r8 := (rD_8 (W := (T, n, H, g, N, len, c)) (u := 0) r).1
          unfold F_X11_isSameWord_b25
          rw [pq_bd1 hold0, if_neg (by decide), ea, eb, ea', eb', pq_bd1 (m_wat h v r8 hj hk), pq_bd1 (m_wat h v r8 hj' hk')]
          by_cases c1 : (T.pm j).w k = (T.pm j').w k'
          · rw [if_pos ((lg_cmp0 _ _).mpr c1), if_pos c1]; rfl
          · rw [if_neg (fun z => c1 ((lg_cmp0 _ _).mp z)), if_neg c1]; rfl
/-! of a quotation -/
theorem j_sourceOf (h : sh_G G x) (v : vT T) (r : rD S x (T, n, H, g, N, len, c)) : mR x S (F_X11_sourceOf G S (x + 1365) a b) e_1 (q2 T (fun j q => nI (zs T j q)) a b) (T, n, H, g, N, len, c) := by
  unfold F_X11_sourceOf
  refine mr2 h v r (fun j q hj hq ea eb U rs => ?_)
  rw [ea, eb, pq_bd1 (m_source h v rs hj hq)]
  exact ⟨U, rfl, fn_rfl⟩
theorem j_beginOf (h : sh_G G x) (v : vT T) (r : rD S x (T, n, H, g, N, len, c)) : mR x S (F_X11_beginOf G S (x + 1365) a b) e_1 (q2 T (fun j q => nI ((T.pm j).qb q)) a b) (T, n, H, g, N, len, c) := by
  unfold F_X11_beginOf
  refine mr2 h v r (fun j q hj hq ea eb U rs => ?_)
  rw [ea, eb, pq_bd1 (m_begin h v rs hj hq)]
  exact ⟨U, rfl, fn_rfl⟩
theorem j_lengthOf (h : sh_G G x) (v : vT T) (r : rD S x (T, n, H, g, N, len, c)) : mR x S (F_X11_lengthOf G S (x + 1365) a b) e_1 (q2 T (fun j q => nI ((T.pm j).ql q)) a b) (T, n, H, g, N, len, c) := by
  unfold F_X11_lengthOf
  refine mr2 h v r (fun j q hj hq ea eb U rs => ?_)
  rw [ea, eb, pq_bd1 (m_size h v rs hj hq)]
  exact ⟨U, rfl, fn_rfl⟩
theorem j_changesByTable (h : sh_G G x) (v : vT T) (r : rD S x (T, n, H, g, N, len, c)) : mR x S (F_X11_changesByTable G S (x + 1365) a b) e_1 (q2 T (fun j q => nI (zD T j q)) a b) (T, n, H, g, N, len, c) := by
  unfold F_X11_changesByTable
  refine mr2 h v r (fun j q hj hq ea eb U rs => ?_)
  obtain ⟨S1, k1, k2⟩ := m_byTable h v hj hq rs
  rw [ea, eb, pq_bd1 k1]
  exact ⟨S1, rfl, fn_of k2⟩
theorem j_changesByPassages (h : sh_G G x) (v : vT T) (r : rD S x (T, n, H, g, N, len, c)) : mR x S (F_X11_changesByPassages G S (x + 1365) a b) e_1 (q2 T (fun j q => nI (zD T j q)) a b) (T, n, H, g, N, len, c) := by
  unfold F_X11_changesByPassages
  refine mr2 h v r (fun j q hj hq ea eb U rs => ?_)
  obtain ⟨S1, k1, k2⟩ := m_changesOf h v hj hq rs
  rw [ea, eb, pq_bd1 k1]
  exact ⟨S1, rfl, fn_of k2⟩
theorem j_passageOf (h : sh_G G x) (v : vT T) (r : rD S x (T, n, H, g, N, len, c)) : mR x S (F_X11_passageOf G S (x + 1365) a b) e_1 (q2 T (fun j q => nI (zA T j q)) a b) (T, n, H, g, N, len, c) := by
  unfold F_X11_passageOf
  refine mr2 h v r (fun j q hj hq ea eb U rs => ?_)
  obtain ⟨S1, k1, k2, k3, k4, k5⟩ := m_find0 h v hj hq rs
  rw [ea, eb, pq_bd1 (m_source h v rs hj hq), pq_bd1 k1, k4]
  exact ⟨S1, rfl, fn_of k2⟩
theorem j_passageLength (h : sh_G G x) (v : vT T) (r : rD S x (T, n, H, g, N, len, c)) : mR x S (F_X11_passageLength G S (x + 1365) a b) e_1 (q2 T (fun j q => nI (zL T j q)) a b) (T, n, H, g, N, len, c) := by
  unfold F_X11_passageLength
  refine mr2 h v r (fun j q hj hq ea eb U rs => ?_)
  obtain ⟨S1, k1, k2, k3, k4, k5⟩ := m_find0 h v hj hq rs
  rw [ea, eb, pq_bd1 (m_source h v rs hj hq), pq_bd1 k1, k5]
  exact ⟨S1, rfl, fn_of k2⟩
theorem j_pageOf (h : sh_G G x) (v : vT T) (r : rD S x (T, n, H, g, N, len, c)) : mR x S (F_X11_pageOf G S (x + 1365) a b) e_1 (q2 T (fun j q => nI (zA T j q / 8)) a b) (T, n, H, g, N, len, c) := by
  unfold F_X11_pageOf
  refine mr2 h v r (fun j q hj hq ea eb U rs => ?_)
  obtain ⟨S1, k1, k2, k3, k4, k5⟩ := m_find0 h v hj hq rs
  have g1 := vx v hj hq
  have g2 := vq v hj hq
  rw [ea, eb, pq_bd1 (m_source h v rs hj hq), pq_bd1 k1, k4, show (8 : Int32) = nI 8 from rfl, nI_div (by omega) (by omega)]
  exact ⟨S1, rfl, fn_of k2⟩
theorem j_comesFrom (h : sh_G G x) (v : vT T) (r : rD S x (T, n, H, g, N, len, c)) : mR x S (F_X11_comesFrom G S (x + 1365) a b) e_1 (q2 T (fun j q => oI (zp T j q)) a b) (T, n, H, g, N, len, c) := by
  unfold F_X11_comesFrom
  refine mr2 h v r (fun j q hj hq ea eb U rs => ?_)
  obtain ⟨S1, k1, k2⟩ := m_from h v hj hq rs
  rw [ea, eb, pq_bd1 k1]
  exact ⟨S1, rfl, fn_of k2⟩
theorem j_originOf (h : sh_G G x) (v : vT T) (r : rD S x (T, n, H, g, N, len, c)) : mR x S (F_X11_originOf G S (x + 1365) a b) e_1 (q2 T (fun j q => nI (zt T 20 j q).1) a b) (T, n, H, g, N, len, c) := by
  unfold F_X11_originOf
  refine mr2 h v r (fun j q hj hq ea eb U rs => ?_)
  obtain ⟨S1, k1, k2, k3, k4⟩ := m_trace h v hj hq rs
  rw [ea, eb, pq_bd1 k1, k3]
  exact ⟨S1, rfl, k2⟩
theorem j_traceOf (h : sh_G G x) (v : vT T) (r : rD S x (T, n, H, g, N, len, c)) : mR x S (F_X11_traceOf G S (x + 1365) a b) e_1 (q2 T (fun j q => nI (zt T 20 j q).2) a b) (T, n, H, g, N, len, c) := by
  unfold F_X11_traceOf
  refine mr2 h v r (fun j q hj hq ea eb U rs => ?_)
  obtain ⟨S1, k1, k2, k3, k4⟩ := m_trace h v hj hq rs
  rw [ea, eb, pq_bd1 k1, k4]
  exact ⟨S1, rfl, k2⟩
theorem j_changesAtOrigin (h : sh_G G x) (v : vT T) (r : rD S x (T, n, H, g, N, len, c)) : mR x S (F_X11_changesAtOrigin G S (x + 1365) a b) e_1 (q2 T (fun j q => nI (xd (T.pm j) (T.pm (zt T 20 j q).1) q)) a b) (T, n, H, g, N, len, c) := by
  unfold F_X11_changesAtOrigin
  refine mr2 h v r (fun j q hj hq ea eb U rs => ?_)
  obtain ⟨S1, k1, k2, k3, k4⟩ := m_trace h v hj hq rs
  have ho := zt_lt v (f := 20) hj hq
  obtain ⟨S2, p1, p2, p3, -, -⟩ := m_find h v hj hq (show (zt T 20 j q).1 < T.cnt by omega) (fn_rA k2 rs)
  rw [ea, eb, pq_bd1 k1, k3, pq_bd1 p1, p3]
  exact ⟨S2, rfl, fn_tr k2 (fn_of p2)⟩
theorem j_quotedAgain (h : sh_G G x) (v : vT T) (r : rD S x (T, n, H, g, N, len, c)) : mR x S (F_X11_quotedAgain G S (x + 1365) a b) e_1 (q2 T (fun j q => nI (zc T j q)) a b) (T, n, H, g, N, len, c) := by
  unfold F_X11_quotedAgain
  refine mr2 h v r (fun j q hj hq ea eb U rs => ?_)
  obtain ⟨S1, k1, k2⟩ := qa_out h v hj hq T.cnt 0 pq_fuel U (by omega) (fuel_lt (by have := v.1; omega)) rs
  rw [ea, eb]
  exact ⟨S1, k1, fn_of k2⟩
end MX
